/-! TileRules$RowGraph.addRows(IIII)V -/
abbrev rm_X5_addRows (f0 l0 : Nat) : Room := { frames := f0 + 2, cells := 0, slots := 0, locals := l0 + 55 }
def w_X5_addRows_20b (rc : Int32 → Int32 → Int32 → Int32 → gI → (gI → Prop) → Prop) (room : Nat) (Po : gI → Prop) (K20 : Int32 → gI → Prop) (v1 : Int32) (v2 : Int32) (v3 : Int32) (v4 : Int32) (v5 : Int32) (I : gI) : Prop :=
  ((I 10 4) ≤ v5 → Po I) ∧ (¬ (I 10 4) ≤ v5 → wp_X5_addRowsWith rc room v5 v1 v2 v3 v4 I (fun I3 => ∀ n4 : Int32, n4 = v5 + 1 → K20 n4 I3))
def w_X5_addRows_20 (rc : Int32 → Int32 → Int32 → Int32 → gI → (gI → Prop) → Prop) (room : Nat) (Po : gI → Prop)  (v1 : Int32) (v2 : Int32) (v3 : Int32) (v4 : Int32) (v5 : Int32) (I : gI) : Prop :=
  ∃ (Inv : Int32 → gI → Prop) (mu : Int32 → gI → Nat), Inv v5 I ∧ ∀ (v5 : Int32) (I : gI), Inv v5 I → w_X5_addRows_20b rc room Po  (fun u5 I1 => Inv u5 I1 ∧ mu u5 I1 < mu v5 I) v1 v2 v3 v4 v5 I
def wb_X5_addRows (rc : Int32 → Int32 → Int32 → Int32 → gI → (gI → Prop) → Prop) (room : Nat) (a1 : Int32) (a2 : Int32) (a3 : Int32) (a4 : Int32) (I : gI) (Po : gI → Prop) : Prop :=
  (a1 < (I 70 9) → w_X5_addRows_20 rc room Po a1 a2 a3 a4 (0 : Int32) I) ∧ (¬ a1 < (I 70 9) → wp_X5_keepRow room a2 a3 a4 I (fun I5 => Po I5))
set_option maxRecDepth 100000 in
set_option maxHeartbeats 4000000 in
theorem t_X5_addRows_20b {X : gX} {l : Launch} {D : va_G} {cy : Nat → ClassId} {nm : String} {V : gV} {rc : Int32 → Int32 → Int32 → Int32 → gI → (gI → Prop) → Prop} {room : Nat} {f0 l0 : Nat} (hTS : gModTS V) (hRG : gModRG room V) (hrc : ∀ (b0 : Int32) (b1 : Int32) (b2 : Int32) (b3 : Int32) (I0 : gI) (J0 : gL) (Q0 : gI → Prop), rc b0 b1 b2 b3 I0 Q0 → gMet l D cy yX5_addRows cX5_addRows 6 none { frames := f0, cells := 0, slots := 0, locals := l0 } V [.ref (V.2.1 70), .int b0, .int b1, .int b2, .int b3] I0 J0 (gPv V (fun I' J' => J0 = J' ∧ Q0 I'))) (C : gC X cX5_addRows RX5 none 6 (rm_X5_addRows f0 l0)) (hX : gIs X l D cy nm) {I : gI} {J : gL} {Po : gI → Prop} (hR : gR X (gPv V (fun I' J' => J = J' ∧ Po I'))) {v1 : Int32} {v2 : Int32} {v3 : Int32} {v4 : Int32} {v5 : Int32} {K20 : Int32 → gI → Prop} (hK20 : ∀ (y5 : Int32) (I1 : gI), K20 y5 I1 → gJ X V 0 0 20 [(0, .ref (V.2.1 70)), (1, .int v1), (2, .int v2), (3, .int v3), (4, .int v4), (5, .int y5)] [] I1 J) (h : w_X5_addRows_20b rc room Po K20 v1 v2 v3 v4 v5 I) : gJ X V 0 0 20 [(0, .ref (V.2.1 70)), (1, .int v1), (2, .int v2), (3, .int v3), (4, .int v4), (5, .int v5)] [] I J := by
  unfold w_X5_addRows_20b at h
  refine j_iload (pc := 20) C dX5_addRows_20 5 rfl ?_
  refine j_aload_n (pc := 22) C dX5_addRows_22 rfl 0 rfl ?_
  refine j_getR (pc := 23) C 70 1 10 (c_70 hRG).1 (c_70 hRG).2 rfl rfl (by decide) inw_X5 wd_355 dX5_addRows_23 ?_
  refine j_getI (pc := 26) C 10 4 (c_10 hTS).1 (c_10 hTS).2 rfl rfl (by decide) inw_X8 wd_109 dX5_addRows_26 ?_
  refine j_icmp_ge (pc := 29) (tgt := 49) C dX5_addRows_29 (by decide) (fun c2 => ?_) (fun c2 => ?_)
  · have h := h.1 c2
    exact j_vret (pc := 49) C hR (Nat.zero_le _) (Nat.zero_le _) dX5_addRows_49 ⟨rfl, rfl, rfl, h⟩
  · have h := h.2 c2
    refine j_aload_n (pc := 32) C dX5_addRows_32 rfl 0 rfl ?_
    refine j_iload (pc := 33) C dX5_addRows_33 5 rfl ?_
    refine j_iload_n (pc := 35) C dX5_addRows_35 rfl 1 rfl ?_
    refine j_iload_n (pc := 36) C dX5_addRows_36 rfl 2 rfl ?_
    refine j_iload_n (pc := 37) C dX5_addRows_37 rfl 3 rfl ?_
    refine j_iload (pc := 38) C dX5_addRows_38 4 rfl ?_
    refine j_callV (pc := 40) (As := [.int v5, .int v1, .int v2, .int v3, .int v4]) (st := []) C hX 70 (m_X5_addRowsWith hTS hRG hrc h) (c_70 hRG).1 (c_70 hRG).2 rfl ok_X5_addRowsWith wd_417 wd_419 wd_4 ⟨show f0 + 1 + 1 ≤ f0 + 2 by omega, show 8 + (11 + 11) + (l0 + 25) ≤ l0 + 55 by omega⟩ rfl rfl (Nat.le_of_ble_eq_true rfl) ⟨Nat.le_refl 0, Nat.le_refl 0⟩ dX5_addRows_40 (fun r V1 I3 J1 hp => ?_)
    obtain ⟨rfl, rfl, rfl, h⟩ := hp
    show gJ X V 0 0 43 _ [] _ _
    obtain ⟨n4, en4⟩ : ∃ z : Int32, z = v5 + 1 := ⟨_, rfl⟩
    have h := h n4 en4
    refine j_iinc (pc := 43) (v := n4) (lv' := [(5, .int n4), (0, .ref (V.2.1 70)), (1, .int v1), (2, .int v2), (3, .int v3), (4, .int v4)]) C dX5_addRows_43 5 rfl (by rw [en4]; rfl) (by decide) rfl ?_
    refine j_goto (pc := 46) (tgt := 20) C dX5_addRows_46 (by decide) ?_
    refine gJ.sub [1, 2, 3, 4, 5, 0] rfl ?_
    exact hK20 _ _ h
set_option maxRecDepth 100000 in
set_option maxHeartbeats 4000000 in
theorem t_X5_addRows_20 {X : gX} {l : Launch} {D : va_G} {cy : Nat → ClassId} {nm : String} {V : gV} {rc : Int32 → Int32 → Int32 → Int32 → gI → (gI → Prop) → Prop} {room : Nat} {f0 l0 : Nat} (hTS : gModTS V) (hRG : gModRG room V) (hrc : ∀ (b0 : Int32) (b1 : Int32) (b2 : Int32) (b3 : Int32) (I0 : gI) (J0 : gL) (Q0 : gI → Prop), rc b0 b1 b2 b3 I0 Q0 → gMet l D cy yX5_addRows cX5_addRows 6 none { frames := f0, cells := 0, slots := 0, locals := l0 } V [.ref (V.2.1 70), .int b0, .int b1, .int b2, .int b3] I0 J0 (gPv V (fun I' J' => J0 = J' ∧ Q0 I'))) (C : gC X cX5_addRows RX5 none 6 (rm_X5_addRows f0 l0)) (hX : gIs X l D cy nm) {I : gI} {J : gL} {Po : gI → Prop} (hR : gR X (gPv V (fun I' J' => J = J' ∧ Po I'))) {v1 : Int32} {v2 : Int32} {v3 : Int32} {v4 : Int32} {v5 : Int32} (h : w_X5_addRows_20 rc room Po v1 v2 v3 v4 v5 I) : gJ X V 0 0 20 [(0, .ref (V.2.1 70)), (1, .int v1), (2, .int v2), (3, .int v3), (4, .int v4), (5, .int v5)] [] I J := by
  unfold w_X5_addRows_20 at h
  obtain ⟨Inv, mu, h0, hs⟩ := h
  have key : ∀ (n : Nat) (v5 : Int32) (I : gI), Inv v5 I → mu v5 I < n → gJ X V 0 0 20 [(0, .ref (V.2.1 70)), (1, .int v1), (2, .int v2), (3, .int v3), (4, .int v4), (5, .int v5)] [] I J := by
    intro n
    induction n with
    | zero => intro v5 I hi hn; exact absurd hn (Nat.not_lt_zero _)
    | succ n ih =>
      intro v5 I hi hn
      exact t_X5_addRows_20b hTS hRG hrc C hX hR   (fun u5 I1 hk => ih u5 I1 hk.1 (Nat.lt_of_lt_of_le hk.2 (Nat.le_of_lt_succ hn))) (hs v5 I hi)
  exact key _ v5 I h0 (Nat.lt_succ_self _)
set_option maxRecDepth 100000 in
set_option maxHeartbeats 4000000 in
theorem mb_X5_addRows {l : Launch} {D : va_G} {cy : Nat → ClassId} {V : gV} {rc : Int32 → Int32 → Int32 → Int32 → gI → (gI → Prop) → Prop} {room : Nat} {f0 l0 : Nat} (hTS : gModTS V) (hRG : gModRG room V) (hrc : ∀ (b0 : Int32) (b1 : Int32) (b2 : Int32) (b3 : Int32) (I0 : gI) (J0 : gL) (Q0 : gI → Prop), rc b0 b1 b2 b3 I0 Q0 → gMet l D cy yX5_addRows cX5_addRows 6 none { frames := f0, cells := 0, slots := 0, locals := l0 } V [.ref (V.2.1 70), .int b0, .int b1, .int b2, .int b3] I0 J0 (gPv V (fun I' J' => J0 = J' ∧ Q0 I'))) {a1 : Int32} {a2 : Int32} {a3 : Int32} {a4 : Int32} {I : gI} {J : gL} {Po : gI → Prop} (h : wb_X5_addRows rc room a1 a2 a3 a4 I Po) : gMet l D cy yX5_addRows cX5_addRows 6 none (rm_X5_addRows f0 l0) V [.ref (V.2.1 70), .int a1, .int a2, .int a3, .int a4] I J (gPv V (fun I' J' => J = J' ∧ Po I')) := by
  refine gMet.of (by decide) (Nat.le_of_ble_eq_true rfl) (fun X hX C hR => ?_)
  have C : gC X cX5_addRows RX5 none 6 (rm_X5_addRows f0 l0) := C
  show gJ X V 0 0 0 [(0, .ref (V.2.1 70)), (1, .int a1), (2, .int a2), (3, .int a3), (4, .int a4)] [] I J
  unfold wb_X5_addRows at h
  refine j_iload_n (pc := 0) C dX5_addRows_0 rfl 1 rfl ?_
  refine j_aload_n (pc := 1) C dX5_addRows_1 rfl 0 rfl ?_
  refine j_getI (pc := 2) C 70 9 (c_70 hRG).1 (c_70 hRG).2 rfl rfl (by decide) inw_X5 wd_363 dX5_addRows_2 ?_
  refine j_icmp_lt (pc := 5) (tgt := 17) C dX5_addRows_5 (by decide) (fun c1 => ?_) (fun c1 => ?_)
  · have h := h.1 c1
    refine j_iconst (pc := 17) (v := 0) C dX5_addRows_17 (by decide) ?_
    refine j_istore (pc := 18) (lv' := [(5, .int (0 : Int32)), (0, .ref (V.2.1 70)), (1, .int a1), (2, .int a2), (3, .int a3), (4, .int a4)]) C dX5_addRows_18 (by decide) rfl ?_
    refine gJ.sub [1, 2, 3, 4, 5, 0] rfl ?_
    exact t_X5_addRows_20 hTS hRG hrc C hX hR   h
  · have h := h.2 c1
    refine j_aload_n (pc := 8) C dX5_addRows_8 rfl 0 rfl ?_
    refine j_iload_n (pc := 9) C dX5_addRows_9 rfl 2 rfl ?_
    refine j_iload_n (pc := 10) C dX5_addRows_10 rfl 3 rfl ?_
    refine j_iload (pc := 11) C dX5_addRows_11 4 rfl ?_
    refine j_callV (pc := 13) (As := [.int a2, .int a3, .int a4]) (st := []) C hX 70 (m_X5_keepRow hTS hRG  h) (c_70 hRG).1 (c_70 hRG).2 rfl ok_X5_keepRow wd_413 wd_415 wd_3 ⟨show 0 + 1 ≤ f0 + 2 by omega, show 8 + (4 + 11) + (0) ≤ l0 + 55 by omega⟩ rfl rfl (Nat.le_of_ble_eq_true rfl) ⟨Nat.le_refl 0, Nat.le_refl 0⟩ dX5_addRows_13 (fun r V1 I5 J1 hp => ?_)
    obtain ⟨rfl, rfl, rfl, h⟩ := hp
    show gJ X V 0 0 16 _ [] _ _
    exact j_vret (pc := 16) C hR (Nat.zero_le _) (Nat.zero_le _) dX5_addRows_16 ⟨rfl, rfl, rfl, h⟩
def wp_X5_addRows (room : Nat) : Nat → Int32 → Int32 → Int32 → Int32 → gI → (gI → Prop) → Prop
  | 0 => fun _ _ _ _ _ _ => False
  | n + 1 => wb_X5_addRows (wp_X5_addRows room n) room
abbrev rmn_X5_addRows (n : Nat) : Room := { frames := 2 * n, cells := 0, slots := 0, locals := 55 * n }
theorem m_X5_addRows {l : Launch} {D : va_G} {cy : Nat → ClassId} {V : gV} {room : Nat} (hTS : gModTS V) (hRG : gModRG room V) : ∀ (n : Nat) (a1 : Int32) (a2 : Int32) (a3 : Int32) (a4 : Int32) (I : gI) (J : gL) (Po : gI → Prop), wp_X5_addRows room n a1 a2 a3 a4 I Po → gMet l D cy yX5_addRows cX5_addRows 6 none (rmn_X5_addRows n) V [.ref (V.2.1 70), .int a1, .int a2, .int a3, .int a4] I J (gPv V (fun I' J' => J = J' ∧ Po I'))
  | 0, a1, a2, a3, a4, I, J, Po, h => absurd h id
  | n + 1, a1, a2, a3, a4, I, J, Po, h => mb_X5_addRows (f0 := 2 * n) (l0 := 55 * n) hTS hRG (fun b0 b1 b2 b3 I0 J0 Q0 h0 => m_X5_addRows hTS hRG n b0 b1 b2 b3 I0 J0 Q0 h0) h
/-! TileRules$RowGraph.giveDigits()V -/
abbrev rm_X5_giveDigits : Room := { frames := 1, cells := 0, slots := 0, locals := 23 }
theorem ok_X5_giveDigits : gOk yX5_giveDigits cX5_giveDigits 2 none 0 := ⟨wd_404, wd_75, by decide +kernel⟩
def w_X5_giveDigits_72 (room : Nat) (Po : gI → Prop) (K15 : Int32 → gI → Prop) (v1 : Int32) (I : gI) : Prop :=
  ∀ n7 : Int32, n7 = v1 + 1 → K15 n7 I
def w_X5_giveDigits_15b (room : Nat) (Po : gI → Prop) (K15 : Int32 → gI → Prop) (v1 : Int32) (I : gI) : Prop :=
  ((I 10 4) ≤ v1 → Po I) ∧ (¬ (I 10 4) ≤ v1 → vp_in v1 8 ∧ vp_in (I 13 (v1).toNatClampNeg) 10 ∧ (¬ (I 71 ((I 13 (v1).toNatClampNeg)).toNatClampNeg) = (-1 : Int32) → w_X5_giveDigits_72 room Po K15 v1 I) ∧ ((I 71 ((I 13 (v1).toNatClampNeg)).toNatClampNeg) = (-1 : Int32) → vp_in v1 8 ∧ vp_in (I 13 (v1).toNatClampNeg) 10 ∧ ∀ I10 : gI, I10 = gup I 71 ((I 13 (v1).toNatClampNeg)).toNatClampNeg (I 70 11) → ∀ I11 : gI, I11 = gup I10 70 11 ((I10 70 11) + (1 : Int32)) → w_X5_giveDigits_72 room Po K15 v1 I11))
def w_X5_giveDigits_15 (room : Nat) (Po : gI → Prop)  (v1 : Int32) (I : gI) : Prop :=
  ∃ (Inv : Int32 → gI → Prop) (mu : Int32 → gI → Nat), Inv v1 I ∧ ∀ (v1 : Int32) (I : gI), Inv v1 I → w_X5_giveDigits_15b room Po  (fun u1 I1 => Inv u1 I1 ∧ mu u1 I1 < mu v1 I) v1 I
def wp_X5_giveDigits (room : Nat) (I : gI) (Po : gI → Prop) : Prop :=
  wp_J7_fill_53178 71 10 (-1 : Int32) I (fun I1 => ∀ I2 : gI, I2 = gup I1 70 11 (0 : Int32) → w_X5_giveDigits_15 room Po (0 : Int32) I2)
set_option maxRecDepth 100000 in
set_option maxHeartbeats 4000000 in
theorem t_X5_giveDigits_72 {X : gX} {l : Launch} {D : va_G} {cy : Nat → ClassId} {nm : String} {V : gV} {room : Nat} (hTS : gModTS V) (hRG : gModRG room V) (C : gC X cX5_giveDigits RX5 none 2 rm_X5_giveDigits) (hX : gIs X l D cy nm) {I : gI} {J : gL} {Po : gI → Prop} (hR : gR X (gPv V (fun I' J' => J = J' ∧ Po I'))) {v1 : Int32} {K15 : Int32 → gI → Prop} (hK15 : ∀ (y1 : Int32) (I1 : gI), K15 y1 I1 → gJ X V 0 0 15 [(0, .ref (V.2.1 70)), (1, .int y1)] [] I1 J) (h : w_X5_giveDigits_72 room Po K15 v1 I) : gJ X V 0 0 72 [(0, .ref (V.2.1 70)), (1, .int v1)] [] I J := by
  unfold w_X5_giveDigits_72 at h
  obtain ⟨n7, en7⟩ : ∃ z : Int32, z = v1 + 1 := ⟨_, rfl⟩
  have h := h n7 en7
  refine j_iinc (pc := 72) (v := n7) (lv' := [(1, .int n7), (0, .ref (V.2.1 70))]) C dX5_giveDigits_72 1 rfl (by rw [en7]; rfl) (by decide) rfl ?_
  refine j_goto (pc := 75) (tgt := 15) C dX5_giveDigits_75 (by decide) ?_
  refine gJ.sub [1, 0] rfl ?_
  exact hK15 _ _ h
set_option maxRecDepth 100000 in
set_option maxHeartbeats 4000000 in
theorem t_X5_giveDigits_15b {X : gX} {l : Launch} {D : va_G} {cy : Nat → ClassId} {nm : String} {V : gV} {room : Nat} (hTS : gModTS V) (hRG : gModRG room V) (C : gC X cX5_giveDigits RX5 none 2 rm_X5_giveDigits) (hX : gIs X l D cy nm) {I : gI} {J : gL} {Po : gI → Prop} (hR : gR X (gPv V (fun I' J' => J = J' ∧ Po I'))) {v1 : Int32} {K15 : Int32 → gI → Prop} (hK15 : ∀ (y1 : Int32) (I1 : gI), K15 y1 I1 → gJ X V 0 0 15 [(0, .ref (V.2.1 70)), (1, .int y1)] [] I1 J) (h : w_X5_giveDigits_15b room Po K15 v1 I) : gJ X V 0 0 15 [(0, .ref (V.2.1 70)), (1, .int v1)] [] I J := by
  unfold w_X5_giveDigits_15b at h
  refine j_iload_n (pc := 15) C dX5_giveDigits_15 rfl 1 rfl ?_
  refine j_aload_n (pc := 16) C dX5_giveDigits_16 rfl 0 rfl ?_
  refine j_getR (pc := 17) C 70 1 10 (c_70 hRG).1 (c_70 hRG).2 rfl rfl (by decide) inw_X5 wd_355 dX5_giveDigits_17 ?_
  refine j_getI (pc := 20) C 10 4 (c_10 hTS).1 (c_10 hTS).2 rfl rfl (by decide) inw_X8 wd_109 dX5_giveDigits_20 ?_
  refine j_icmp_ge (pc := 23) (tgt := 78) C dX5_giveDigits_23 (by decide) (fun c3 => ?_) (fun c3 => ?_)
  · have h := h.1 c3
    exact j_vret (pc := 78) C hR (Nat.zero_le _) (Nat.zero_le _) dX5_giveDigits_78 ⟨rfl, rfl, rfl, h⟩
  · have h := h.2 c3
    refine j_aload_n (pc := 26) C dX5_giveDigits_26 rfl 0 rfl ?_
    refine j_getR (pc := 27) C 70 2 71 (c_70 hRG).1 (c_70 hRG).2 rfl rfl (by decide) inw_X5 wd_356 dX5_giveDigits_27 ?_
    refine j_aload_n (pc := 30) C dX5_giveDigits_30 rfl 0 rfl ?_
    refine j_getR (pc := 31) C 70 1 10 (c_70 hRG).1 (c_70 hRG).2 rfl rfl (by decide) inw_X5 wd_355 dX5_giveDigits_31 ?_
    refine j_getR (pc := 34) C 10 2 13 (c_10 hTS).1 (c_10 hTS).2 rfl rfl (by decide) inw_X8 wd_104 dX5_giveDigits_34 ?_
    refine j_iload_n (pc := 37) C dX5_giveDigits_37 rfl 1 rfl ?_
    obtain ⟨g4, h⟩ := h
    refine j_iald (pc := 38) C 13 (c_13 hTS).1 (c_13 hTS).2 g4 dX5_giveDigits_38 ?_
    obtain ⟨g5, h⟩ := h
    refine j_iald (pc := 39) C 71 (c_71 hRG).1 (c_71 hRG).2 g5 dX5_giveDigits_39 ?_
    refine j_iconst (pc := 40) (v := (-1)) C dX5_giveDigits_40 (by decide) ?_
    refine j_icmp_ne (pc := 41) (tgt := 72) C dX5_giveDigits_41 (by decide) (fun c6 => ?_) (fun c6 => ?_)
    · have h := h.1 c6
      refine gJ.sub [0, 1] rfl ?_
      exact t_X5_giveDigits_72 hTS hRG C hX hR  hK15 h
    · have h := h.2 c6
      refine j_aload_n (pc := 44) C dX5_giveDigits_44 rfl 0 rfl ?_
      refine j_getR (pc := 45) C 70 2 71 (c_70 hRG).1 (c_70 hRG).2 rfl rfl (by decide) inw_X5 wd_356 dX5_giveDigits_45 ?_
      refine j_aload_n (pc := 48) C dX5_giveDigits_48 rfl 0 rfl ?_
      refine j_getR (pc := 49) C 70 1 10 (c_70 hRG).1 (c_70 hRG).2 rfl rfl (by decide) inw_X5 wd_355 dX5_giveDigits_49 ?_
      refine j_getR (pc := 52) C 10 2 13 (c_10 hTS).1 (c_10 hTS).2 rfl rfl (by decide) inw_X8 wd_104 dX5_giveDigits_52 ?_
      refine j_iload_n (pc := 55) C dX5_giveDigits_55 rfl 1 rfl ?_
      obtain ⟨g8, h⟩ := h
      refine j_iald (pc := 56) C 13 (c_13 hTS).1 (c_13 hTS).2 g8 dX5_giveDigits_56 ?_
      refine j_aload_n (pc := 57) C dX5_giveDigits_57 rfl 0 rfl ?_
      refine j_getI (pc := 58) C 70 11 (c_70 hRG).1 (c_70 hRG).2 rfl rfl (by decide) inw_X5 wd_365 dX5_giveDigits_58 ?_
      obtain ⟨g9, h⟩ := h
      refine j_iast (pc := 61) C 71 (c_71 hRG).1 (c_71 hRG).2 g9 dX5_giveDigits_61 ?_
      refine gJ.nmI (fun I10 eI10 => ?_)
      have h := h I10 eI10
      refine j_aload_n (pc := 62) C dX5_giveDigits_62 rfl 0 rfl ?_
      refine j_dup (pc := 63) C dX5_giveDigits_63 rfl ?_
      refine j_getI (pc := 64) C 70 11 (c_70 hRG).1 (c_70 hRG).2 rfl rfl (by decide) inw_X5 wd_365 dX5_giveDigits_64 ?_
      refine j_iconst (pc := 67) (v := 1) C dX5_giveDigits_67 (by decide) ?_
      refine j_iadd (pc := 68) C dX5_giveDigits_68 ?_
      refine j_putI (pc := 69) (ft := .int) C tyX5 tyX5_ok nmX5 70 11 (c_70 hRG).1 (c_70 hRG).2 rfl rfl (by decide) inw_X5 wd_365 rfl (by decide +kernel) rfl rfl dX5_giveDigits_69 ?_
      refine gJ.nmI (fun I11 eI11 => ?_)
      have h := h I11 eI11
      refine gJ.sub [0, 1] rfl ?_
      exact t_X5_giveDigits_72 hTS hRG C hX hR  hK15 h
set_option maxRecDepth 100000 in
set_option maxHeartbeats 4000000 in
theorem t_X5_giveDigits_15 {X : gX} {l : Launch} {D : va_G} {cy : Nat → ClassId} {nm : String} {V : gV} {room : Nat} (hTS : gModTS V) (hRG : gModRG room V) (C : gC X cX5_giveDigits RX5 none 2 rm_X5_giveDigits) (hX : gIs X l D cy nm) {I : gI} {J : gL} {Po : gI → Prop} (hR : gR X (gPv V (fun I' J' => J = J' ∧ Po I'))) {v1 : Int32} (h : w_X5_giveDigits_15 room Po v1 I) : gJ X V 0 0 15 [(0, .ref (V.2.1 70)), (1, .int v1)] [] I J := by
  unfold w_X5_giveDigits_15 at h
  obtain ⟨Inv, mu, h0, hs⟩ := h
  have key : ∀ (n : Nat) (v1 : Int32) (I : gI), Inv v1 I → mu v1 I < n → gJ X V 0 0 15 [(0, .ref (V.2.1 70)), (1, .int v1)] [] I J := by
    intro n
    induction n with
    | zero => intro v1 I hi hn; exact absurd hn (Nat.not_lt_zero _)
    | succ n ih =>
      intro v1 I hi hn
      exact t_X5_giveDigits_15b hTS hRG C hX hR   (fun u1 I1 hk => ih u1 I1 hk.1 (Nat.lt_of_lt_of_le hk.2 (Nat.le_of_lt_succ hn))) (hs v1 I hi)
  exact key _ v1 I h0 (Nat.lt_succ_self _)
set_option maxRecDepth 100000 in
set_option maxHeartbeats 4000000 in
theorem m_X5_giveDigits {l : Launch} {D : va_G} {cy : Nat → ClassId} {V : gV} {room : Nat} (hTS : gModTS V) (hRG : gModRG room V) {I : gI} {J : gL} {Po : gI → Prop} (h : wp_X5_giveDigits room I Po) : gMet l D cy yX5_giveDigits cX5_giveDigits 2 none rm_X5_giveDigits V [.ref (V.2.1 70)] I J (gPv V (fun I' J' => J = J' ∧ Po I')) := by
  refine gMet.of (by decide) (Nat.le_of_ble_eq_true rfl) (fun X hX C hR => ?_)
  have C : gC X cX5_giveDigits RX5 none 2 rm_X5_giveDigits := C
  show gJ X V 0 0 0 [(0, .ref (V.2.1 70))] [] I J
  unfold wp_X5_giveDigits at h
  refine j_aload_n (pc := 0) C dX5_giveDigits_0 rfl 0 rfl ?_
  refine j_getR (pc := 1) C 70 2 71 (c_70 hRG).1 (c_70 hRG).2 rfl rfl (by decide) inw_X5 wd_356 dX5_giveDigits_1 ?_
  refine j_iconst (pc := 4) (v := (-1)) C dX5_giveDigits_4 (by decide) ?_
  refine j_callS (pc := 5) (As := [.ref (V.2.1 71), .int (-1 : Int32)]) (st := []) C hX (m_J7_fill_53178  (c_71 hRG).1 (c_71 hRG).2 h) ok_J7_fill_53178 wd_405 wd_406 ⟨by decide, by decide⟩ rfl rfl (Nat.le_of_ble_eq_true rfl) ⟨Nat.le_refl 0, Nat.le_refl 0⟩ dX5_giveDigits_5 (fun r V1 I1 J1 hp => ?_)
  obtain ⟨rfl, rfl, rfl, h⟩ := hp
  show gJ X V 0 0 8 _ [] _ _
  refine j_aload_n (pc := 8) C dX5_giveDigits_8 rfl 0 rfl ?_
  refine j_iconst (pc := 9) (v := 0) C dX5_giveDigits_9 (by decide) ?_
  refine j_putI (pc := 10) (ft := .int) C tyX5 tyX5_ok nmX5 70 11 (c_70 hRG).1 (c_70 hRG).2 rfl rfl (by decide) inw_X5 wd_365 rfl (by decide +kernel) rfl rfl dX5_giveDigits_10 ?_
  refine gJ.nmI (fun I2 eI2 => ?_)
  have h := h I2 eI2
  refine j_iconst (pc := 13) (v := 0) C dX5_giveDigits_13 (by decide) ?_
  refine j_istore_n (pc := 14) (lv' := [(1, .int (0 : Int32)), (0, .ref (V.2.1 70))]) C dX5_giveDigits_14 rfl (by decide) rfl ?_
  refine gJ.sub [1, 0] rfl ?_
  exact t_X5_giveDigits_15 hTS hRG C hX hR   h
/-! TileRules$Shelf.sort([III)V -/
abbrev rm_X6_sort : Room := { frames := 0, cells := 0, slots := 0, locals := 0 }
theorem ok_X6_sort : gOk yX6_sort cX6_sort 6 none 3 := ⟨wd_428, wd_76, by decide +kernel⟩
def w_X6_sort_153 (b : Nat) (room : Nat) (Po : gI → Prop) (K111 : Int32 → gI → Prop) (v5 : Int32) (I : gI) : Prop :=
  ∀ n10 : Int32, n10 = v5 + (-1) → K111 n10 I
def w_X6_sort_111b (b : Nat) (room : Nat) (Po : gI → Prop) (K111 : Int32 → gI → Prop) (v5 : Int32) (I : gI) : Prop :=
  (v5 < 0 → Po I) ∧ (¬ v5 < 0 → vp_in v5 room ∧ ((I (73 + b) (v5).toNatClampNeg) = (-1 : Int32) → w_X6_sort_153 b room Po K111 v5 I) ∧ (¬ (I (73 + b) (v5).toNatClampNeg) = (-1 : Int32) → vp_in v5 room ∧ vp_in (I (73 + b) (v5).toNatClampNeg) (room + 1) ∧ vp_in (I (73 + b) (v5).toNatClampNeg) (room + 1) ∧ ∀ I14 : gI, I14 = gup I (76 + 3 * b) ((I (73 + b) (v5).toNatClampNeg)).toNatClampNeg ((I (76 + 3 * b) ((I (73 + b) (v5).toNatClampNeg)).toNatClampNeg) - (1 : Int32)) → vp_in v5 room ∧ vp_in (I14 (73 + b) (v5).toNatClampNeg) (room + 1) ∧ vp_in (I14 (76 + 3 * b) ((I14 (73 + b) (v5).toNatClampNeg)).toNatClampNeg) room ∧ ∀ I18 : gI, I18 = gup I14 (77 + 3 * b) ((I14 (76 + 3 * b) ((I14 (73 + b) (v5).toNatClampNeg)).toNatClampNeg)).toNatClampNeg v5 → w_X6_sort_153 b room Po K111 v5 I18))
def w_X6_sort_111 (b : Nat) (room : Nat) (Po : gI → Prop)  (v5 : Int32) (I : gI) : Prop :=
  ∃ (Inv : Int32 → gI → Prop) (mu : Int32 → gI → Nat), Inv v5 I ∧ ∀ (v5 : Int32) (I : gI), Inv v5 I → w_X6_sort_111b b room Po  (fun u5 I1 => Inv u5 I1 ∧ mu u5 I1 < mu v5 I) v5 I
def w_X6_sort_65b (b : Nat) (room : Nat) (Po : gI → Prop) (K65 : Int32 → Int32 → gI → Prop) (v2 : Int32) (v3 : Int32) (v4 : Int32) (v5 : Int32) (I : gI) : Prop :=
  (v3 ≤ v5 → vp_in v3 (room + 1) ∧ ∀ I5 : gI, I5 = gup I (76 + 3 * b) (v3).toNatClampNeg v4 → ∀ n6 : Int32, n6 = (v2 - (1 : Int32)) → w_X6_sort_111 b room Po n6 I5) ∧ (¬ v3 ≤ v5 → vp_in v5 (room + 1) ∧ ∀ n20 : Int32, n20 = (v4 + (I (76 + 3 * b) (v5).toNatClampNeg)) → vp_in v5 (room + 1) ∧ ∀ I22 : gI, I22 = gup I (76 + 3 * b) (v5).toNatClampNeg n20 → ∀ n23 : Int32, n23 = v5 + 1 → K65 n20 n23 I22)
def w_X6_sort_65 (b : Nat) (room : Nat) (Po : gI → Prop)  (v2 : Int32) (v3 : Int32) (v4 : Int32) (v5 : Int32) (I : gI) : Prop :=
  ∃ (Inv : Int32 → Int32 → gI → Prop) (mu : Int32 → Int32 → gI → Nat), Inv v4 v5 I ∧ ∀ (v4 : Int32) (v5 : Int32) (I : gI), Inv v4 v5 I → w_X6_sort_65b b room Po  (fun u4 u5 I1 => Inv u4 u5 I1 ∧ mu u4 u5 I1 < mu v4 v5 I) v2 v3 v4 v5 I
def w_X6_sort_53 (b : Nat) (room : Nat) (Po : gI → Prop) (K26 : Int32 → gI → Prop) (v2 : Int32) (v3 : Int32) (v4 : Int32) (I : gI) : Prop :=
  ∀ n26 : Int32, n26 = v4 + 1 → K26 n26 I
def w_X6_sort_26b (b : Nat) (room : Nat) (Po : gI → Prop) (K26 : Int32 → gI → Prop) (v2 : Int32) (v3 : Int32) (v4 : Int32) (I : gI) : Prop :=
  (v2 ≤ v4 → w_X6_sort_65 b room Po v2 v3 (0 : Int32) (0 : Int32) I) ∧ (¬ v2 ≤ v4 → vp_in v4 room ∧ ((I (73 + b) (v4).toNatClampNeg) = (-1 : Int32) → w_X6_sort_53 b room Po K26 v2 v3 v4 I) ∧ (¬ (I (73 + b) (v4).toNatClampNeg) = (-1 : Int32) → vp_in v4 room ∧ vp_in (I (73 + b) (v4).toNatClampNeg) (room + 1) ∧ vp_in (I (73 + b) (v4).toNatClampNeg) (room + 1) ∧ ∀ I30 : gI, I30 = gup I (76 + 3 * b) ((I (73 + b) (v4).toNatClampNeg)).toNatClampNeg ((I (76 + 3 * b) ((I (73 + b) (v4).toNatClampNeg)).toNatClampNeg) + (1 : Int32)) → w_X6_sort_53 b room Po K26 v2 v3 v4 I30))
def w_X6_sort_26 (b : Nat) (room : Nat) (Po : gI → Prop)  (v2 : Int32) (v3 : Int32) (v4 : Int32) (I : gI) : Prop :=
  ∃ (Inv : Int32 → gI → Prop) (mu : Int32 → gI → Nat), Inv v4 I ∧ ∀ (v4 : Int32) (I : gI), Inv v4 I → w_X6_sort_26b b room Po  (fun u4 I1 => Inv u4 I1 ∧ mu u4 I1 < mu v4 I) v2 v3 v4 I
def w_X6_sort_3b (b : Nat) (room : Nat) (Po : gI → Prop) (K3 : Int32 → gI → Prop) (v2 : Int32) (v3 : Int32) (v4 : Int32) (I : gI) : Prop :=
  (v3 ≤ v4 → w_X6_sort_26 b room Po v2 v3 (0 : Int32) I) ∧ (¬ v3 ≤ v4 → vp_in v4 (room + 1) ∧ ∀ I32 : gI, I32 = gup I (76 + 3 * b) (v4).toNatClampNeg (0 : Int32) → ∀ n33 : Int32, n33 = v4 + 1 → K3 n33 I32)
def w_X6_sort_3 (b : Nat) (room : Nat) (Po : gI → Prop)  (v2 : Int32) (v3 : Int32) (v4 : Int32) (I : gI) : Prop :=
  ∃ (Inv : Int32 → gI → Prop) (mu : Int32 → gI → Nat), Inv v4 I ∧ ∀ (v4 : Int32) (I : gI), Inv v4 I → w_X6_sort_3b b room Po  (fun u4 I1 => Inv u4 I1 ∧ mu u4 I1 < mu v4 I) v2 v3 v4 I
def wp_X6_sort (b : Nat) (room : Nat) (a2 : Int32) (a3 : Int32) (I : gI) (Po : gI → Prop) : Prop :=
  w_X6_sort_3 b room Po a2 a3 (0 : Int32) I
set_option maxRecDepth 100000 in
set_option maxHeartbeats 4000000 in
theorem t_X6_sort_153 {X : gX} {l : Launch} {D : va_G} {cy : Nat → ClassId} {nm : String} {V : gV} {b : Nat} {room : Nat} (hRG : gModRG room V) (hb : b < 2) (C : gC X cX6_sort RX6 none 6 rm_X6_sort) (hX : gIs X l D cy nm) {I : gI} {J : gL} {Po : gI → Prop} (hR : gR X (gPv V (fun I' J' => J = J' ∧ Po I'))) {v5 : Int32} {K111 : Int32 → gI → Prop} (hK111 : ∀ (y5 : Int32) (I1 : gI), K111 y5 I1 → gJ X V 0 0 111 [(0, .ref (V.2.1 (75 + 3 * b))), (1, .ref (V.2.1 (73 + b))), (5, .int y5)] [] I1 J) (h : w_X6_sort_153 b room Po K111 v5 I) : gJ X V 0 0 153 [(0, .ref (V.2.1 (75 + 3 * b))), (1, .ref (V.2.1 (73 + b))), (5, .int v5)] [] I J := by
  unfold w_X6_sort_153 at h
  obtain ⟨n10, en10⟩ : ∃ z : Int32, z = v5 + (-1) := ⟨_, rfl⟩
  have h := h n10 en10
  refine j_iinc (pc := 153) (v := n10) (lv' := [(5, .int n10), (0, .ref (V.2.1 (75 + 3 * b))), (1, .ref (V.2.1 (73 + b)))]) C dX6_sort_153 2 rfl (by rw [en10]; rfl) (by decide) rfl ?_
  refine j_goto (pc := 156) (tgt := 111) C dX6_sort_156 (by decide) ?_
  refine gJ.sub [1, 2, 0] rfl ?_
  exact hK111 _ _ h
set_option maxRecDepth 100000 in
set_option maxHeartbeats 4000000 in
theorem t_X6_sort_111b {X : gX} {l : Launch} {D : va_G} {cy : Nat → ClassId} {nm : String} {V : gV} {b : Nat} {room : Nat} (hRG : gModRG room V) (hb : b < 2) (C : gC X cX6_sort RX6 none 6 rm_X6_sort) (hX : gIs X l D cy nm) {I : gI} {J : gL} {Po : gI → Prop} (hR : gR X (gPv V (fun I' J' => J = J' ∧ Po I'))) {v5 : Int32} {K111 : Int32 → gI → Prop} (hK111 : ∀ (y5 : Int32) (I1 : gI), K111 y5 I1 → gJ X V 0 0 111 [(0, .ref (V.2.1 (75 + 3 * b))), (1, .ref (V.2.1 (73 + b))), (5, .int y5)] [] I1 J) (h : w_X6_sort_111b b room Po K111 v5 I) : gJ X V 0 0 111 [(0, .ref (V.2.1 (75 + 3 * b))), (1, .ref (V.2.1 (73 + b))), (5, .int v5)] [] I J := by
  unfold w_X6_sort_111b at h
  refine j_iload (pc := 111) C dX6_sort_111 2 rfl ?_
  refine j_if_lt (pc := 113) (tgt := 159) C dX6_sort_113 (by decide) (fun c7 => ?_) (fun c7 => ?_)
  · have h := h.1 c7
    exact j_vret (pc := 159) C hR (Nat.zero_le _) (Nat.zero_le _) dX6_sort_159 ⟨rfl, rfl, rfl, h⟩
  · have h := h.2 c7
    refine j_aload_n (pc := 116) C dX6_sort_116 rfl 1 rfl ?_
    refine j_iload (pc := 117) C dX6_sort_117 2 rfl ?_
    obtain ⟨g8, h⟩ := h
    refine j_iald (pc := 119) C (73 + b) (f_73 hRG hb).1 (f_73 hRG hb).2 g8 dX6_sort_119 ?_
    refine j_iconst (pc := 120) (v := (-1)) C dX6_sort_120 (by decide) ?_
    refine j_icmp_eq (pc := 121) (tgt := 153) C dX6_sort_121 (by decide) (fun c9 => ?_) (fun c9 => ?_)
    · have h := h.1 c9
      refine gJ.sub [0, 1, 2] rfl ?_
      exact t_X6_sort_153 hRG hb C hX hR  hK111 h
    · have h := h.2 c9
      refine j_aload_n (pc := 124) C dX6_sort_124 rfl 0 rfl ?_
      refine j_getR (pc := 125) C (75 + 3 * b) 0 (76 + 3 * b) (f_75 hRG hb).1 (f_75 hRG hb).2 rfl rfl (by decide) inw_X6 wd_326 dX6_sort_125 ?_
      refine j_aload_n (pc := 128) C dX6_sort_128 rfl 1 rfl ?_
      refine j_iload (pc := 129) C dX6_sort_129 2 rfl ?_
      obtain ⟨g11, h⟩ := h
      refine j_iald (pc := 131) C (73 + b) (f_73 hRG hb).1 (f_73 hRG hb).2 g11 dX6_sort_131 ?_
      refine j_dup2_11 (pc := 132) C dX6_sort_132 rfl rfl ?_
      obtain ⟨g12, h⟩ := h
      refine j_iald (pc := 133) C (76 + 3 * b) (f_76 hRG hb).1 (f_76 hRG hb).2 g12 dX6_sort_133 ?_
      refine j_iconst (pc := 134) (v := 1) C dX6_sort_134 (by decide) ?_
      refine j_isub (pc := 135) C dX6_sort_135 ?_
      obtain ⟨g13, h⟩ := h
      refine j_iast (pc := 136) C (76 + 3 * b) (f_76 hRG hb).1 (f_76 hRG hb).2 g13 dX6_sort_136 ?_
      refine gJ.nmI (fun I14 eI14 => ?_)
      have h := h I14 eI14
      refine j_aload_n (pc := 137) C dX6_sort_137 rfl 0 rfl ?_
      refine j_getR (pc := 138) C (75 + 3 * b) 1 (77 + 3 * b) (f_75 hRG hb).1 (f_75 hRG hb).2 rfl rfl (by decide) inw_X6 wd_328 dX6_sort_138 ?_
      refine j_aload_n (pc := 141) C dX6_sort_141 rfl 0 rfl ?_
      refine j_getR (pc := 142) C (75 + 3 * b) 0 (76 + 3 * b) (f_75 hRG hb).1 (f_75 hRG hb).2 rfl rfl (by decide) inw_X6 wd_326 dX6_sort_142 ?_
      refine j_aload_n (pc := 145) C dX6_sort_145 rfl 1 rfl ?_
      refine j_iload (pc := 146) C dX6_sort_146 2 rfl ?_
      obtain ⟨g15, h⟩ := h
      refine j_iald (pc := 148) C (73 + b) (f_73 hRG hb).1 (f_73 hRG hb).2 g15 dX6_sort_148 ?_
      obtain ⟨g16, h⟩ := h
      refine j_iald (pc := 149) C (76 + 3 * b) (f_76 hRG hb).1 (f_76 hRG hb).2 g16 dX6_sort_149 ?_
      refine j_iload (pc := 150) C dX6_sort_150 2 rfl ?_
      obtain ⟨g17, h⟩ := h
      refine j_iast (pc := 152) C (77 + 3 * b) (f_77 hRG hb).1 (f_77 hRG hb).2 g17 dX6_sort_152 ?_
      refine gJ.nmI (fun I18 eI18 => ?_)
      have h := h I18 eI18
      refine gJ.sub [0, 1, 2] rfl ?_
      exact t_X6_sort_153 hRG hb C hX hR  hK111 h
set_option maxRecDepth 100000 in
set_option maxHeartbeats 4000000 in
theorem t_X6_sort_111 {X : gX} {l : Launch} {D : va_G} {cy : Nat → ClassId} {nm : String} {V : gV} {b : Nat} {room : Nat} (hRG : gModRG room V) (hb : b < 2) (C : gC X cX6_sort RX6 none 6 rm_X6_sort) (hX : gIs X l D cy nm) {I : gI} {J : gL} {Po : gI → Prop} (hR : gR X (gPv V (fun I' J' => J = J' ∧ Po I'))) {v5 : Int32} (h : w_X6_sort_111 b room Po v5 I) : gJ X V 0 0 111 [(0, .ref (V.2.1 (75 + 3 * b))), (1, .ref (V.2.1 (73 + b))), (5, .int v5)] [] I J := by
  unfold w_X6_sort_111 at h
  obtain ⟨Inv, mu, h0, hs⟩ := h
  have key : ∀ (n : Nat) (v5 : Int32) (I : gI), Inv v5 I → mu v5 I < n → gJ X V 0 0 111 [(0, .ref (V.2.1 (75 + 3 * b))), (1, .ref (V.2.1 (73 + b))), (5, .int v5)] [] I J := by
    intro n
    induction n with
    | zero => intro v5 I hi hn; exact absurd hn (Nat.not_lt_zero _)
    | succ n ih =>
      intro v5 I hi hn
      exact t_X6_sort_111b hRG hb C hX hR   (fun u5 I1 hk => ih u5 I1 hk.1 (Nat.lt_of_lt_of_le hk.2 (Nat.le_of_lt_succ hn))) (hs v5 I hi)
  exact key _ v5 I h0 (Nat.lt_succ_self _)
set_option maxRecDepth 100000 in
set_option maxHeartbeats 4000000 in
theorem t_X6_sort_65b {X : gX} {l : Launch} {D : va_G} {cy : Nat → ClassId} {nm : String} {V : gV} {b : Nat} {room : Nat} (hRG : gModRG room V) (hb : b < 2) (C : gC X cX6_sort RX6 none 6 rm_X6_sort) (hX : gIs X l D cy nm) {I : gI} {J : gL} {Po : gI → Prop} (hR : gR X (gPv V (fun I' J' => J = J' ∧ Po I'))) {v2 : Int32} {v3 : Int32} {v4 : Int32} {v5 : Int32} {K65 : Int32 → Int32 → gI → Prop} (hK65 : ∀ (y4 : Int32) (y5 : Int32) (I1 : gI), K65 y4 y5 I1 → gJ X V 0 0 65 [(0, .ref (V.2.1 (75 + 3 * b))), (1, .ref (V.2.1 (73 + b))), (2, .int v2), (3, .int v3), (4, .int y4), (5, .int y5)] [] I1 J) (h : w_X6_sort_65b b room Po K65 v2 v3 v4 v5 I) : gJ X V 0 0 65 [(0, .ref (V.2.1 (75 + 3 * b))), (1, .ref (V.2.1 (73 + b))), (2, .int v2), (3, .int v3), (4, .int v4), (5, .int v5)] [] I J := by
  unfold w_X6_sort_65b at h
  refine j_iload (pc := 65) C dX6_sort_65 5 rfl ?_
  refine j_iload_n (pc := 67) C dX6_sort_67 rfl 3 rfl ?_
  refine j_icmp_ge (pc := 68) (tgt := 98) C dX6_sort_68 (by decide) (fun c3 => ?_) (fun c3 => ?_)
  · have h := h.1 c3
    refine j_aload_n (pc := 98) C dX6_sort_98 rfl 0 rfl ?_
    refine j_getR (pc := 99) C (75 + 3 * b) 0 (76 + 3 * b) (f_75 hRG hb).1 (f_75 hRG hb).2 rfl rfl (by decide) inw_X6 wd_326 dX6_sort_99 ?_
    refine j_iload_n (pc := 102) C dX6_sort_102 rfl 3 rfl ?_
    refine j_iload (pc := 103) C dX6_sort_103 4 rfl ?_
    obtain ⟨g4, h⟩ := h
    refine j_iast (pc := 105) C (76 + 3 * b) (f_76 hRG hb).1 (f_76 hRG hb).2 g4 dX6_sort_105 ?_
    refine gJ.nmI (fun I5 eI5 => ?_)
    have h := h I5 eI5
    refine j_iload_n (pc := 106) C dX6_sort_106 rfl 2 rfl ?_
    refine j_iconst (pc := 107) (v := 1) C dX6_sort_107 (by decide) ?_
    refine j_isub (pc := 108) C dX6_sort_108 ?_
    refine gJ.topi (fun n6 en6 => ?_)
    have h := h n6 en6
    refine j_istore (pc := 109) (lv' := [(5, .int n6), (0, .ref (V.2.1 (75 + 3 * b))), (1, .ref (V.2.1 (73 + b))), (2, .int v2), (3, .int v3), (4, .int v4)]) C dX6_sort_109 (by decide) rfl ?_
    refine gJ.sub [1, 2, 0] rfl ?_
    exact t_X6_sort_111 hRG hb C hX hR   h
  · have h := h.2 c3
    refine j_iload (pc := 71) C dX6_sort_71 4 rfl ?_
    refine j_aload_n (pc := 73) C dX6_sort_73 rfl 0 rfl ?_
    refine j_getR (pc := 74) C (75 + 3 * b) 0 (76 + 3 * b) (f_75 hRG hb).1 (f_75 hRG hb).2 rfl rfl (by decide) inw_X6 wd_326 dX6_sort_74 ?_
    refine j_iload (pc := 77) C dX6_sort_77 5 rfl ?_
    obtain ⟨g19, h⟩ := h
    refine j_iald (pc := 79) C (76 + 3 * b) (f_76 hRG hb).1 (f_76 hRG hb).2 g19 dX6_sort_79 ?_
    refine j_iadd (pc := 80) C dX6_sort_80 ?_
    refine gJ.topi (fun n20 en20 => ?_)
    have h := h n20 en20
    refine j_istore (pc := 81) (lv' := [(4, .int n20), (0, .ref (V.2.1 (75 + 3 * b))), (1, .ref (V.2.1 (73 + b))), (2, .int v2), (3, .int v3), (5, .int v5)]) C dX6_sort_81 (by decide) rfl ?_
    refine j_aload_n (pc := 83) C dX6_sort_83 rfl 1 rfl ?_
    refine j_getR (pc := 84) C (75 + 3 * b) 0 (76 + 3 * b) (f_75 hRG hb).1 (f_75 hRG hb).2 rfl rfl (by decide) inw_X6 wd_326 dX6_sort_84 ?_
    refine j_iload (pc := 87) C dX6_sort_87 5 rfl ?_
    refine j_iload (pc := 89) C dX6_sort_89 0 rfl ?_
    obtain ⟨g21, h⟩ := h
    refine j_iast (pc := 91) C (76 + 3 * b) (f_76 hRG hb).1 (f_76 hRG hb).2 g21 dX6_sort_91 ?_
    refine gJ.nmI (fun I22 eI22 => ?_)
    have h := h I22 eI22
    obtain ⟨n23, en23⟩ : ∃ z : Int32, z = v5 + 1 := ⟨_, rfl⟩
    have h := h n23 en23
    refine j_iinc (pc := 92) (v := n23) (lv' := [(5, .int n23), (4, .int n20), (0, .ref (V.2.1 (75 + 3 * b))), (1, .ref (V.2.1 (73 + b))), (2, .int v2), (3, .int v3)]) C dX6_sort_92 5 rfl (by rw [en23]; rfl) (by decide) rfl ?_
    refine j_goto (pc := 95) (tgt := 65) C dX6_sort_95 (by decide) ?_
    refine gJ.sub [2, 3, 4, 5, 1, 0] rfl ?_
    exact hK65 _ _ _ h
set_option maxRecDepth 100000 in
set_option maxHeartbeats 4000000 in
theorem t_X6_sort_65 {X : gX} {l : Launch} {D : va_G} {cy : Nat → ClassId} {nm : String} {V : gV} {b : Nat} {room : Nat} (hRG : gModRG room V) (hb : b < 2) (C : gC X cX6_sort RX6 none 6 rm_X6_sort) (hX : gIs X l D cy nm) {I : gI} {J : gL} {Po : gI → Prop} (hR : gR X (gPv V (fun I' J' => J = J' ∧ Po I'))) {v2 : Int32} {v3 : Int32} {v4 : Int32} {v5 : Int32} (h : w_X6_sort_65 b room Po v2 v3 v4 v5 I) : gJ X V 0 0 65 [(0, .ref (V.2.1 (75 + 3 * b))), (1, .ref (V.2.1 (73 + b))), (2, .int v2), (3, .int v3), (4, .int v4), (5, .int v5)] [] I J := by
  unfold w_X6_sort_65 at h
  obtain ⟨Inv, mu, h0, hs⟩ := h
  have key : ∀ (n : Nat) (v4 : Int32) (v5 : Int32) (I : gI), Inv v4 v5 I → mu v4 v5 I < n → gJ X V 0 0 65 [(0, .ref (V.2.1 (75 + 3 * b))), (1, .ref (V.2.1 (73 + b))), (2, .int v2), (3, .int v3), (4, .int v4), (5, .int v5)] [] I J := by
    intro n
    induction n with
    | zero => intro v4 v5 I hi hn; exact absurd hn (Nat.not_lt_zero _)
    | succ n ih =>
      intro v4 v5 I hi hn
      exact t_X6_sort_65b hRG hb C hX hR   (fun u4 u5 I1 hk => ih u4 u5 I1 hk.1 (Nat.lt_of_lt_of_le hk.2 (Nat.le_of_lt_succ hn))) (hs v4 v5 I hi)
  exact key _ v4 v5 I h0 (Nat.lt_succ_self _)
set_option maxRecDepth 100000 in
set_option maxHeartbeats 4000000 in
theorem t_X6_sort_53 {X : gX} {l : Launch} {D : va_G} {cy : Nat → ClassId} {nm : String} {V : gV} {b : Nat} {room : Nat} (hRG : gModRG room V) (hb : b < 2) (C : gC X cX6_sort RX6 none 6 rm_X6_sort) (hX : gIs X l D cy nm) {I : gI} {J : gL} {Po : gI → Prop} (hR : gR X (gPv V (fun I' J' => J = J' ∧ Po I'))) {v2 : Int32} {v3 : Int32} {v4 : Int32} {K26 : Int32 → gI → Prop} (hK26 : ∀ (y4 : Int32) (I1 : gI), K26 y4 I1 → gJ X V 0 0 26 [(0, .ref (V.2.1 (75 + 3 * b))), (1, .ref (V.2.1 (73 + b))), (2, .int v2), (3, .int v3), (4, .int y4)] [] I1 J) (h : w_X6_sort_53 b room Po K26 v2 v3 v4 I) : gJ X V 0 0 53 [(0, .ref (V.2.1 (75 + 3 * b))), (1, .ref (V.2.1 (73 + b))), (2, .int v2), (3, .int v3), (4, .int v4)] [] I J := by
  unfold w_X6_sort_53 at h
  obtain ⟨n26, en26⟩ : ∃ z : Int32, z = v4 + 1 := ⟨_, rfl⟩
  have h := h n26 en26
  refine j_iinc (pc := 53) (v := n26) (lv' := [(4, .int n26), (0, .ref (V.2.1 (75 + 3 * b))), (1, .ref (V.2.1 (73 + b))), (2, .int v2), (3, .int v3)]) C dX6_sort_53 4 rfl (by rw [en26]; rfl) (by decide) rfl ?_
  refine j_goto (pc := 56) (tgt := 26) C dX6_sort_56 (by decide) ?_
  refine gJ.sub [1, 2, 3, 4, 0] rfl ?_
  exact hK26 _ _ h
set_option maxRecDepth 100000 in
set_option maxHeartbeats 4000000 in
theorem t_X6_sort_26b {X : gX} {l : Launch} {D : va_G} {cy : Nat → ClassId} {nm : String} {V : gV} {b : Nat} {room : Nat} (hRG : gModRG room V) (hb : b < 2) (C : gC X cX6_sort RX6 none 6 rm_X6_sort) (hX : gIs X l D cy nm) {I : gI} {J : gL} {Po : gI → Prop} (hR : gR X (gPv V (fun I' J' => J = J' ∧ Po I'))) {v2 : Int32} {v3 : Int32} {v4 : Int32} {K26 : Int32 → gI → Prop} (hK26 : ∀ (y4 : Int32) (I1 : gI), K26 y4 I1 → gJ X V 0 0 26 [(0, .ref (V.2.1 (75 + 3 * b))), (1, .ref (V.2.1 (73 + b))), (2, .int v2), (3, .int v3), (4, .int y4)] [] I1 J) (h : w_X6_sort_26b b room Po K26 v2 v3 v4 I) : gJ X V 0 0 26 [(0, .ref (V.2.1 (75 + 3 * b))), (1, .ref (V.2.1 (73 + b))), (2, .int v2), (3, .int v3), (4, .int v4)] [] I J := by
  unfold w_X6_sort_26b at h
  refine j_iload (pc := 26) C dX6_sort_26 4 rfl ?_
  refine j_iload_n (pc := 28) C dX6_sort_28 rfl 2 rfl ?_
  refine j_icmp_ge (pc := 29) (tgt := 59) C dX6_sort_29 (by decide) (fun c2 => ?_) (fun c2 => ?_)
  · have h := h.1 c2
    refine j_iconst (pc := 59) (v := 0) C dX6_sort_59 (by decide) ?_
    refine j_istore (pc := 60) (lv' := [(4, .int (0 : Int32)), (0, .ref (V.2.1 (75 + 3 * b))), (1, .ref (V.2.1 (73 + b))), (2, .int v2), (3, .int v3)]) C dX6_sort_60 (by decide) rfl ?_
    refine j_iconst (pc := 62) (v := 0) C dX6_sort_62 (by decide) ?_
    refine j_istore (pc := 63) (lv' := [(5, .int (0 : Int32)), (4, .int (0 : Int32)), (0, .ref (V.2.1 (75 + 3 * b))), (1, .ref (V.2.1 (73 + b))), (2, .int v2), (3, .int v3)]) C dX6_sort_63 (by decide) rfl ?_
    refine gJ.sub [2, 3, 4, 5, 1, 0] rfl ?_
    exact t_X6_sort_65 hRG hb C hX hR   h
  · have h := h.2 c2
    refine j_aload_n (pc := 32) C dX6_sort_32 rfl 1 rfl ?_
    refine j_iload (pc := 33) C dX6_sort_33 4 rfl ?_
    obtain ⟨g24, h⟩ := h
    refine j_iald (pc := 35) C (73 + b) (f_73 hRG hb).1 (f_73 hRG hb).2 g24 dX6_sort_35 ?_
    refine j_iconst (pc := 36) (v := (-1)) C dX6_sort_36 (by decide) ?_
    refine j_icmp_eq (pc := 37) (tgt := 53) C dX6_sort_37 (by decide) (fun c25 => ?_) (fun c25 => ?_)
    · have h := h.1 c25
      refine gJ.sub [0, 1, 2, 3, 4] rfl ?_
      exact t_X6_sort_53 hRG hb C hX hR  hK26 h
    · have h := h.2 c25
      refine j_aload_n (pc := 40) C dX6_sort_40 rfl 0 rfl ?_
      refine j_getR (pc := 41) C (75 + 3 * b) 0 (76 + 3 * b) (f_75 hRG hb).1 (f_75 hRG hb).2 rfl rfl (by decide) inw_X6 wd_326 dX6_sort_41 ?_
      refine j_aload_n (pc := 44) C dX6_sort_44 rfl 1 rfl ?_
      refine j_iload (pc := 45) C dX6_sort_45 4 rfl ?_
      obtain ⟨g27, h⟩ := h
      refine j_iald (pc := 47) C (73 + b) (f_73 hRG hb).1 (f_73 hRG hb).2 g27 dX6_sort_47 ?_
      refine j_dup2_11 (pc := 48) C dX6_sort_48 rfl rfl ?_
      obtain ⟨g28, h⟩ := h
      refine j_iald (pc := 49) C (76 + 3 * b) (f_76 hRG hb).1 (f_76 hRG hb).2 g28 dX6_sort_49 ?_
      refine j_iconst (pc := 50) (v := 1) C dX6_sort_50 (by decide) ?_
      refine j_iadd (pc := 51) C dX6_sort_51 ?_
      obtain ⟨g29, h⟩ := h
      refine j_iast (pc := 52) C (76 + 3 * b) (f_76 hRG hb).1 (f_76 hRG hb).2 g29 dX6_sort_52 ?_
      refine gJ.nmI (fun I30 eI30 => ?_)
      have h := h I30 eI30
      refine gJ.sub [0, 1, 2, 3, 4] rfl ?_
      exact t_X6_sort_53 hRG hb C hX hR  hK26 h
set_option maxRecDepth 100000 in
set_option maxHeartbeats 4000000 in
theorem t_X6_sort_26 {X : gX} {l : Launch} {D : va_G} {cy : Nat → ClassId} {nm : String} {V : gV} {b : Nat} {room : Nat} (hRG : gModRG room V) (hb : b < 2) (C : gC X cX6_sort RX6 none 6 rm_X6_sort) (hX : gIs X l D cy nm) {I : gI} {J : gL} {Po : gI → Prop} (hR : gR X (gPv V (fun I' J' => J = J' ∧ Po I'))) {v2 : Int32} {v3 : Int32} {v4 : Int32} (h : w_X6_sort_26 b room Po v2 v3 v4 I) : gJ X V 0 0 26 [(0, .ref (V.2.1 (75 + 3 * b))), (1, .ref (V.2.1 (73 + b))), (2, .int v2), (3, .int v3), (4, .int v4)] [] I J := by
  unfold w_X6_sort_26 at h
  obtain ⟨Inv, mu, h0, hs⟩ := h
  have key : ∀ (n : Nat) (v4 : Int32) (I : gI), Inv v4 I → mu v4 I < n → gJ X V 0 0 26 [(0, .ref (V.2.1 (75 + 3 * b))), (1, .ref (V.2.1 (73 + b))), (2, .int v2), (3, .int v3), (4, .int v4)] [] I J := by
    intro n
    induction n with
    | zero => intro v4 I hi hn; exact absurd hn (Nat.not_lt_zero _)
    | succ n ih =>
      intro v4 I hi hn
      exact t_X6_sort_26b hRG hb C hX hR   (fun u4 I1 hk => ih u4 I1 hk.1 (Nat.lt_of_lt_of_le hk.2 (Nat.le_of_lt_succ hn))) (hs v4 I hi)
  exact key _ v4 I h0 (Nat.lt_succ_self _)
set_option maxRecDepth 100000 in
set_option maxHeartbeats 4000000 in
theorem t_X6_sort_3b {X : gX} {l : Launch} {D : va_G} {cy : Nat → ClassId} {nm : String} {V : gV} {b : Nat} {room : Nat} (hRG : gModRG room V) (hb : b < 2) (C : gC X cX6_sort RX6 none 6 rm_X6_sort) (hX : gIs X l D cy nm) {I : gI} {J : gL} {Po : gI → Prop} (hR : gR X (gPv V (fun I' J' => J = J' ∧ Po I'))) {v2 : Int32} {v3 : Int32} {v4 : Int32} {K3 : Int32 → gI → Prop} (hK3 : ∀ (y4 : Int32) (I1 : gI), K3 y4 I1 → gJ X V 0 0 3 [(0, .ref (V.2.1 (75 + 3 * b))), (1, .ref (V.2.1 (73 + b))), (2, .int v2), (3, .int v3), (4, .int y4)] [] I1 J) (h : w_X6_sort_3b b room Po K3 v2 v3 v4 I) : gJ X V 0 0 3 [(0, .ref (V.2.1 (75 + 3 * b))), (1, .ref (V.2.1 (73 + b))), (2, .int v2), (3, .int v3), (4, .int v4)] [] I J := by
  unfold w_X6_sort_3b at h
  refine j_iload (pc := 3) C dX6_sort_3 4 rfl ?_
  refine j_iload_n (pc := 5) C dX6_sort_5 rfl 3 rfl ?_
  refine j_icmp_ge (pc := 6) (tgt := 23) C dX6_sort_6 (by decide) (fun c1 => ?_) (fun c1 => ?_)
  · have h := h.1 c1
    refine j_iconst (pc := 23) (v := 0) C dX6_sort_23 (by decide) ?_
    refine j_istore (pc := 24) (lv' := [(4, .int (0 : Int32)), (0, .ref (V.2.1 (75 + 3 * b))), (1, .ref (V.2.1 (73 + b))), (2, .int v2), (3, .int v3)]) C dX6_sort_24 (by decide) rfl ?_
    refine gJ.sub [1, 2, 3, 4, 0] rfl ?_
    exact t_X6_sort_26 hRG hb C hX hR   h
  · have h := h.2 c1
    refine j_aload_n (pc := 9) C dX6_sort_9 rfl 0 rfl ?_
    refine j_getR (pc := 10) C (75 + 3 * b) 0 (76 + 3 * b) (f_75 hRG hb).1 (f_75 hRG hb).2 rfl rfl (by decide) inw_X6 wd_326 dX6_sort_10 ?_
    refine j_iload (pc := 13) C dX6_sort_13 4 rfl ?_
    refine j_iconst (pc := 15) (v := 0) C dX6_sort_15 (by decide) ?_
    obtain ⟨g31, h⟩ := h
    refine j_iast (pc := 16) C (76 + 3 * b) (f_76 hRG hb).1 (f_76 hRG hb).2 g31 dX6_sort_16 ?_
    refine gJ.nmI (fun I32 eI32 => ?_)
    have h := h I32 eI32
    obtain ⟨n33, en33⟩ : ∃ z : Int32, z = v4 + 1 := ⟨_, rfl⟩
    have h := h n33 en33
    refine j_iinc (pc := 17) (v := n33) (lv' := [(4, .int n33), (0, .ref (V.2.1 (75 + 3 * b))), (1, .ref (V.2.1 (73 + b))), (2, .int v2), (3, .int v3)]) C dX6_sort_17 4 rfl (by rw [en33]; rfl) (by decide) rfl ?_
    refine j_goto (pc := 20) (tgt := 3) C dX6_sort_20 (by decide) ?_
    refine gJ.sub [1, 2, 3, 4, 0] rfl ?_
    exact hK3 _ _ h
set_option maxRecDepth 100000 in
set_option maxHeartbeats 4000000 in
theorem t_X6_sort_3 {X : gX} {l : Launch} {D : va_G} {cy : Nat → ClassId} {nm : String} {V : gV} {b : Nat} {room : Nat} (hRG : gModRG room V) (hb : b < 2) (C : gC X cX6_sort RX6 none 6 rm_X6_sort) (hX : gIs X l D cy nm) {I : gI} {J : gL} {Po : gI → Prop} (hR : gR X (gPv V (fun I' J' => J = J' ∧ Po I'))) {v2 : Int32} {v3 : Int32} {v4 : Int32} (h : w_X6_sort_3 b room Po v2 v3 v4 I) : gJ X V 0 0 3 [(0, .ref (V.2.1 (75 + 3 * b))), (1, .ref (V.2.1 (73 + b))), (2, .int v2), (3, .int v3), (4, .int v4)] [] I J := by
  unfold w_X6_sort_3 at h
  obtain ⟨Inv, mu, h0, hs⟩ := h
  have key : ∀ (n : Nat) (v4 : Int32) (I : gI), Inv v4 I → mu v4 I < n → gJ X V 0 0 3 [(0, .ref (V.2.1 (75 + 3 * b))), (1, .ref (V.2.1 (73 + b))), (2, .int v2), (3, .int v3), (4, .int v4)] [] I J := by
    intro n
    induction n with
    | zero => intro v4 I hi hn; exact absurd hn (Nat.not_lt_zero _)
    | succ n ih =>
      intro v4 I hi hn
      exact t_X6_sort_3b hRG hb C hX hR   (fun u4 I1 hk => ih u4 I1 hk.1 (Nat.lt_of_lt_of_le hk.2 (Nat.le_of_lt_succ hn))) (hs v4 I hi)
  exact key _ v4 I h0 (Nat.lt_succ_self _)
set_option maxRecDepth 100000 in
set_option maxHeartbeats 4000000 in
theorem m_X6_sort {l : Launch} {D : va_G} {cy : Nat → ClassId} {V : gV} {b : Nat} {room : Nat} (hRG : gModRG room V) (hb : b < 2) {a2 : Int32} {a3 : Int32} {I : gI} {J : gL} {Po : gI → Prop} (h : wp_X6_sort b room a2 a3 I Po) : gMet l D cy yX6_sort cX6_sort 6 none rm_X6_sort V [.ref (V.2.1 (75 + 3 * b)), .ref (V.2.1 (73 + b)), .int a2, .int a3] I J (gPv V (fun I' J' => J = J' ∧ Po I')) := by
  refine gMet.of (by decide) (Nat.le_of_ble_eq_true rfl) (fun X hX C hR => ?_)
  have C : gC X cX6_sort RX6 none 6 rm_X6_sort := C
  show gJ X V 0 0 0 [(0, .ref (V.2.1 (75 + 3 * b))), (1, .ref (V.2.1 (73 + b))), (2, .int a2), (3, .int a3)] [] I J
  unfold wp_X6_sort at h
  refine j_iconst (pc := 0) (v := 0) C dX6_sort_0 (by decide) ?_
  refine j_istore (pc := 1) (lv' := [(4, .int (0 : Int32)), (0, .ref (V.2.1 (75 + 3 * b))), (1, .ref (V.2.1 (73 + b))), (2, .int a2), (3, .int a3)]) C dX6_sort_1 (by decide) rfl ?_
  refine gJ.sub [1, 2, 3, 4, 0] rfl ?_
  exact t_X6_sort_3 hRG hb C hX hR   h
/-! TileRules$RowGraph.build(IZ)V -/
abbrev rm_X5_build : Room := { frames := 13, cells := 0, slots := 0, locals := 355 }
theorem ok_X5_build : gOk yX5_build cX5_build 3 none 2 := ⟨wd_400, wd_75, by decide +kernel⟩
def wp_X5_build (room : Nat) (a1 : Int32) (a2 : Int32) (I : gI) (Po : gI → Prop) : Prop :=
  ∀ I1 : gI, I1 = gup I 70 9 a1 → (a2 = 0 ∨ a2 = 1) ∧ ∀ I3 : gI, I3 = gup I1 70 10 a2 → wp_X5_giveDigits room I3 (fun I4 => wp_X9_power (I4 70 11) (I4 70 9) (fun r5 => ∀ I6 : gI, I6 = gup I4 70 12 r5 → ∀ I7 : gI, I7 = gup I6 70 13 (0 : Int32) → wp_X5_addRows room 6 (0 : Int32) (0 : Int32) (0 : Int32) (0 : Int32) I7 (fun I8 => wp_X6_sort 0 room (I8 70 13) (I8 70 12) I8 (fun I9 => wp_X6_sort 1 room (I9 70 13) (I9 70 12) I9 (fun I10 => Po I10)))))
set_option maxRecDepth 100000 in
set_option maxHeartbeats 4000000 in
theorem m_X5_build {l : Launch} {D : va_G} {cy : Nat → ClassId} {V : gV} {room : Nat} (hTS : gModTS V) (hRG : gModRG room V) {a1 : Int32} {a2 : Int32} {I : gI} {J : gL} {Po : gI → Prop} (h : wp_X5_build room a1 a2 I Po) : gMet l D cy yX5_build cX5_build 3 none rm_X5_build V [.ref (V.2.1 70), .int a1, .int a2] I J (gPv V (fun I' J' => J = J' ∧ Po I')) := by
  refine gMet.of (by decide) (Nat.le_of_ble_eq_true rfl) (fun X hX C hR => ?_)
  have C : gC X cX5_build RX5 none 3 rm_X5_build := C
  show gJ X V 0 0 0 [(0, .ref (V.2.1 70)), (1, .int a1), (2, .int a2)] [] I J
  unfold wp_X5_build at h
  refine j_aload_n (pc := 0) C dX5_build_0 rfl 0 rfl ?_
  refine j_iload_n (pc := 1) C dX5_build_1 rfl 1 rfl ?_
  refine j_putI (pc := 2) (ft := .int) C tyX5 tyX5_ok nmX5 70 9 (c_70 hRG).1 (c_70 hRG).2 rfl rfl (by decide) inw_X5 wd_363 rfl (by decide +kernel) rfl rfl dX5_build_2 ?_
  refine gJ.nmI (fun I1 eI1 => ?_)
  have h := h I1 eI1
  refine j_aload_n (pc := 5) C dX5_build_5 rfl 0 rfl ?_
  refine j_iload_n (pc := 6) C dX5_build_6 rfl 2 rfl ?_
  obtain ⟨g2, h⟩ := h
  refine j_putI (pc := 7) (ft := .boolean) C tyX5 tyX5_ok nmX5 70 10 (c_70 hRG).1 (c_70 hRG).2 rfl rfl (by decide) inw_X5 wd_364 rfl (by decide +kernel) (by rcases g2 with q | q <;> rw [q] <;> rfl) (by rcases g2 with q | q <;> rw [q] <;> rfl) dX5_build_7 ?_
  refine gJ.nmI (fun I3 eI3 => ?_)
  have h := h I3 eI3
  refine j_aload_n (pc := 10) C dX5_build_10 rfl 0 rfl ?_
  refine j_callV (pc := 11) (As := []) (st := []) C hX 70 (m_X5_giveDigits hTS hRG  h) (c_70 hRG).1 (c_70 hRG).2 rfl ok_X5_giveDigits wd_401 wd_403 wd_1 ⟨by decide, by decide⟩ rfl rfl (Nat.le_of_ble_eq_true rfl) ⟨Nat.le_refl 0, Nat.le_refl 0⟩ dX5_build_11 (fun r V1 I4 J1 hp => ?_)
  obtain ⟨rfl, rfl, rfl, h⟩ := hp
  show gJ X V 0 0 14 _ [] _ _
  refine j_aload_n (pc := 14) C dX5_build_14 rfl 0 rfl ?_
  refine j_aload_n (pc := 15) C dX5_build_15 rfl 0 rfl ?_
  refine j_getI (pc := 16) C 70 11 (c_70 hRG).1 (c_70 hRG).2 rfl rfl (by decide) inw_X5 wd_365 dX5_build_16 ?_
  refine j_aload_n (pc := 19) C dX5_build_19 rfl 0 rfl ?_
  refine j_getI (pc := 20) C 70 9 (c_70 hRG).1 (c_70 hRG).2 rfl rfl (by decide) inw_X5 wd_363 dX5_build_20 ?_
  refine j_callSN (pc := 23) (host := RX9) (As := [.int (I4 70 11), .int (I4 70 9)]) (st := [.ref (V.2.1 70)]) C hX (m_X9_power   h) ok_X9_power (fun U q => q.2.2.2.2.1) wd_307 ⟨by decide, by decide⟩ rfl rfl (Nat.le_of_ble_eq_true rfl) ⟨Nat.le_refl 0, Nat.le_refl 0⟩ dX5_build_23 (fun r V1 I1 J1 hp => ?_)
  obtain ⟨r5, rfl, rfl, rfl, rfl, h⟩ := hp
  show gJ X V 0 0 26 _ [.int r5, .ref (V.2.1 70)] _ _
  refine j_putI (pc := 26) (ft := .int) C tyX5 tyX5_ok nmX5 70 12 (c_70 hRG).1 (c_70 hRG).2 rfl rfl (by decide) inw_X5 wd_366 rfl (by decide +kernel) rfl rfl dX5_build_26 ?_
  refine gJ.nmI (fun I6 eI6 => ?_)
  have h := h I6 eI6
  refine j_aload_n (pc := 29) C dX5_build_29 rfl 0 rfl ?_
  refine j_iconst (pc := 30) (v := 0) C dX5_build_30 (by decide) ?_
  refine j_putI (pc := 31) (ft := .int) C tyX5 tyX5_ok nmX5 70 13 (c_70 hRG).1 (c_70 hRG).2 rfl rfl (by decide) inw_X5 wd_367 rfl (by decide +kernel) rfl rfl dX5_build_31 ?_
  refine gJ.nmI (fun I7 eI7 => ?_)
  have h := h I7 eI7
  refine j_aload_n (pc := 34) C dX5_build_34 rfl 0 rfl ?_
  refine j_iconst (pc := 35) (v := 0) C dX5_build_35 (by decide) ?_
  refine j_iconst (pc := 36) (v := 0) C dX5_build_36 (by decide) ?_
  refine j_iconst (pc := 37) (v := 0) C dX5_build_37 (by decide) ?_
  refine j_iconst (pc := 38) (v := 0) C dX5_build_38 (by decide) ?_
  refine j_callV (pc := 39) (As := [.int (0 : Int32), .int (0 : Int32), .int (0 : Int32), .int (0 : Int32)]) (st := []) C hX 70 (m_X5_addRows hTS hRG 6 _ _ _ _ _ _ _ h) (c_70 hRG).1 (c_70 hRG).2 rfl ok_X5_addRows wd_409 wd_411 wd_2 ⟨by decide, by decide⟩ rfl rfl (Nat.le_of_ble_eq_true rfl) ⟨Nat.le_refl 0, Nat.le_refl 0⟩ dX5_build_39 (fun r V1 I8 J1 hp => ?_)
  obtain ⟨rfl, rfl, rfl, h⟩ := hp
  show gJ X V 0 0 42 _ [] _ _
  refine j_aload_n (pc := 42) C dX5_build_42 rfl 0 rfl ?_
  refine j_getR (pc := 43) C 70 6 75 (c_70 hRG).1 (c_70 hRG).2 rfl rfl (by decide) inw_X5 wd_360 dX5_build_43 ?_
  refine j_aload_n (pc := 46) C dX5_build_46 rfl 0 rfl ?_
  refine j_getR (pc := 47) C 70 4 73 (c_70 hRG).1 (c_70 hRG).2 rfl rfl (by decide) inw_X5 wd_358 dX5_build_47 ?_
  refine j_aload_n (pc := 50) C dX5_build_50 rfl 0 rfl ?_
  refine j_getI (pc := 51) C 70 13 (c_70 hRG).1 (c_70 hRG).2 rfl rfl (by decide) inw_X5 wd_367 dX5_build_51 ?_
  refine j_aload_n (pc := 54) C dX5_build_54 rfl 0 rfl ?_
  refine j_getI (pc := 55) C 70 12 (c_70 hRG).1 (c_70 hRG).2 rfl rfl (by decide) inw_X5 wd_366 dX5_build_55 ?_
  refine j_callV (pc := 58) (As := [.ref (V.2.1 73), .int (I8 70 13), .int (I8 70 12)]) (st := []) C hX 75 (m_X6_sort hRG (by decide) h) (c_75 hRG).1 (c_75 hRG).2 rfl ok_X6_sort wd_425 wd_426 wd_427 ⟨by decide, by decide⟩ rfl rfl (Nat.le_of_ble_eq_true rfl) ⟨Nat.le_refl 0, Nat.le_refl 0⟩ dX5_build_58 (fun r V1 I9 J1 hp => ?_)
  obtain ⟨rfl, rfl, rfl, h⟩ := hp
  show gJ X V 0 0 61 _ [] _ _
  refine j_aload_n (pc := 61) C dX5_build_61 rfl 0 rfl ?_
  refine j_getR (pc := 62) C 70 7 78 (c_70 hRG).1 (c_70 hRG).2 rfl rfl (by decide) inw_X5 wd_361 dX5_build_62 ?_
  refine j_aload_n (pc := 65) C dX5_build_65 rfl 0 rfl ?_
  refine j_getR (pc := 66) C 70 5 74 (c_70 hRG).1 (c_70 hRG).2 rfl rfl (by decide) inw_X5 wd_359 dX5_build_66 ?_
  refine j_aload_n (pc := 69) C dX5_build_69 rfl 0 rfl ?_
  refine j_getI (pc := 70) C 70 13 (c_70 hRG).1 (c_70 hRG).2 rfl rfl (by decide) inw_X5 wd_367 dX5_build_70 ?_
  refine j_aload_n (pc := 73) C dX5_build_73 rfl 0 rfl ?_
  refine j_getI (pc := 74) C 70 12 (c_70 hRG).1 (c_70 hRG).2 rfl rfl (by decide) inw_X5 wd_366 dX5_build_74 ?_
  refine j_callV (pc := 77) (As := [.ref (V.2.1 74), .int (I9 70 13), .int (I9 70 12)]) (st := []) C hX 78 (m_X6_sort hRG (by decide) h) (c_78 hRG).1 (c_78 hRG).2 rfl ok_X6_sort wd_425 wd_426 wd_427 ⟨by decide, by decide⟩ rfl rfl (Nat.le_of_ble_eq_true rfl) ⟨Nat.le_refl 0, Nat.le_refl 0⟩ dX5_build_77 (fun r V1 I10 J1 hp => ?_)
  obtain ⟨rfl, rfl, rfl, h⟩ := hp
  show gJ X V 0 0 80 _ [] _ _
  exact j_vret (pc := 80) C hR (Nat.zero_le _) (Nat.zero_le _) dX5_build_80 ⟨rfl, rfl, rfl, h⟩
/-! TileRules$Tally.add(IJ)V -/
abbrev rm_X7_add : Room := { frames := 0, cells := 0, slots := 0, locals := 0 }
theorem ok_X7_add : gOk yX7_add cX7_add 4 none 2 := ⟨wd_452, wd_77, by decide +kernel⟩
def w_X7_add_31 (d : Nat) (room : Nat) (Po : gI → gL → Prop)  (v1 : Int32) (v2 : Int64) (I : gI) (J : gL) : Prop :=
  vp_in v1 room ∧ vp_in v1 room ∧ ∀ J5 : gL, J5 = gup J (86 + d) (v1).toNatClampNeg ((J (86 + d) (v1).toNatClampNeg) + v2) → Po I J5
def wp_X7_add (d : Nat) (room : Nat) (a1 : Int32) (a2 : Int64) (I : gI) (J : gL) (Po : gI → gL → Prop) : Prop :=
  vp_in a1 room ∧ (¬ (lg_cmp (J (86 + d) (a1).toNatClampNeg) (0 : Int64)) = 0 → w_X7_add_31 d room Po a1 a2 I J) ∧ ((lg_cmp (J (86 + d) (a1).toNatClampNeg) (0 : Int64)) = 0 → vp_in (I (82 + d) 2) room ∧ ∀ I7 : gI, I7 = gup I (90 + d) ((I (82 + d) 2)).toNatClampNeg a1 → ∀ I8 : gI, I8 = gup I7 (82 + d) 2 ((I7 (82 + d) 2) + (1 : Int32)) → w_X7_add_31 d room Po a1 a2 I8 J)
set_option maxRecDepth 100000 in
set_option maxHeartbeats 4000000 in
theorem t_X7_add_31 {X : gX} {l : Launch} {D : va_G} {cy : Nat → ClassId} {nm : String} {V : gV} {d : Nat} {room : Nat} (hRG : gModRG room V) (hd : d < 4) (C : gC X cX7_add RX7 none 4 rm_X7_add) (hX : gIs X l D cy nm) {I : gI} {J : gL} {Po : gI → gL → Prop} (hR : gR X (gPv V (fun I' J' => Po I' J'))) {v1 : Int32} {v2 : Int64} (h : w_X7_add_31 d room Po v1 v2 I J) : gJ X V 0 0 31 [(0, .ref (V.2.1 (82 + d))), (1, .int v1), (2, .long v2)] [] I J := by
  unfold w_X7_add_31 at h
  refine j_aload_n (pc := 31) C dX7_add_31 rfl 0 rfl ?_
  refine j_getR (pc := 32) C (82 + d) 0 (86 + d) (f_82 hRG hd).1 (f_82 hRG hd).2 rfl rfl (by decide) inw_X7 wd_340 dX7_add_32 ?_
  refine j_iload_n (pc := 35) C dX7_add_35 rfl 1 rfl ?_
  refine j_dup2_11 (pc := 36) C dX7_add_36 rfl rfl ?_
  obtain ⟨g3, h⟩ := h
  refine j_lald (pc := 37) C (86 + d) (f_86 hRG hd).1 (f_86 hRG hd).2 g3 dX7_add_37 ?_
  refine j_lload_n (pc := 38) C dX7_add_38 rfl 2 rfl ?_
  refine j_ladd (pc := 39) C dX7_add_39 ?_
  obtain ⟨g4, h⟩ := h
  refine j_last (pc := 40) C (86 + d) (f_86 hRG hd).1 (f_86 hRG hd).2 g4 dX7_add_40 ?_
  refine gJ.nmJ (fun J5 eJ5 => ?_)
  have h := h J5 eJ5
  exact j_vret (pc := 41) C hR (Nat.zero_le _) (Nat.zero_le _) dX7_add_41 ⟨rfl, rfl, h⟩
set_option maxRecDepth 100000 in
set_option maxHeartbeats 4000000 in
theorem m_X7_add {l : Launch} {D : va_G} {cy : Nat → ClassId} {V : gV} {d : Nat} {room : Nat} (hRG : gModRG room V) (hd : d < 4) {a1 : Int32} {a2 : Int64} {I : gI} {J : gL} {Po : gI → gL → Prop} (h : wp_X7_add d room a1 a2 I J Po) : gMet l D cy yX7_add cX7_add 4 none rm_X7_add V [.ref (V.2.1 (82 + d)), .int a1, .long a2] I J (gPv V (fun I' J' => Po I' J')) := by
  refine gMet.of (by decide) (Nat.le_of_ble_eq_true rfl) (fun X hX C hR => ?_)
  have C : gC X cX7_add RX7 none 4 rm_X7_add := C
  show gJ X V 0 0 0 [(0, .ref (V.2.1 (82 + d))), (1, .int a1), (2, .long a2)] [] I J
  unfold wp_X7_add at h
  refine j_aload_n (pc := 0) C dX7_add_0 rfl 0 rfl ?_
  refine j_getR (pc := 1) C (82 + d) 0 (86 + d) (f_82 hRG hd).1 (f_82 hRG hd).2 rfl rfl (by decide) inw_X7 wd_340 dX7_add_1 ?_
  refine j_iload_n (pc := 4) C dX7_add_4 rfl 1 rfl ?_
  obtain ⟨g1, h⟩ := h
  refine j_lald (pc := 5) C (86 + d) (f_86 hRG hd).1 (f_86 hRG hd).2 g1 dX7_add_5 ?_
  refine j_lconst (pc := 6) (v := 0) C dX7_add_6 (by decide) ?_
  refine j_lcmp (pc := 7) C dX7_add_7 ?_
  refine j_if_ne (pc := 8) (tgt := 31) C dX7_add_8 (by decide) (fun c2 => ?_) (fun c2 => ?_)
  · have h := h.1 c2
    refine gJ.sub [0, 1, 2] rfl ?_
    exact t_X7_add_31 hRG hd C hX hR   h
  · have h := h.2 c2
    refine j_aload_n (pc := 11) C dX7_add_11 rfl 0 rfl ?_
    refine j_getR (pc := 12) C (82 + d) 1 (90 + d) (f_82 hRG hd).1 (f_82 hRG hd).2 rfl rfl (by decide) inw_X7 wd_342 dX7_add_12 ?_
    refine j_aload_n (pc := 15) C dX7_add_15 rfl 0 rfl ?_
    refine j_getI (pc := 16) C (82 + d) 2 (f_82 hRG hd).1 (f_82 hRG hd).2 rfl rfl (by decide) inw_X7 wd_344 dX7_add_16 ?_
    refine j_iload_n (pc := 19) C dX7_add_19 rfl 1 rfl ?_
    obtain ⟨g6, h⟩ := h
    refine j_iast (pc := 20) C (90 + d) (f_90 hRG hd).1 (f_90 hRG hd).2 g6 dX7_add_20 ?_
    refine gJ.nmI (fun I7 eI7 => ?_)
    have h := h I7 eI7
    refine j_aload_n (pc := 21) C dX7_add_21 rfl 0 rfl ?_
    refine j_dup (pc := 22) C dX7_add_22 rfl ?_
    refine j_getI (pc := 23) C (82 + d) 2 (f_82 hRG hd).1 (f_82 hRG hd).2 rfl rfl (by decide) inw_X7 wd_344 dX7_add_23 ?_
    refine j_iconst (pc := 26) (v := 1) C dX7_add_26 (by decide) ?_
    refine j_iadd (pc := 27) C dX7_add_27 ?_
    refine j_putI (pc := 28) (ft := .int) C tyX7 tyX7_ok nmX7 (82 + d) 2 (f_82 hRG hd).1 (f_82 hRG hd).2 rfl rfl (by decide) inw_X7 wd_344 rfl (by decide +kernel) rfl rfl dX7_add_28 ?_
    refine gJ.nmI (fun I8 eI8 => ?_)
    have h := h I8 eI8
    refine gJ.sub [0, 1, 2] rfl ?_
    exact t_X7_add_31 hRG hd C hX hR   h
/-! TileRules$Tally.clear()V -/
abbrev rm_X7_clear : Room := { frames := 0, cells := 0, slots := 0, locals := 0 }
theorem ok_X7_clear : gOk yX7_clear cX7_clear 2 none 0 := ⟨wd_448, wd_77, by decide +kernel⟩
def w_X7_clear_2b (d : Nat) (room : Nat) (Po : gI → gL → Prop) (K2 : Int32 → gL → Prop) (v1 : Int32) (I : gI) (J : gL) : Prop :=
  ((I (82 + d) 2) ≤ v1 → ∀ I2 : gI, I2 = gup I (82 + d) 2 (0 : Int32) → Po I2 J) ∧ (¬ (I (82 + d) 2) ≤ v1 → vp_in v1 room ∧ vp_in (I (90 + d) (v1).toNatClampNeg) room ∧ ∀ J5 : gL, J5 = gup J (86 + d) ((I (90 + d) (v1).toNatClampNeg)).toNatClampNeg (0 : Int64) → ∀ n6 : Int32, n6 = v1 + 1 → K2 n6 J5)
def w_X7_clear_2 (d : Nat) (room : Nat) (Po : gI → gL → Prop)  (v1 : Int32) (I : gI) (J : gL) : Prop :=
  ∃ (Inv : Int32 → gL → Prop) (mu : Int32 → gL → Nat), Inv v1 J ∧ ∀ (v1 : Int32) (J : gL), Inv v1 J → w_X7_clear_2b d room Po  (fun u1 J1 => Inv u1 J1 ∧ mu u1 J1 < mu v1 J) v1 I J
def wp_X7_clear (d : Nat) (room : Nat) (I : gI) (J : gL) (Po : gI → gL → Prop) : Prop :=
  w_X7_clear_2 d room Po (0 : Int32) I J
set_option maxRecDepth 100000 in
set_option maxHeartbeats 4000000 in
theorem t_X7_clear_2b {X : gX} {l : Launch} {D : va_G} {cy : Nat → ClassId} {nm : String} {V : gV} {d : Nat} {room : Nat} (hRG : gModRG room V) (hd : d < 4) (C : gC X cX7_clear RX7 none 2 rm_X7_clear) (hX : gIs X l D cy nm) {I : gI} {J : gL} {Po : gI → gL → Prop} (hR : gR X (gPv V (fun I' J' => Po I' J'))) {v1 : Int32} {K2 : Int32 → gL → Prop} (hK2 : ∀ (y1 : Int32) (J1 : gL), K2 y1 J1 → gJ X V 0 0 2 [(0, .ref (V.2.1 (82 + d))), (1, .int y1)] [] I J1) (h : w_X7_clear_2b d room Po K2 v1 I J) : gJ X V 0 0 2 [(0, .ref (V.2.1 (82 + d))), (1, .int v1)] [] I J := by
  unfold w_X7_clear_2b at h
  refine j_iload_n (pc := 2) C dX7_clear_2 rfl 1 rfl ?_
  refine j_aload_n (pc := 3) C dX7_clear_3 rfl 0 rfl ?_
  refine j_getI (pc := 4) C (82 + d) 2 (f_82 hRG hd).1 (f_82 hRG hd).2 rfl rfl (by decide) inw_X7 wd_344 dX7_clear_4 ?_
  refine j_icmp_ge (pc := 7) (tgt := 28) C dX7_clear_7 (by decide) (fun c1 => ?_) (fun c1 => ?_)
  · have h := h.1 c1
    refine j_aload_n (pc := 28) C dX7_clear_28 rfl 0 rfl ?_
    refine j_iconst (pc := 29) (v := 0) C dX7_clear_29 (by decide) ?_
    refine j_putI (pc := 30) (ft := .int) C tyX7 tyX7_ok nmX7 (82 + d) 2 (f_82 hRG hd).1 (f_82 hRG hd).2 rfl rfl (by decide) inw_X7 wd_344 rfl (by decide +kernel) rfl rfl dX7_clear_30 ?_
    refine gJ.nmI (fun I2 eI2 => ?_)
    have h := h I2 eI2
    exact j_vret (pc := 33) C hR (Nat.zero_le _) (Nat.zero_le _) dX7_clear_33 ⟨rfl, rfl, h⟩
  · have h := h.2 c1
    refine j_aload_n (pc := 10) C dX7_clear_10 rfl 0 rfl ?_
    refine j_getR (pc := 11) C (82 + d) 0 (86 + d) (f_82 hRG hd).1 (f_82 hRG hd).2 rfl rfl (by decide) inw_X7 wd_340 dX7_clear_11 ?_
    refine j_aload_n (pc := 14) C dX7_clear_14 rfl 0 rfl ?_
    refine j_getR (pc := 15) C (82 + d) 1 (90 + d) (f_82 hRG hd).1 (f_82 hRG hd).2 rfl rfl (by decide) inw_X7 wd_342 dX7_clear_15 ?_
    refine j_iload_n (pc := 18) C dX7_clear_18 rfl 1 rfl ?_
    obtain ⟨g3, h⟩ := h
    refine j_iald (pc := 19) C (90 + d) (f_90 hRG hd).1 (f_90 hRG hd).2 g3 dX7_clear_19 ?_
    refine j_lconst (pc := 20) (v := 0) C dX7_clear_20 (by decide) ?_
    obtain ⟨g4, h⟩ := h
    refine j_last (pc := 21) C (86 + d) (f_86 hRG hd).1 (f_86 hRG hd).2 g4 dX7_clear_21 ?_
    refine gJ.nmJ (fun J5 eJ5 => ?_)
    have h := h J5 eJ5
    obtain ⟨n6, en6⟩ : ∃ z : Int32, z = v1 + 1 := ⟨_, rfl⟩
    have h := h n6 en6
    refine j_iinc (pc := 22) (v := n6) (lv' := [(1, .int n6), (0, .ref (V.2.1 (82 + d)))]) C dX7_clear_22 1 rfl (by rw [en6]; rfl) (by decide) rfl ?_
    refine j_goto (pc := 25) (tgt := 2) C dX7_clear_25 (by decide) ?_
    refine gJ.sub [1, 0] rfl ?_
    exact hK2 _ _ h
set_option maxRecDepth 100000 in
set_option maxHeartbeats 4000000 in
theorem t_X7_clear_2 {X : gX} {l : Launch} {D : va_G} {cy : Nat → ClassId} {nm : String} {V : gV} {d : Nat} {room : Nat} (hRG : gModRG room V) (hd : d < 4) (C : gC X cX7_clear RX7 none 2 rm_X7_clear) (hX : gIs X l D cy nm) {I : gI} {J : gL} {Po : gI → gL → Prop} (hR : gR X (gPv V (fun I' J' => Po I' J'))) {v1 : Int32} (h : w_X7_clear_2 d room Po v1 I J) : gJ X V 0 0 2 [(0, .ref (V.2.1 (82 + d))), (1, .int v1)] [] I J := by
  unfold w_X7_clear_2 at h
  obtain ⟨Inv, mu, h0, hs⟩ := h
  have key : ∀ (n : Nat) (v1 : Int32) (J : gL), Inv v1 J → mu v1 J < n → gJ X V 0 0 2 [(0, .ref (V.2.1 (82 + d))), (1, .int v1)] [] I J := by
    intro n
    induction n with
    | zero => intro v1 J hi hn; exact absurd hn (Nat.not_lt_zero _)
    | succ n ih =>
      intro v1 J hi hn
      exact t_X7_clear_2b hRG hd C hX hR   (fun u1 J1 hk => ih u1 J1 hk.1 (Nat.lt_of_lt_of_le hk.2 (Nat.le_of_lt_succ hn))) (hs v1 J hi)
  exact key _ v1 J h0 (Nat.lt_succ_self _)
set_option maxRecDepth 100000 in
set_option maxHeartbeats 4000000 in
theorem m_X7_clear {l : Launch} {D : va_G} {cy : Nat → ClassId} {V : gV} {d : Nat} {room : Nat} (hRG : gModRG room V) (hd : d < 4) {I : gI} {J : gL} {Po : gI → gL → Prop} (h : wp_X7_clear d room I J Po) : gMet l D cy yX7_clear cX7_clear 2 none rm_X7_clear V [.ref (V.2.1 (82 + d))] I J (gPv V (fun I' J' => Po I' J')) := by
  refine gMet.of (by decide) (Nat.le_of_ble_eq_true rfl) (fun X hX C hR => ?_)
  have C : gC X cX7_clear RX7 none 2 rm_X7_clear := C
  show gJ X V 0 0 0 [(0, .ref (V.2.1 (82 + d)))] [] I J
  unfold wp_X7_clear at h
  refine j_iconst (pc := 0) (v := 0) C dX7_clear_0 (by decide) ?_
  refine j_istore_n (pc := 1) (lv' := [(1, .int (0 : Int32)), (0, .ref (V.2.1 (82 + d)))]) C dX7_clear_1 rfl (by decide) rfl ?_
  refine gJ.sub [1, 0] rfl ?_
  exact t_X7_clear_2 hRG hd C hX hR   h
/-! TileRules$RowGraph.climb(I)V -/
abbrev rm_X5_climb : Room := { frames := 1, cells := 0, slots := 0, locals := 23 }
theorem ok_X5_climb : gOk yX5_climb cX5_climb 9 none 1 := ⟨wd_456, wd_75, by decide +kernel⟩
def w_X5_climb_116 (room : Nat) (Po : gI → gL → Prop) (K2 : Int32 → gI → gL → Prop) (K32 : Int32 → gI → gL → Prop) (K62 : Int32 → gI → gL → Prop) (v1 : Int32) (v2 : Int32) (v3 : Nat) (v4 : Nat) (v5 : Int32) (v6 : Int32) (v7 : Int32) (I : gI) (J : gL) : Prop :=
  ∀ n19 : Int32, n19 = v7 + 1 → K62 n19 I J
def w_X5_climb_62b (room : Nat) (Po : gI → gL → Prop) (K2 : Int32 → gI → gL → Prop) (K32 : Int32 → gI → gL → Prop) (K62 : Int32 → gI → gL → Prop) (v1 : Int32) (v2 : Int32) (v3 : Nat) (v4 : Nat) (v5 : Int32) (v6 : Int32) (v7 : Int32) (I : gI) (J : gL) : Prop :=
  vp_in (v6 + (1 : Int32)) (room + 1) ∧ ((I 79 ((v6 + (1 : Int32))).toNatClampNeg) ≤ v7 → ∀ n14 : Int32, n14 = v5 + 1 → K32 n14 I J) ∧ (¬ (I 79 ((v6 + (1 : Int32))).toNatClampNeg) ≤ v7 → vp_in v7 room ∧ vp_in (I 80 (v7).toNatClampNeg) room ∧ ∀ n17 : Int32, n17 = (I 73 ((I 80 (v7).toNatClampNeg)).toNatClampNeg) → (n17 = (-1 : Int32) → w_X5_climb_116 room Po K2 K32 K62 v1 v2 v3 v4 v5 v6 v7 I J) ∧ (¬ n17 = (-1 : Int32) → vp_in v6 room ∧ wp_X7_add v4 room n17 (J (86 + v3) (v6).toNatClampNeg) I J (fun I21 J22 => w_X5_climb_116 room Po K2 K32 K62 v1 v2 v3 v4 v5 v6 v7 I21 J22)))
def w_X5_climb_62 (room : Nat) (Po : gI → gL → Prop) (K2 : Int32 → gI → gL → Prop) (K32 : Int32 → gI → gL → Prop) (v1 : Int32) (v2 : Int32) (v3 : Nat) (v4 : Nat) (v5 : Int32) (v6 : Int32) (v7 : Int32) (I : gI) (J : gL) : Prop :=
  ∃ (Inv : Int32 → gI → gL → Prop) (mu : Int32 → gI → gL → Nat), Inv v7 I J ∧ ∀ (v7 : Int32) (I : gI) (J : gL), Inv v7 I J → w_X5_climb_62b room Po K2 K32 (fun u7 I1 J1 => Inv u7 I1 J1 ∧ mu u7 I1 J1 < mu v7 I J) v1 v2 v3 v4 v5 v6 v7 I J
def w_X5_climb_32b (room : Nat) (Po : gI → gL → Prop) (K2 : Int32 → gI → gL → Prop) (K32 : Int32 → gI → gL → Prop) (v1 : Int32) (v2 : Int32) (v3 : Nat) (v4 : Nat) (v5 : Int32) (I : gI) (J : gL) : Prop :=
  ((I (82 + v3) 2) ≤ v5 → ∀ n7 : Int32, n7 = v2 + 1 → K2 n7 I J) ∧ (¬ (I (82 + v3) 2) ≤ v5 → vp_in v5 room ∧ ∀ n9 : Int32, n9 = (I (90 + v3) (v5).toNatClampNeg) → vp_in n9 (room + 1) ∧ ∀ n11 : Int32, n11 = (I 79 (n9).toNatClampNeg) → w_X5_climb_62 room Po K2 K32 v1 v2 v3 v4 v5 n9 n11 I J)
def w_X5_climb_32 (room : Nat) (Po : gI → gL → Prop) (K2 : Int32 → gI → gL → Prop) (v1 : Int32) (v2 : Int32) (v3 : Nat) (v4 : Nat) (v5 : Int32) (I : gI) (J : gL) : Prop :=
  ∃ (Inv : Int32 → gI → gL → Prop) (mu : Int32 → gI → gL → Nat), Inv v5 I J ∧ ∀ (v5 : Int32) (I : gI) (J : gL), Inv v5 I J → w_X5_climb_32b room Po K2 (fun u5 I1 J1 => Inv u5 I1 J1 ∧ mu u5 I1 J1 < mu v5 I J) v1 v2 v3 v4 v5 I J
def w_X5_climb_2b (room : Nat) (Po : gI → gL → Prop) (K2 : Int32 → gI → gL → Prop) (v1 : Int32) (v2 : Int32) (I : gI) (J : gL) : Prop :=
  (v1 ≤ v2 → Po I J) ∧ (¬ v1 ≤ v2 → vp_in v2 4 ∧ vp_in (v2 + (1 : Int32)) 4 ∧ wp_X7_clear (((v2 + (1 : Int32))).toNatClampNeg) room I J (fun I4 J5 => w_X5_climb_32 room Po K2 v1 v2 ((v2).toNatClampNeg) (((v2 + (1 : Int32))).toNatClampNeg) (0 : Int32) I4 J5))
def w_X5_climb_2 (room : Nat) (Po : gI → gL → Prop)  (v1 : Int32) (v2 : Int32) (I : gI) (J : gL) : Prop :=
  ∃ (Inv : Int32 → gI → gL → Prop) (mu : Int32 → gI → gL → Nat), Inv v2 I J ∧ ∀ (v2 : Int32) (I : gI) (J : gL), Inv v2 I J → w_X5_climb_2b room Po  (fun u2 I1 J1 => Inv u2 I1 J1 ∧ mu u2 I1 J1 < mu v2 I J) v1 v2 I J
def wp_X5_climb (room : Nat) (a1 : Int32) (I : gI) (J : gL) (Po : gI → gL → Prop) : Prop :=
  w_X5_climb_2 room Po a1 (0 : Int32) I J
set_option maxRecDepth 100000 in
set_option maxHeartbeats 4000000 in
theorem t_X5_climb_116 {X : gX} {l : Launch} {D : va_G} {cy : Nat → ClassId} {nm : String} {V : gV} {room : Nat} (hTS : gModTS V) (hRG : gModRG room V) (C : gC X cX5_climb RX5 none 9 rm_X5_climb) (hX : gIs X l D cy nm) {I : gI} {J : gL} {Po : gI → gL → Prop} (hR : gR X (gPv V (fun I' J' => Po I' J'))) {v1 : Int32} {v2 : Int32} {v3 : Nat} {v4 : Nat} {v5 : Int32} {v6 : Int32} {v7 : Int32} (hv3 : v3 < 4) (hv4 : v4 < 4) {K2 : Int32 → gI → gL → Prop} {K32 : Int32 → gI → gL → Prop} {K62 : Int32 → gI → gL → Prop} (hK2 : ∀ (y2 : Int32) (I1 : gI) (J1 : gL), K2 y2 I1 J1 → gJ X V 0 0 2 [(0, .ref (V.2.1 70)), (1, .int v1), (2, .int y2)] [] I1 J1) (hK32 : ∀ (y5 : Int32) (I1 : gI) (J1 : gL), K32 y5 I1 J1 → gJ X V 0 0 32 [(0, .ref (V.2.1 70)), (1, .int v1), (2, .int v2), (3, .ref (V.2.1 (82 + v3))), (4, .ref (V.2.1 (82 + v4))), (5, .int y5)] [] I1 J1) (hK62 : ∀ (y7 : Int32) (I1 : gI) (J1 : gL), K62 y7 I1 J1 → gJ X V 0 0 62 [(0, .ref (V.2.1 70)), (1, .int v1), (2, .int v2), (3, .ref (V.2.1 (82 + v3))), (4, .ref (V.2.1 (82 + v4))), (5, .int v5), (6, .int v6), (7, .int y7)] [] I1 J1) (h : w_X5_climb_116 room Po K2 K32 K62 v1 v2 v3 v4 v5 v6 v7 I J) : gJ X V 0 0 116 [(0, .ref (V.2.1 70)), (1, .int v1), (2, .int v2), (3, .ref (V.2.1 (82 + v3))), (4, .ref (V.2.1 (82 + v4))), (5, .int v5), (6, .int v6), (7, .int v7)] [] I J := by
  unfold w_X5_climb_116 at h
  obtain ⟨n19, en19⟩ : ∃ z : Int32, z = v7 + 1 := ⟨_, rfl⟩
  have h := h n19 en19
  refine j_iinc (pc := 116) (v := n19) (lv' := [(7, .int n19), (0, .ref (V.2.1 70)), (1, .int v1), (2, .int v2), (3, .ref (V.2.1 (82 + v3))), (4, .ref (V.2.1 (82 + v4))), (5, .int v5), (6, .int v6)]) C dX5_climb_116 7 rfl (by rw [en19]; rfl) (by decide) rfl ?_
  refine j_goto (pc := 119) (tgt := 62) C dX5_climb_119 (by decide) ?_
  refine gJ.sub [1, 2, 3, 4, 5, 6, 7, 0] rfl ?_
  exact hK62 _ _ _ h
set_option maxRecDepth 100000 in
set_option maxHeartbeats 4000000 in
theorem t_X5_climb_62b {X : gX} {l : Launch} {D : va_G} {cy : Nat → ClassId} {nm : String} {V : gV} {room : Nat} (hTS : gModTS V) (hRG : gModRG room V) (C : gC X cX5_climb RX5 none 9 rm_X5_climb) (hX : gIs X l D cy nm) {I : gI} {J : gL} {Po : gI → gL → Prop} (hR : gR X (gPv V (fun I' J' => Po I' J'))) {v1 : Int32} {v2 : Int32} {v3 : Nat} {v4 : Nat} {v5 : Int32} {v6 : Int32} {v7 : Int32} (hv3 : v3 < 4) (hv4 : v4 < 4) {K2 : Int32 → gI → gL → Prop} {K32 : Int32 → gI → gL → Prop} {K62 : Int32 → gI → gL → Prop} (hK2 : ∀ (y2 : Int32) (I1 : gI) (J1 : gL), K2 y2 I1 J1 → gJ X V 0 0 2 [(0, .ref (V.2.1 70)), (1, .int v1), (2, .int y2)] [] I1 J1) (hK32 : ∀ (y5 : Int32) (I1 : gI) (J1 : gL), K32 y5 I1 J1 → gJ X V 0 0 32 [(0, .ref (V.2.1 70)), (1, .int v1), (2, .int v2), (3, .ref (V.2.1 (82 + v3))), (4, .ref (V.2.1 (82 + v4))), (5, .int y5)] [] I1 J1) (hK62 : ∀ (y7 : Int32) (I1 : gI) (J1 : gL), K62 y7 I1 J1 → gJ X V 0 0 62 [(0, .ref (V.2.1 70)), (1, .int v1), (2, .int v2), (3, .ref (V.2.1 (82 + v3))), (4, .ref (V.2.1 (82 + v4))), (5, .int v5), (6, .int v6), (7, .int y7)] [] I1 J1) (h : w_X5_climb_62b room Po K2 K32 K62 v1 v2 v3 v4 v5 v6 v7 I J) : gJ X V 0 0 62 [(0, .ref (V.2.1 70)), (1, .int v1), (2, .int v2), (3, .ref (V.2.1 (82 + v3))), (4, .ref (V.2.1 (82 + v4))), (5, .int v5), (6, .int v6), (7, .int v7)] [] I J := by
  unfold w_X5_climb_62b at h
  refine j_iload (pc := 62) C dX5_climb_62 7 rfl ?_
  refine j_aload_n (pc := 64) C dX5_climb_64 rfl 0 rfl ?_
  refine j_getR (pc := 65) C 70 7 78 (c_70 hRG).1 (c_70 hRG).2 rfl rfl (by decide) inw_X5 wd_361 dX5_climb_65 ?_
  refine j_getR (pc := 68) C 78 0 79 (c_78 hRG).1 (c_78 hRG).2 rfl rfl (by decide) inw_X6 wd_327 dX5_climb_68 ?_
  refine j_iload (pc := 71) C dX5_climb_71 6 rfl ?_
  refine j_iconst (pc := 73) (v := 1) C dX5_climb_73 (by decide) ?_
  refine j_iadd (pc := 74) C dX5_climb_74 ?_
  obtain ⟨g12, h⟩ := h
  refine j_iald (pc := 75) C 79 (c_79 hRG).1 (c_79 hRG).2 g12 dX5_climb_75 ?_
  refine j_icmp_ge (pc := 76) (tgt := 122) C dX5_climb_76 (by decide) (fun c13 => ?_) (fun c13 => ?_)
  · have h := h.1 c13
    obtain ⟨n14, en14⟩ : ∃ z : Int32, z = v5 + 1 := ⟨_, rfl⟩
    have h := h n14 en14
    refine j_iinc (pc := 122) (v := n14) (lv' := [(5, .int n14), (0, .ref (V.2.1 70)), (1, .int v1), (2, .int v2), (3, .ref (V.2.1 (82 + v3))), (4, .ref (V.2.1 (82 + v4))), (6, .int v6), (7, .int v7)]) C dX5_climb_122 5 rfl (by rw [en14]; rfl) (by decide) rfl ?_
    refine j_goto (pc := 125) (tgt := 32) C dX5_climb_125 (by decide) ?_
    refine gJ.sub [1, 2, 3, 4, 5, 0] rfl ?_
    exact hK32 _ _ _ h
  · have h := h.2 c13
    refine j_aload_n (pc := 79) C dX5_climb_79 rfl 0 rfl ?_
    refine j_getR (pc := 80) C 70 4 73 (c_70 hRG).1 (c_70 hRG).2 rfl rfl (by decide) inw_X5 wd_358 dX5_climb_80 ?_
    refine j_aload_n (pc := 83) C dX5_climb_83 rfl 0 rfl ?_
    refine j_getR (pc := 84) C 70 7 78 (c_70 hRG).1 (c_70 hRG).2 rfl rfl (by decide) inw_X5 wd_361 dX5_climb_84 ?_
    refine j_getR (pc := 87) C 78 1 80 (c_78 hRG).1 (c_78 hRG).2 rfl rfl (by decide) inw_X6 wd_329 dX5_climb_87 ?_
    refine j_iload (pc := 90) C dX5_climb_90 7 rfl ?_
    obtain ⟨g15, h⟩ := h
    refine j_iald (pc := 92) C 80 (c_80 hRG).1 (c_80 hRG).2 g15 dX5_climb_92 ?_
    obtain ⟨g16, h⟩ := h
    refine j_iald (pc := 93) C 73 (c_73 hRG).1 (c_73 hRG).2 g16 dX5_climb_93 ?_
    refine gJ.topi (fun n17 en17 => ?_)
    have h := h n17 en17
    refine j_istore (pc := 94) (lv' := [(8, .int n17), (0, .ref (V.2.1 70)), (1, .int v1), (2, .int v2), (3, .ref (V.2.1 (82 + v3))), (4, .ref (V.2.1 (82 + v4))), (5, .int v5), (6, .int v6), (7, .int v7)]) C dX5_climb_94 (by decide) rfl ?_
    refine j_iload (pc := 96) C dX5_climb_96 0 rfl ?_
    refine j_iconst (pc := 98) (v := (-1)) C dX5_climb_98 (by decide) ?_
    refine j_icmp_eq (pc := 99) (tgt := 116) C dX5_climb_99 (by decide) (fun c18 => ?_) (fun c18 => ?_)
    · have h := h.1 c18
      refine gJ.sub [1, 2, 3, 4, 5, 6, 7, 8] rfl ?_
      exact t_X5_climb_116 hTS hRG C hX hR hv3 hv4 hK2 hK32 hK62 h
    · have h := h.2 c18
      refine j_aload (pc := 102) C dX5_climb_102 5 rfl ?_
      refine j_iload (pc := 104) C dX5_climb_104 0 rfl ?_
      refine j_aload_n (pc := 106) C dX5_climb_106 rfl 4 rfl ?_
      refine j_getR (pc := 107) C (82 + v3) 0 (86 + v3) (f_82 hRG hv3).1 (f_82 hRG hv3).2 rfl rfl (by decide) inw_X7 wd_341 dX5_climb_107 ?_
      refine j_iload (pc := 110) C dX5_climb_110 7 rfl ?_
      obtain ⟨g20, h⟩ := h
      refine j_lald (pc := 112) C (86 + v3) (f_86 hRG hv3).1 (f_86 hRG hv3).2 g20 dX5_climb_112 ?_
      refine j_callV (pc := 113) (As := [.int n17, .long (J (86 + v3) (v6).toNatClampNeg)]) (st := []) C hX (82 + v4) (m_X7_add hRG hv4 h) (f_82 hRG hv4).1 (f_82 hRG hv4).2 rfl ok_X7_add wd_449 wd_450 wd_451 ⟨by decide, by decide⟩ rfl rfl (Nat.le_of_ble_eq_true rfl) ⟨Nat.le_refl 0, Nat.le_refl 0⟩ dX5_climb_113 (fun r V1 I21 J22 hp => ?_)
      obtain ⟨rfl, rfl, h⟩ := hp
      show gJ X V 0 0 116 _ [] _ _
      refine gJ.sub [1, 2, 3, 4, 5, 6, 7, 8] rfl ?_
      exact t_X5_climb_116 hTS hRG C hX hR hv3 hv4 hK2 hK32 hK62 h
set_option maxRecDepth 100000 in
set_option maxHeartbeats 4000000 in
theorem t_X5_climb_62 {X : gX} {l : Launch} {D : va_G} {cy : Nat → ClassId} {nm : String} {V : gV} {room : Nat} (hTS : gModTS V) (hRG : gModRG room V) (C : gC X cX5_climb RX5 none 9 rm_X5_climb) (hX : gIs X l D cy nm) {I : gI} {J : gL} {Po : gI → gL → Prop} (hR : gR X (gPv V (fun I' J' => Po I' J'))) {v1 : Int32} {v2 : Int32} {v3 : Nat} {v4 : Nat} {v5 : Int32} {v6 : Int32} {v7 : Int32} (hv3 : v3 < 4) (hv4 : v4 < 4) {K2 : Int32 → gI → gL → Prop} {K32 : Int32 → gI → gL → Prop} (hK2 : ∀ (y2 : Int32) (I1 : gI) (J1 : gL), K2 y2 I1 J1 → gJ X V 0 0 2 [(0, .ref (V.2.1 70)), (1, .int v1), (2, .int y2)] [] I1 J1) (hK32 : ∀ (y5 : Int32) (I1 : gI) (J1 : gL), K32 y5 I1 J1 → gJ X V 0 0 32 [(0, .ref (V.2.1 70)), (1, .int v1), (2, .int v2), (3, .ref (V.2.1 (82 + v3))), (4, .ref (V.2.1 (82 + v4))), (5, .int y5)] [] I1 J1) (h : w_X5_climb_62 room Po K2 K32 v1 v2 v3 v4 v5 v6 v7 I J) : gJ X V 0 0 62 [(0, .ref (V.2.1 70)), (1, .int v1), (2, .int v2), (3, .ref (V.2.1 (82 + v3))), (4, .ref (V.2.1 (82 + v4))), (5, .int v5), (6, .int v6), (7, .int v7)] [] I J := by
  unfold w_X5_climb_62 at h
  obtain ⟨Inv, mu, h0, hs⟩ := h
  have key : ∀ (n : Nat) (v7 : Int32) (I : gI) (J : gL), Inv v7 I J → mu v7 I J < n → gJ X V 0 0 62 [(0, .ref (V.2.1 70)), (1, .int v1), (2, .int v2), (3, .ref (V.2.1 (82 + v3))), (4, .ref (V.2.1 (82 + v4))), (5, .int v5), (6, .int v6), (7, .int v7)] [] I J := by
    intro n
    induction n with
    | zero => intro v7 I J hi hn; exact absurd hn (Nat.not_lt_zero _)
    | succ n ih =>
      intro v7 I J hi hn
      exact t_X5_climb_62b hTS hRG C hX hR hv3 hv4 hK2 hK32 (fun u7 I1 J1 hk => ih u7 I1 J1 hk.1 (Nat.lt_of_lt_of_le hk.2 (Nat.le_of_lt_succ hn))) (hs v7 I J hi)
  exact key _ v7 I J h0 (Nat.lt_succ_self _)
set_option maxRecDepth 100000 in
set_option maxHeartbeats 4000000 in
theorem t_X5_climb_32b {X : gX} {l : Launch} {D : va_G} {cy : Nat → ClassId} {nm : String} {V : gV} {room : Nat} (hTS : gModTS V) (hRG : gModRG room V) (C : gC X cX5_climb RX5 none 9 rm_X5_climb) (hX : gIs X l D cy nm) {I : gI} {J : gL} {Po : gI → gL → Prop} (hR : gR X (gPv V (fun I' J' => Po I' J'))) {v1 : Int32} {v2 : Int32} {v3 : Nat} {v4 : Nat} {v5 : Int32} (hv3 : v3 < 4) (hv4 : v4 < 4) {K2 : Int32 → gI → gL → Prop} {K32 : Int32 → gI → gL → Prop} (hK2 : ∀ (y2 : Int32) (I1 : gI) (J1 : gL), K2 y2 I1 J1 → gJ X V 0 0 2 [(0, .ref (V.2.1 70)), (1, .int v1), (2, .int y2)] [] I1 J1) (hK32 : ∀ (y5 : Int32) (I1 : gI) (J1 : gL), K32 y5 I1 J1 → gJ X V 0 0 32 [(0, .ref (V.2.1 70)), (1, .int v1), (2, .int v2), (3, .ref (V.2.1 (82 + v3))), (4, .ref (V.2.1 (82 + v4))), (5, .int y5)] [] I1 J1) (h : w_X5_climb_32b room Po K2 K32 v1 v2 v3 v4 v5 I J) : gJ X V 0 0 32 [(0, .ref (V.2.1 70)), (1, .int v1), (2, .int v2), (3, .ref (V.2.1 (82 + v3))), (4, .ref (V.2.1 (82 + v4))), (5, .int v5)] [] I J := by
  unfold w_X5_climb_32b at h
  refine j_iload (pc := 32) C dX5_climb_32 5 rfl ?_
  refine j_aload_n (pc := 34) C dX5_climb_34 rfl 3 rfl ?_
  refine j_getI (pc := 35) C (82 + v3) 2 (f_82 hRG hv3).1 (f_82 hRG hv3).2 rfl rfl (by decide) inw_X7 wd_345 dX5_climb_35 ?_
  refine j_icmp_ge (pc := 38) (tgt := 128) C dX5_climb_38 (by decide) (fun c6 => ?_) (fun c6 => ?_)
  · have h := h.1 c6
    obtain ⟨n7, en7⟩ : ∃ z : Int32, z = v2 + 1 := ⟨_, rfl⟩
    have h := h n7 en7
    refine j_iinc (pc := 128) (v := n7) (lv' := [(2, .int n7), (0, .ref (V.2.1 70)), (1, .int v1), (3, .ref (V.2.1 (82 + v3))), (4, .ref (V.2.1 (82 + v4))), (5, .int v5)]) C dX5_climb_128 2 rfl (by rw [en7]; rfl) (by decide) rfl ?_
    refine j_goto (pc := 131) (tgt := 2) C dX5_climb_131 (by decide) ?_
    refine gJ.sub [1, 2, 0] rfl ?_
    exact hK2 _ _ _ h
  · have h := h.2 c6
    refine j_aload_n (pc := 41) C dX5_climb_41 rfl 3 rfl ?_
    refine j_getR (pc := 42) C (82 + v3) 1 (90 + v3) (f_82 hRG hv3).1 (f_82 hRG hv3).2 rfl rfl (by decide) inw_X7 wd_343 dX5_climb_42 ?_
    refine j_iload (pc := 45) C dX5_climb_45 5 rfl ?_
    obtain ⟨g8, h⟩ := h
    refine j_iald (pc := 47) C (90 + v3) (f_90 hRG hv3).1 (f_90 hRG hv3).2 g8 dX5_climb_47 ?_
    refine gJ.topi (fun n9 en9 => ?_)
    have h := h n9 en9
    refine j_istore (pc := 48) (lv' := [(6, .int n9), (0, .ref (V.2.1 70)), (1, .int v1), (2, .int v2), (3, .ref (V.2.1 (82 + v3))), (4, .ref (V.2.1 (82 + v4))), (5, .int v5)]) C dX5_climb_48 (by decide) rfl ?_
    refine j_aload_n (pc := 50) C dX5_climb_50 rfl 1 rfl ?_
    refine j_getR (pc := 51) C 70 7 78 (c_70 hRG).1 (c_70 hRG).2 rfl rfl (by decide) inw_X5 wd_361 dX5_climb_51 ?_
    refine j_getR (pc := 54) C 78 0 79 (c_78 hRG).1 (c_78 hRG).2 rfl rfl (by decide) inw_X6 wd_327 dX5_climb_54 ?_
    refine j_iload (pc := 57) C dX5_climb_57 0 rfl ?_
    obtain ⟨g10, h⟩ := h
    refine j_iald (pc := 59) C 79 (c_79 hRG).1 (c_79 hRG).2 g10 dX5_climb_59 ?_
    refine gJ.topi (fun n11 en11 => ?_)
    have h := h n11 en11
    refine j_istore (pc := 60) (lv' := [(7, .int n11), (6, .int n9), (0, .ref (V.2.1 70)), (1, .int v1), (2, .int v2), (3, .ref (V.2.1 (82 + v3))), (4, .ref (V.2.1 (82 + v4))), (5, .int v5)]) C dX5_climb_60 (by decide) rfl ?_
    refine gJ.sub [2, 3, 4, 5, 6, 7, 1, 0] rfl ?_
    exact t_X5_climb_62 hTS hRG C hX hR hv3 hv4 hK2 hK32 h
set_option maxRecDepth 100000 in
set_option maxHeartbeats 4000000 in
theorem t_X5_climb_32 {X : gX} {l : Launch} {D : va_G} {cy : Nat → ClassId} {nm : String} {V : gV} {room : Nat} (hTS : gModTS V) (hRG : gModRG room V) (C : gC X cX5_climb RX5 none 9 rm_X5_climb) (hX : gIs X l D cy nm) {I : gI} {J : gL} {Po : gI → gL → Prop} (hR : gR X (gPv V (fun I' J' => Po I' J'))) {v1 : Int32} {v2 : Int32} {v3 : Nat} {v4 : Nat} {v5 : Int32} (hv3 : v3 < 4) (hv4 : v4 < 4) {K2 : Int32 → gI → gL → Prop} (hK2 : ∀ (y2 : Int32) (I1 : gI) (J1 : gL), K2 y2 I1 J1 → gJ X V 0 0 2 [(0, .ref (V.2.1 70)), (1, .int v1), (2, .int y2)] [] I1 J1) (h : w_X5_climb_32 room Po K2 v1 v2 v3 v4 v5 I J) : gJ X V 0 0 32 [(0, .ref (V.2.1 70)), (1, .int v1), (2, .int v2), (3, .ref (V.2.1 (82 + v3))), (4, .ref (V.2.1 (82 + v4))), (5, .int v5)] [] I J := by
  unfold w_X5_climb_32 at h
  obtain ⟨Inv, mu, h0, hs⟩ := h
  have key : ∀ (n : Nat) (v5 : Int32) (I : gI) (J : gL), Inv v5 I J → mu v5 I J < n → gJ X V 0 0 32 [(0, .ref (V.2.1 70)), (1, .int v1), (2, .int v2), (3, .ref (V.2.1 (82 + v3))), (4, .ref (V.2.1 (82 + v4))), (5, .int v5)] [] I J := by
    intro n
    induction n with
    | zero => intro v5 I J hi hn; exact absurd hn (Nat.not_lt_zero _)
    | succ n ih =>
      intro v5 I J hi hn
      exact t_X5_climb_32b hTS hRG C hX hR hv3 hv4 hK2 (fun u5 I1 J1 hk => ih u5 I1 J1 hk.1 (Nat.lt_of_lt_of_le hk.2 (Nat.le_of_lt_succ hn))) (hs v5 I J hi)
  exact key _ v5 I J h0 (Nat.lt_succ_self _)
set_option maxRecDepth 100000 in
set_option maxHeartbeats 4000000 in
theorem t_X5_climb_2b {X : gX} {l : Launch} {D : va_G} {cy : Nat → ClassId} {nm : String} {V : gV} {room : Nat} (hTS : gModTS V) (hRG : gModRG room V) (C : gC X cX5_climb RX5 none 9 rm_X5_climb) (hX : gIs X l D cy nm) {I : gI} {J : gL} {Po : gI → gL → Prop} (hR : gR X (gPv V (fun I' J' => Po I' J'))) {v1 : Int32} {v2 : Int32} {K2 : Int32 → gI → gL → Prop} (hK2 : ∀ (y2 : Int32) (I1 : gI) (J1 : gL), K2 y2 I1 J1 → gJ X V 0 0 2 [(0, .ref (V.2.1 70)), (1, .int v1), (2, .int y2)] [] I1 J1) (h : w_X5_climb_2b room Po K2 v1 v2 I J) : gJ X V 0 0 2 [(0, .ref (V.2.1 70)), (1, .int v1), (2, .int v2)] [] I J := by
  unfold w_X5_climb_2b at h
  refine j_iload_n (pc := 2) C dX5_climb_2 rfl 2 rfl ?_
  refine j_iload_n (pc := 3) C dX5_climb_3 rfl 1 rfl ?_
  refine j_icmp_ge (pc := 4) (tgt := 134) C dX5_climb_4 (by decide) (fun c1 => ?_) (fun c1 => ?_)
  · have h := h.1 c1
    exact j_vret (pc := 134) C hR (Nat.zero_le _) (Nat.zero_le _) dX5_climb_134 ⟨rfl, rfl, h⟩
  · have h := h.2 c1
    refine j_aload_n (pc := 7) C dX5_climb_7 rfl 0 rfl ?_
    refine j_getR (pc := 8) C 70 8 81 (c_70 hRG).1 (c_70 hRG).2 rfl rfl (by decide) inw_X5 wd_362 dX5_climb_8 ?_
    refine j_iload_n (pc := 11) C dX5_climb_11 rfl 2 rfl ?_
    obtain ⟨g2, h⟩ := h
    refine j_qald (pc := 12) C 81 (82 + (v2).toNatClampNeg) (c_81 hRG).1 (c_81 hRG).2 g2 (gfam_at (vp_in_lt g2)) dX5_climb_12 ?_
    refine j_astore_n (pc := 13) (lv' := [(3, .ref (V.2.1 (82 + (v2).toNatClampNeg))), (0, .ref (V.2.1 70)), (1, .int v1), (2, .int v2)]) C dX5_climb_13 rfl (by decide) rfl ?_
    refine j_aload_n (pc := 14) C dX5_climb_14 rfl 1 rfl ?_
    refine j_getR (pc := 15) C 70 8 81 (c_70 hRG).1 (c_70 hRG).2 rfl rfl (by decide) inw_X5 wd_362 dX5_climb_15 ?_
    refine j_iload_n (pc := 18) C dX5_climb_18 rfl 3 rfl ?_
    refine j_iconst (pc := 19) (v := 1) C dX5_climb_19 (by decide) ?_
    refine j_iadd (pc := 20) C dX5_climb_20 ?_
    obtain ⟨g3, h⟩ := h
    refine j_qald (pc := 21) C 81 (82 + ((v2 + (1 : Int32))).toNatClampNeg) (c_81 hRG).1 (c_81 hRG).2 g3 (gfam_at (vp_in_lt g3)) dX5_climb_21 ?_
    refine j_astore (pc := 22) (lv' := [(4, .ref (V.2.1 (82 + ((v2 + (1 : Int32))).toNatClampNeg))), (3, .ref (V.2.1 (82 + (v2).toNatClampNeg))), (0, .ref (V.2.1 70)), (1, .int v1), (2, .int v2)]) C dX5_climb_22 (by decide) rfl ?_
    refine j_aload (pc := 24) C dX5_climb_24 0 rfl ?_
    refine j_callV (pc := 26) (As := []) (st := []) C hX (82 + ((v2 + (1 : Int32))).toNatClampNeg) (m_X7_clear hRG (vp_in_lt g3) h) (f_82 hRG (vp_in_lt g3)).1 (f_82 hRG (vp_in_lt g3)).2 rfl ok_X7_clear wd_445 wd_446 wd_447 ⟨by decide, by decide⟩ rfl rfl (Nat.le_of_ble_eq_true rfl) ⟨Nat.le_refl 0, Nat.le_refl 0⟩ dX5_climb_26 (fun r V1 I4 J5 hp => ?_)
    obtain ⟨rfl, rfl, h⟩ := hp
    show gJ X V 0 0 29 _ [] _ _
    refine j_iconst (pc := 29) (v := 0) C dX5_climb_29 (by decide) ?_
    refine j_istore (pc := 30) (lv' := [(5, .int (0 : Int32)), (4, .ref (V.2.1 (82 + ((v2 + (1 : Int32))).toNatClampNeg))), (3, .ref (V.2.1 (82 + (v2).toNatClampNeg))), (0, .ref (V.2.1 70)), (1, .int v1), (2, .int v2)]) C dX5_climb_30 (by decide) rfl ?_
    refine gJ.sub [3, 4, 5, 2, 1, 0] rfl ?_
    exact t_X5_climb_32 hTS hRG C hX hR (vp_in_lt g2) (vp_in_lt g3) hK2 h
set_option maxRecDepth 100000 in
set_option maxHeartbeats 4000000 in
theorem t_X5_climb_2 {X : gX} {l : Launch} {D : va_G} {cy : Nat → ClassId} {nm : String} {V : gV} {room : Nat} (hTS : gModTS V) (hRG : gModRG room V) (C : gC X cX5_climb RX5 none 9 rm_X5_climb) (hX : gIs X l D cy nm) {I : gI} {J : gL} {Po : gI → gL → Prop} (hR : gR X (gPv V (fun I' J' => Po I' J'))) {v1 : Int32} {v2 : Int32} (h : w_X5_climb_2 room Po v1 v2 I J) : gJ X V 0 0 2 [(0, .ref (V.2.1 70)), (1, .int v1), (2, .int v2)] [] I J := by
  unfold w_X5_climb_2 at h
  obtain ⟨Inv, mu, h0, hs⟩ := h
  have key : ∀ (n : Nat) (v2 : Int32) (I : gI) (J : gL), Inv v2 I J → mu v2 I J < n → gJ X V 0 0 2 [(0, .ref (V.2.1 70)), (1, .int v1), (2, .int v2)] [] I J := by
    intro n
    induction n with
    | zero => intro v2 I J hi hn; exact absurd hn (Nat.not_lt_zero _)
    | succ n ih =>
      intro v2 I J hi hn
      exact t_X5_climb_2b hTS hRG C hX hR   (fun u2 I1 J1 hk => ih u2 I1 J1 hk.1 (Nat.lt_of_lt_of_le hk.2 (Nat.le_of_lt_succ hn))) (hs v2 I J hi)
  exact key _ v2 I J h0 (Nat.lt_succ_self _)
set_option maxRecDepth 100000 in
set_option maxHeartbeats 4000000 in
theorem m_X5_climb {l : Launch} {D : va_G} {cy : Nat → ClassId} {V : gV} {room : Nat} (hTS : gModTS V) (hRG : gModRG room V) {a1 : Int32} {I : gI} {J : gL} {Po : gI → gL → Prop} (h : wp_X5_climb room a1 I J Po) : gMet l D cy yX5_climb cX5_climb 9 none rm_X5_climb V [.ref (V.2.1 70), .int a1] I J (gPv V (fun I' J' => Po I' J')) := by
  refine gMet.of (by decide) (Nat.le_of_ble_eq_true rfl) (fun X hX C hR => ?_)
  have C : gC X cX5_climb RX5 none 9 rm_X5_climb := C
  show gJ X V 0 0 0 [(0, .ref (V.2.1 70)), (1, .int a1)] [] I J
  unfold wp_X5_climb at h
  refine j_iconst (pc := 0) (v := 0) C dX5_climb_0 (by decide) ?_
  refine j_istore_n (pc := 1) (lv' := [(2, .int (0 : Int32)), (0, .ref (V.2.1 70)), (1, .int a1)]) C dX5_climb_1 rfl (by decide) rfl ?_
  refine gJ.sub [1, 2, 0] rfl ?_
  exact t_X5_climb_2 hTS hRG C hX hR   h
/-! TileRules$RowGraph.aimAnywhere(I)V -/
abbrev rm_X5_aimAnywhere : Room := { frames := 2, cells := 0, slots := 0, locals := 51 }
theorem ok_X5_aimAnywhere : gOk yX5_aimAnywhere cX5_aimAnywhere 3 none 1 := ⟨wd_464, wd_75, by decide +kernel⟩
def w_X5_aimAnywhere_11b (room : Nat) (Po : gI → gL → Prop) (K11 : Int32 → gI → gL → Prop) (v1 : Int32) (v2 : Int32) (I : gI) (J : gL) : Prop :=
  ((I 70 12) ≤ v2 → wp_X5_climb room v1 I J (fun I5 J6 => Po I5 J6)) ∧ (¬ (I 70 12) ≤ v2 → vp_in (0 : Int32) 4 ∧ wp_X7_add (((0 : Int32)).toNatClampNeg) room v2 (1 : Int64) I J (fun I8 J9 => ∀ n10 : Int32, n10 = v2 + 1 → K11 n10 I8 J9))
def w_X5_aimAnywhere_11 (room : Nat) (Po : gI → gL → Prop)  (v1 : Int32) (v2 : Int32) (I : gI) (J : gL) : Prop :=
  ∃ (Inv : Int32 → gI → gL → Prop) (mu : Int32 → gI → gL → Nat), Inv v2 I J ∧ ∀ (v2 : Int32) (I : gI) (J : gL), Inv v2 I J → w_X5_aimAnywhere_11b room Po  (fun u2 I1 J1 => Inv u2 I1 J1 ∧ mu u2 I1 J1 < mu v2 I J) v1 v2 I J
def wp_X5_aimAnywhere (room : Nat) (a1 : Int32) (I : gI) (J : gL) (Po : gI → gL → Prop) : Prop :=
  vp_in (0 : Int32) 4 ∧ wp_X7_clear (((0 : Int32)).toNatClampNeg) room I J (fun I2 J3 => w_X5_aimAnywhere_11 room Po a1 (0 : Int32) I2 J3)
set_option maxRecDepth 100000 in
set_option maxHeartbeats 4000000 in
theorem t_X5_aimAnywhere_11b {X : gX} {l : Launch} {D : va_G} {cy : Nat → ClassId} {nm : String} {V : gV} {room : Nat} (hTS : gModTS V) (hRG : gModRG room V) (C : gC X cX5_aimAnywhere RX5 none 3 rm_X5_aimAnywhere) (hX : gIs X l D cy nm) {I : gI} {J : gL} {Po : gI → gL → Prop} (hR : gR X (gPv V (fun I' J' => Po I' J'))) {v1 : Int32} {v2 : Int32} {K11 : Int32 → gI → gL → Prop} (hK11 : ∀ (y2 : Int32) (I1 : gI) (J1 : gL), K11 y2 I1 J1 → gJ X V 0 0 11 [(0, .ref (V.2.1 70)), (1, .int v1), (2, .int y2)] [] I1 J1) (h : w_X5_aimAnywhere_11b room Po K11 v1 v2 I J) : gJ X V 0 0 11 [(0, .ref (V.2.1 70)), (1, .int v1), (2, .int v2)] [] I J := by
  unfold w_X5_aimAnywhere_11b at h
  refine j_iload_n (pc := 11) C dX5_aimAnywhere_11 rfl 2 rfl ?_
  refine j_aload_n (pc := 12) C dX5_aimAnywhere_12 rfl 0 rfl ?_
  refine j_getI (pc := 13) C 70 12 (c_70 hRG).1 (c_70 hRG).2 rfl rfl (by decide) inw_X5 wd_366 dX5_aimAnywhere_13 ?_
  refine j_icmp_ge (pc := 16) (tgt := 36) C dX5_aimAnywhere_16 (by decide) (fun c4 => ?_) (fun c4 => ?_)
  · have h := h.1 c4
    refine j_aload_n (pc := 36) C dX5_aimAnywhere_36 rfl 0 rfl ?_
    refine j_iload_n (pc := 37) C dX5_aimAnywhere_37 rfl 1 rfl ?_
    refine j_callV (pc := 38) (As := [.int v1]) (st := []) C hX 70 (m_X5_climb hTS hRG  h) (c_70 hRG).1 (c_70 hRG).2 rfl ok_X5_climb wd_453 wd_455 wd_9 ⟨by decide, by decide⟩ rfl rfl (Nat.le_of_ble_eq_true rfl) ⟨Nat.le_refl 0, Nat.le_refl 0⟩ dX5_aimAnywhere_38 (fun r V1 I5 J6 hp => ?_)
    obtain ⟨rfl, rfl, h⟩ := hp
    show gJ X V 0 0 41 _ [] _ _
    exact j_vret (pc := 41) C hR (Nat.zero_le _) (Nat.zero_le _) dX5_aimAnywhere_41 ⟨rfl, rfl, h⟩
  · have h := h.2 c4
    refine j_aload_n (pc := 19) C dX5_aimAnywhere_19 rfl 0 rfl ?_
    refine j_getR (pc := 20) C 70 8 81 (c_70 hRG).1 (c_70 hRG).2 rfl rfl (by decide) inw_X5 wd_362 dX5_aimAnywhere_20 ?_
    refine j_iconst (pc := 23) (v := 0) C dX5_aimAnywhere_23 (by decide) ?_
    obtain ⟨g7, h⟩ := h
    refine j_qald (pc := 24) C 81 (82 + ((0 : Int32)).toNatClampNeg) (c_81 hRG).1 (c_81 hRG).2 g7 (gfam_at (vp_in_lt g7)) dX5_aimAnywhere_24 ?_
    refine j_iload_n (pc := 25) C dX5_aimAnywhere_25 rfl 2 rfl ?_
    refine j_lconst (pc := 26) (v := 1) C dX5_aimAnywhere_26 (by decide) ?_
    refine j_callV (pc := 27) (As := [.int v2, .long (1 : Int64)]) (st := []) C hX (82 + ((0 : Int32)).toNatClampNeg) (m_X7_add hRG (vp_in_lt g7) h) (f_82 hRG (vp_in_lt g7)).1 (f_82 hRG (vp_in_lt g7)).2 rfl ok_X7_add wd_449 wd_450 wd_451 ⟨by decide, by decide⟩ rfl rfl (Nat.le_of_ble_eq_true rfl) ⟨Nat.le_refl 0, Nat.le_refl 0⟩ dX5_aimAnywhere_27 (fun r V1 I8 J9 hp => ?_)
    obtain ⟨rfl, rfl, h⟩ := hp
    show gJ X V 0 0 30 _ [] _ _
    obtain ⟨n10, en10⟩ : ∃ z : Int32, z = v2 + 1 := ⟨_, rfl⟩
    have h := h n10 en10
    refine j_iinc (pc := 30) (v := n10) (lv' := [(2, .int n10), (0, .ref (V.2.1 70)), (1, .int v1)]) C dX5_aimAnywhere_30 2 rfl (by rw [en10]; rfl) (by decide) rfl ?_
    refine j_goto (pc := 33) (tgt := 11) C dX5_aimAnywhere_33 (by decide) ?_
    refine gJ.sub [1, 2, 0] rfl ?_
    exact hK11 _ _ _ h
set_option maxRecDepth 100000 in
set_option maxHeartbeats 4000000 in
theorem t_X5_aimAnywhere_11 {X : gX} {l : Launch} {D : va_G} {cy : Nat → ClassId} {nm : String} {V : gV} {room : Nat} (hTS : gModTS V) (hRG : gModRG room V) (C : gC X cX5_aimAnywhere RX5 none 3 rm_X5_aimAnywhere) (hX : gIs X l D cy nm) {I : gI} {J : gL} {Po : gI → gL → Prop} (hR : gR X (gPv V (fun I' J' => Po I' J'))) {v1 : Int32} {v2 : Int32} (h : w_X5_aimAnywhere_11 room Po v1 v2 I J) : gJ X V 0 0 11 [(0, .ref (V.2.1 70)), (1, .int v1), (2, .int v2)] [] I J := by
  unfold w_X5_aimAnywhere_11 at h
  obtain ⟨Inv, mu, h0, hs⟩ := h
  have key : ∀ (n : Nat) (v2 : Int32) (I : gI) (J : gL), Inv v2 I J → mu v2 I J < n → gJ X V 0 0 11 [(0, .ref (V.2.1 70)), (1, .int v1), (2, .int v2)] [] I J := by
    intro n
    induction n with
    | zero => intro v2 I J hi hn; exact absurd hn (Nat.not_lt_zero _)
    | succ n ih =>
      intro v2 I J hi hn
      exact t_X5_aimAnywhere_11b hTS hRG C hX hR   (fun u2 I1 J1 hk => ih u2 I1 J1 hk.1 (Nat.lt_of_lt_of_le hk.2 (Nat.le_of_lt_succ hn))) (hs v2 I J hi)
  exact key _ v2 I J h0 (Nat.lt_succ_self _)
set_option maxRecDepth 100000 in
set_option maxHeartbeats 4000000 in
theorem m_X5_aimAnywhere {l : Launch} {D : va_G} {cy : Nat → ClassId} {V : gV} {room : Nat} (hTS : gModTS V) (hRG : gModRG room V) {a1 : Int32} {I : gI} {J : gL} {Po : gI → gL → Prop} (h : wp_X5_aimAnywhere room a1 I J Po) : gMet l D cy yX5_aimAnywhere cX5_aimAnywhere 3 none rm_X5_aimAnywhere V [.ref (V.2.1 70), .int a1] I J (gPv V (fun I' J' => Po I' J')) := by
  refine gMet.of (by decide) (Nat.le_of_ble_eq_true rfl) (fun X hX C hR => ?_)
  have C : gC X cX5_aimAnywhere RX5 none 3 rm_X5_aimAnywhere := C
  show gJ X V 0 0 0 [(0, .ref (V.2.1 70)), (1, .int a1)] [] I J
  unfold wp_X5_aimAnywhere at h
  refine j_aload_n (pc := 0) C dX5_aimAnywhere_0 rfl 0 rfl ?_
  refine j_getR (pc := 1) C 70 8 81 (c_70 hRG).1 (c_70 hRG).2 rfl rfl (by decide) inw_X5 wd_362 dX5_aimAnywhere_1 ?_
  refine j_iconst (pc := 4) (v := 0) C dX5_aimAnywhere_4 (by decide) ?_
  obtain ⟨g1, h⟩ := h
  refine j_qald (pc := 5) C 81 (82 + ((0 : Int32)).toNatClampNeg) (c_81 hRG).1 (c_81 hRG).2 g1 (gfam_at (vp_in_lt g1)) dX5_aimAnywhere_5 ?_
  refine j_callV (pc := 6) (As := []) (st := []) C hX (82 + ((0 : Int32)).toNatClampNeg) (m_X7_clear hRG (vp_in_lt g1) h) (f_82 hRG (vp_in_lt g1)).1 (f_82 hRG (vp_in_lt g1)).2 rfl ok_X7_clear wd_445 wd_446 wd_447 ⟨by decide, by decide⟩ rfl rfl (Nat.le_of_ble_eq_true rfl) ⟨Nat.le_refl 0, Nat.le_refl 0⟩ dX5_aimAnywhere_6 (fun r V1 I2 J3 hp => ?_)
  obtain ⟨rfl, rfl, h⟩ := hp
  show gJ X V 0 0 9 _ [] _ _
  refine j_iconst (pc := 9) (v := 0) C dX5_aimAnywhere_9 (by decide) ?_
  refine j_istore_n (pc := 10) (lv' := [(2, .int (0 : Int32)), (0, .ref (V.2.1 70)), (1, .int a1)]) C dX5_aimAnywhere_10 rfl (by decide) rfl ?_
  refine gJ.sub [1, 2, 0] rfl ?_
  exact t_X5_aimAnywhere_11 hTS hRG C hX hR   h
/-! TileRules$RowGraph.countOpen(I)J -/
abbrev rm_X5_countOpen : Room := { frames := 3, cells := 0, slots := 0, locals := 73 }
theorem ok_X5_countOpen : gOk yX5_countOpen cX5_countOpen 6 (some .long) 1 := ⟨wd_460, wd_75, by decide +kernel⟩
def w_X5_countOpen_21b (room : Nat) (Po : Int64 → gI → gL → Prop) (K21 : Int64 → Int32 → Prop) (v2 : Nat) (v3 : Int64) (v5 : Int32) (I : gI) (J : gL) : Prop :=
  ((I 70 13) ≤ v5 → Po v3 I J) ∧ (¬ (I 70 13) ≤ v5 → vp_in v5 room ∧ vp_in (I 74 (v5).toNatClampNeg) room ∧ ∀ n7 : Int64, n7 = (v3 + (J (86 + v2) ((I 74 (v5).toNatClampNeg)).toNatClampNeg)) → ∀ n8 : Int32, n8 = v5 + 1 → K21 n7 n8)
def w_X5_countOpen_21 (room : Nat) (Po : Int64 → gI → gL → Prop)  (v2 : Nat) (v3 : Int64) (v5 : Int32) (I : gI) (J : gL) : Prop :=
  ∃ (Inv : Int64 → Int32 → Prop) (mu : Int64 → Int32 → Nat), Inv v3 v5 ∧ ∀ (v3 : Int64) (v5 : Int32), Inv v3 v5 → w_X5_countOpen_21b room Po  (fun u3 u5 => Inv u3 u5 ∧ mu u3 u5 < mu v3 v5) v2 v3 v5 I J
def wp_X5_countOpen (room : Nat) (a1 : Int32) (I : gI) (J : gL) (Po : Int64 → gI → gL → Prop) : Prop :=
  wp_X5_aimAnywhere room (a1 - (1 : Int32)) I J (fun I1 J2 => vp_in (a1 - (1 : Int32)) 4 ∧ w_X5_countOpen_21 room Po (((a1 - (1 : Int32))).toNatClampNeg) (0 : Int64) (0 : Int32) I1 J2)
set_option maxRecDepth 100000 in
set_option maxHeartbeats 4000000 in
theorem t_X5_countOpen_21b {X : gX} {l : Launch} {D : va_G} {cy : Nat → ClassId} {nm : String} {V : gV} {room : Nat} (hTS : gModTS V) (hRG : gModRG room V) (C : gC X cX5_countOpen RX5 (some .long) 6 rm_X5_countOpen) (hX : gIs X l D cy nm) {I : gI} {J : gL} {Po : Int64 → gI → gL → Prop} (hR : gR X (gPl V (fun x I' J' => Po x I' J'))) {v2 : Nat} {v3 : Int64} {v5 : Int32} (hv2 : v2 < 4) {K21 : Int64 → Int32 → Prop} (hK21 : ∀ (y3 : Int64) (y5 : Int32), K21 y3 y5 → gJ X V 0 0 21 [(0, .ref (V.2.1 70)), (2, .ref (V.2.1 (82 + v2))), (3, .long y3), (5, .int y5)] [] I J) (h : w_X5_countOpen_21b room Po K21 v2 v3 v5 I J) : gJ X V 0 0 21 [(0, .ref (V.2.1 70)), (2, .ref (V.2.1 (82 + v2))), (3, .long v3), (5, .int v5)] [] I J := by
  unfold w_X5_countOpen_21b at h
  refine j_iload (pc := 21) C dX5_countOpen_21 3 rfl ?_
  refine j_aload_n (pc := 23) C dX5_countOpen_23 rfl 0 rfl ?_
  refine j_getI (pc := 24) C 70 13 (c_70 hRG).1 (c_70 hRG).2 rfl rfl (by decide) inw_X5 wd_367 dX5_countOpen_24 ?_
  refine j_icmp_ge (pc := 27) (tgt := 51) C dX5_countOpen_27 (by decide) (fun c4 => ?_) (fun c4 => ?_)
  · have h := h.1 c4
    refine j_lload_n (pc := 51) C dX5_countOpen_51 rfl 2 rfl ?_
    exact j_lret (pc := 52) C hR (Nat.zero_le _) (Nat.zero_le _) dX5_countOpen_52 ⟨_, rfl, rfl, h⟩
  · have h := h.2 c4
    refine j_lload_n (pc := 30) C dX5_countOpen_30 rfl 2 rfl ?_
    refine j_aload_n (pc := 31) C dX5_countOpen_31 rfl 1 rfl ?_
    refine j_getR (pc := 32) C (82 + v2) 0 (86 + v2) (f_82 hRG hv2).1 (f_82 hRG hv2).2 rfl rfl (by decide) inw_X7 wd_341 dX5_countOpen_32 ?_
    refine j_aload_n (pc := 35) C dX5_countOpen_35 rfl 0 rfl ?_
    refine j_getR (pc := 36) C 70 5 74 (c_70 hRG).1 (c_70 hRG).2 rfl rfl (by decide) inw_X5 wd_359 dX5_countOpen_36 ?_
    refine j_iload (pc := 39) C dX5_countOpen_39 3 rfl ?_
    obtain ⟨g5, h⟩ := h
    refine j_iald (pc := 41) C 74 (c_74 hRG).1 (c_74 hRG).2 g5 dX5_countOpen_41 ?_
    obtain ⟨g6, h⟩ := h
    refine j_lald (pc := 42) C (86 + v2) (f_86 hRG hv2).1 (f_86 hRG hv2).2 g6 dX5_countOpen_42 ?_
    refine j_ladd (pc := 43) C dX5_countOpen_43 ?_
    refine gJ.topl (fun n7 en7 => ?_)
    have h := h n7 en7
    refine j_lstore_n (pc := 44) (lv' := [(3, .long n7), (0, .ref (V.2.1 70)), (2, .ref (V.2.1 (82 + v2))), (5, .int v5)]) C dX5_countOpen_44 rfl (by decide) rfl ?_
    obtain ⟨n8, en8⟩ : ∃ z : Int32, z = v5 + 1 := ⟨_, rfl⟩
    have h := h n8 en8
    refine j_iinc (pc := 45) (v := n8) (lv' := [(5, .int n8), (3, .long n7), (0, .ref (V.2.1 70)), (2, .ref (V.2.1 (82 + v2)))]) C dX5_countOpen_45 3 rfl (by rw [en8]; rfl) (by decide) rfl ?_
    refine j_goto (pc := 48) (tgt := 21) C dX5_countOpen_48 (by decide) ?_
    refine gJ.sub [2, 3, 1, 0] rfl ?_
    exact hK21 _ _ h
set_option maxRecDepth 100000 in
set_option maxHeartbeats 4000000 in
theorem t_X5_countOpen_21 {X : gX} {l : Launch} {D : va_G} {cy : Nat → ClassId} {nm : String} {V : gV} {room : Nat} (hTS : gModTS V) (hRG : gModRG room V) (C : gC X cX5_countOpen RX5 (some .long) 6 rm_X5_countOpen) (hX : gIs X l D cy nm) {I : gI} {J : gL} {Po : Int64 → gI → gL → Prop} (hR : gR X (gPl V (fun x I' J' => Po x I' J'))) {v2 : Nat} {v3 : Int64} {v5 : Int32} (hv2 : v2 < 4) (h : w_X5_countOpen_21 room Po v2 v3 v5 I J) : gJ X V 0 0 21 [(0, .ref (V.2.1 70)), (2, .ref (V.2.1 (82 + v2))), (3, .long v3), (5, .int v5)] [] I J := by
  unfold w_X5_countOpen_21 at h
  obtain ⟨Inv, mu, h0, hs⟩ := h
  have key : ∀ (n : Nat) (v3 : Int64) (v5 : Int32), Inv v3 v5 → mu v3 v5 < n → gJ X V 0 0 21 [(0, .ref (V.2.1 70)), (2, .ref (V.2.1 (82 + v2))), (3, .long v3), (5, .int v5)] [] I J := by
    intro n
    induction n with
    | zero => intro v3 v5 hi hn; exact absurd hn (Nat.not_lt_zero _)
    | succ n ih =>
      intro v3 v5 hi hn
      exact t_X5_countOpen_21b hTS hRG C hX hR hv2  (fun u3 u5 hk => ih u3 u5 hk.1 (Nat.lt_of_lt_of_le hk.2 (Nat.le_of_lt_succ hn))) (hs v3 v5 hi)
  exact key _ v3 v5 h0 (Nat.lt_succ_self _)
set_option maxRecDepth 100000 in
set_option maxHeartbeats 4000000 in
theorem m_X5_countOpen {l : Launch} {D : va_G} {cy : Nat → ClassId} {V : gV} {room : Nat} (hTS : gModTS V) (hRG : gModRG room V) {a1 : Int32} {I : gI} {J : gL} {Po : Int64 → gI → gL → Prop} (h : wp_X5_countOpen room a1 I J Po) : gMet l D cy yX5_countOpen cX5_countOpen 6 (some .long) rm_X5_countOpen V [.ref (V.2.1 70), .int a1] I J (gPl V (fun x I' J' => Po x I' J')) := by
  refine gMet.of (by decide) (Nat.le_of_ble_eq_true rfl) (fun X hX C hR => ?_)
  have C : gC X cX5_countOpen RX5 (some .long) 6 rm_X5_countOpen := C
  show gJ X V 0 0 0 [(0, .ref (V.2.1 70)), (1, .int a1)] [] I J
  unfold wp_X5_countOpen at h
  refine j_aload_n (pc := 0) C dX5_countOpen_0 rfl 0 rfl ?_
  refine j_iload_n (pc := 1) C dX5_countOpen_1 rfl 1 rfl ?_
  refine j_iconst (pc := 2) (v := 1) C dX5_countOpen_2 (by decide) ?_
  refine j_isub (pc := 3) C dX5_countOpen_3 ?_
  refine j_callV (pc := 4) (As := [.int (a1 - (1 : Int32))]) (st := []) C hX 70 (m_X5_aimAnywhere hTS hRG  h) (c_70 hRG).1 (c_70 hRG).2 rfl ok_X5_aimAnywhere wd_461 wd_463 wd_10 ⟨by decide, by decide⟩ rfl rfl (Nat.le_of_ble_eq_true rfl) ⟨Nat.le_refl 0, Nat.le_refl 0⟩ dX5_countOpen_4 (fun r V1 I1 J2 hp => ?_)
  obtain ⟨rfl, rfl, h⟩ := hp
  show gJ X V 0 0 7 _ [] _ _
  refine j_aload_n (pc := 7) C dX5_countOpen_7 rfl 0 rfl ?_
  refine j_getR (pc := 8) C 70 8 81 (c_70 hRG).1 (c_70 hRG).2 rfl rfl (by decide) inw_X5 wd_362 dX5_countOpen_8 ?_
  refine j_iload_n (pc := 11) C dX5_countOpen_11 rfl 1 rfl ?_
  refine j_iconst (pc := 12) (v := 1) C dX5_countOpen_12 (by decide) ?_
  refine j_isub (pc := 13) C dX5_countOpen_13 ?_
  obtain ⟨g3, h⟩ := h
  refine j_qald (pc := 14) C 81 (82 + ((a1 - (1 : Int32))).toNatClampNeg) (c_81 hRG).1 (c_81 hRG).2 g3 (gfam_at (vp_in_lt g3)) dX5_countOpen_14 ?_
  refine j_astore_n (pc := 15) (lv' := [(2, .ref (V.2.1 (82 + ((a1 - (1 : Int32))).toNatClampNeg))), (0, .ref (V.2.1 70)), (1, .int a1)]) C dX5_countOpen_15 rfl (by decide) rfl ?_
  refine j_lconst (pc := 16) (v := 0) C dX5_countOpen_16 (by decide) ?_
  refine j_lstore_n (pc := 17) (lv' := [(3, .long (0 : Int64)), (2, .ref (V.2.1 (82 + ((a1 - (1 : Int32))).toNatClampNeg))), (0, .ref (V.2.1 70)), (1, .int a1)]) C dX5_countOpen_17 rfl (by decide) rfl ?_
  refine j_iconst (pc := 18) (v := 0) C dX5_countOpen_18 (by decide) ?_
  refine j_istore (pc := 19) (lv' := [(5, .int (0 : Int32)), (3, .long (0 : Int64)), (2, .ref (V.2.1 (82 + ((a1 - (1 : Int32))).toNatClampNeg))), (0, .ref (V.2.1 70)), (1, .int a1)]) C dX5_countOpen_19 (by decide) rfl ?_
  refine gJ.sub [3, 2, 1, 0] rfl ?_
  exact t_X5_countOpen_21 hTS hRG C hX hR (vp_in_lt g3)  h
/-! TileRules$RowGraph.countLoops(I)J -/
abbrev rm_X5_countLoops : Room := { frames := 0, cells := 0, slots := 0, locals := 0 }
theorem ok_X5_countLoops : gOk yX5_countLoops cX5_countLoops 5 (some .long) 1 := ⟨wd_436, wd_75, by decide +kernel⟩
def w_X5_countLoops_54 (room : Nat) (Po : Int64 → Prop) (K13 : Int64 → Int32 → Prop) (v1 : Int32) (v4 : Int32) (s0 : Int64) (s1 : Int64) (I : gI) : Prop :=
  ∀ n8 : Int64, n8 = (s1 + s0) → ∀ n9 : Int32, n9 = v4 + 1 → K13 n8 n9
def w_X5_countLoops_13b (room : Nat) (Po : Int64 → Prop) (K13 : Int64 → Int32 → Prop) (v1 : Int32) (v2 : Int64) (v4 : Int32) (I : gI) : Prop :=
  vp_in (v1 + (1 : Int32)) (room + 1) ∧ ((I 76 ((v1 + (1 : Int32))).toNatClampNeg) ≤ v4 → Po v2) ∧ (¬ (I 76 ((v1 + (1 : Int32))).toNatClampNeg) ≤ v4 → vp_in v4 room ∧ vp_in (I 77 (v4).toNatClampNeg) room ∧ (¬ (I 74 ((I 77 (v4).toNatClampNeg)).toNatClampNeg) = v1 → w_X5_countLoops_54 room Po K13 v1 v4 (0 : Int64) v2 I) ∧ ((I 74 ((I 77 (v4).toNatClampNeg)).toNatClampNeg) = v1 → w_X5_countLoops_54 room Po K13 v1 v4 (1 : Int64) v2 I))
def w_X5_countLoops_13 (room : Nat) (Po : Int64 → Prop)  (v1 : Int32) (v2 : Int64) (v4 : Int32) (I : gI) : Prop :=
  ∃ (Inv : Int64 → Int32 → Prop) (mu : Int64 → Int32 → Nat), Inv v2 v4 ∧ ∀ (v2 : Int64) (v4 : Int32), Inv v2 v4 → w_X5_countLoops_13b room Po  (fun u2 u4 => Inv u2 u4 ∧ mu u2 u4 < mu v2 v4) v1 v2 v4 I
def wp_X5_countLoops (room : Nat) (a1 : Int32) (I : gI) (Po : Int64 → Prop) : Prop :=
  vp_in a1 (room + 1) ∧ ∀ n2 : Int32, n2 = (I 76 (a1).toNatClampNeg) → w_X5_countLoops_13 room Po a1 (0 : Int64) n2 I
set_option maxRecDepth 100000 in
set_option maxHeartbeats 4000000 in
theorem t_X5_countLoops_54 {X : gX} {l : Launch} {D : va_G} {cy : Nat → ClassId} {nm : String} {V : gV} {room : Nat} (hTS : gModTS V) (hRG : gModRG room V) (C : gC X cX5_countLoops RX5 (some .long) 5 rm_X5_countLoops) (hX : gIs X l D cy nm) {I : gI} {J : gL} {Po : Int64 → Prop} (hR : gR X (gPl V (fun x I' J' => I = I' ∧ J = J' ∧ Po x))) {v1 : Int32} {v4 : Int32} {s0 : Int64} {s1 : Int64} {K13 : Int64 → Int32 → Prop} (hK13 : ∀ (y2 : Int64) (y4 : Int32), K13 y2 y4 → gJ X V 0 0 13 [(0, .ref (V.2.1 70)), (1, .int v1), (2, .long y2), (4, .int y4)] [] I J) (h : w_X5_countLoops_54 room Po K13 v1 v4 s0 s1 I) : gJ X V 0 0 54 [(0, .ref (V.2.1 70)), (1, .int v1), (4, .int v4)] [.long s0, .long s1] I J := by
  unfold w_X5_countLoops_54 at h
  refine j_ladd (pc := 54) C dX5_countLoops_54 ?_
  refine gJ.topl (fun n8 en8 => ?_)
  have h := h n8 en8
  refine j_lstore_n (pc := 55) (lv' := [(2, .long n8), (0, .ref (V.2.1 70)), (1, .int v1), (4, .int v4)]) C dX5_countLoops_55 rfl (by decide) rfl ?_
  obtain ⟨n9, en9⟩ : ∃ z : Int32, z = v4 + 1 := ⟨_, rfl⟩
  have h := h n9 en9
  refine j_iinc (pc := 56) (v := n9) (lv' := [(4, .int n9), (2, .long n8), (0, .ref (V.2.1 70)), (1, .int v1)]) C dX5_countLoops_56 3 rfl (by rw [en9]; rfl) (by decide) rfl ?_
  refine j_goto (pc := 59) (tgt := 13) C dX5_countLoops_59 (by decide) ?_
  refine gJ.sub [2, 3, 1, 0] rfl ?_
  exact hK13 _ _ h
set_option maxRecDepth 100000 in
set_option maxHeartbeats 4000000 in
theorem t_X5_countLoops_13b {X : gX} {l : Launch} {D : va_G} {cy : Nat → ClassId} {nm : String} {V : gV} {room : Nat} (hTS : gModTS V) (hRG : gModRG room V) (C : gC X cX5_countLoops RX5 (some .long) 5 rm_X5_countLoops) (hX : gIs X l D cy nm) {I : gI} {J : gL} {Po : Int64 → Prop} (hR : gR X (gPl V (fun x I' J' => I = I' ∧ J = J' ∧ Po x))) {v1 : Int32} {v2 : Int64} {v4 : Int32} {K13 : Int64 → Int32 → Prop} (hK13 : ∀ (y2 : Int64) (y4 : Int32), K13 y2 y4 → gJ X V 0 0 13 [(0, .ref (V.2.1 70)), (1, .int v1), (2, .long y2), (4, .int y4)] [] I J) (h : w_X5_countLoops_13b room Po K13 v1 v2 v4 I) : gJ X V 0 0 13 [(0, .ref (V.2.1 70)), (1, .int v1), (2, .long v2), (4, .int v4)] [] I J := by
  unfold w_X5_countLoops_13b at h
  refine j_iload (pc := 13) C dX5_countLoops_13 3 rfl ?_
  refine j_aload_n (pc := 15) C dX5_countLoops_15 rfl 0 rfl ?_
  refine j_getR (pc := 16) C 70 6 75 (c_70 hRG).1 (c_70 hRG).2 rfl rfl (by decide) inw_X5 wd_360 dX5_countLoops_16 ?_
  refine j_getR (pc := 19) C 75 0 76 (c_75 hRG).1 (c_75 hRG).2 rfl rfl (by decide) inw_X6 wd_327 dX5_countLoops_19 ?_
  refine j_iload_n (pc := 22) C dX5_countLoops_22 rfl 1 rfl ?_
  refine j_iconst (pc := 23) (v := 1) C dX5_countLoops_23 (by decide) ?_
  refine j_iadd (pc := 24) C dX5_countLoops_24 ?_
  obtain ⟨g3, h⟩ := h
  refine j_iald (pc := 25) C 76 (c_76 hRG).1 (c_76 hRG).2 g3 dX5_countLoops_25 ?_
  refine j_icmp_ge (pc := 26) (tgt := 62) C dX5_countLoops_26 (by decide) (fun c4 => ?_) (fun c4 => ?_)
  · have h := h.1 c4
    refine j_lload_n (pc := 62) C dX5_countLoops_62 rfl 2 rfl ?_
    exact j_lret (pc := 63) C hR (Nat.zero_le _) (Nat.zero_le _) dX5_countLoops_63 ⟨_, rfl, rfl, rfl, rfl, h⟩
  · have h := h.2 c4
    refine j_lload_n (pc := 29) C dX5_countLoops_29 rfl 2 rfl ?_
    refine j_aload_n (pc := 30) C dX5_countLoops_30 rfl 0 rfl ?_
    refine j_getR (pc := 31) C 70 5 74 (c_70 hRG).1 (c_70 hRG).2 rfl rfl (by decide) inw_X5 wd_359 dX5_countLoops_31 ?_
    refine j_aload_n (pc := 34) C dX5_countLoops_34 rfl 0 rfl ?_
    refine j_getR (pc := 35) C 70 6 75 (c_70 hRG).1 (c_70 hRG).2 rfl rfl (by decide) inw_X5 wd_360 dX5_countLoops_35 ?_
    refine j_getR (pc := 38) C 75 1 77 (c_75 hRG).1 (c_75 hRG).2 rfl rfl (by decide) inw_X6 wd_329 dX5_countLoops_38 ?_
    refine j_iload (pc := 41) C dX5_countLoops_41 3 rfl ?_
    obtain ⟨g5, h⟩ := h
    refine j_iald (pc := 43) C 77 (c_77 hRG).1 (c_77 hRG).2 g5 dX5_countLoops_43 ?_
    obtain ⟨g6, h⟩ := h
    refine j_iald (pc := 44) C 74 (c_74 hRG).1 (c_74 hRG).2 g6 dX5_countLoops_44 ?_
    refine j_iload_n (pc := 45) C dX5_countLoops_45 rfl 1 rfl ?_
    refine j_icmp_ne (pc := 46) (tgt := 53) C dX5_countLoops_46 (by decide) (fun c7 => ?_) (fun c7 => ?_)
    · have h := h.1 c7
      refine j_lconst (pc := 53) (v := 0) C dX5_countLoops_53 (by decide) ?_
      refine gJ.sub [0, 1, 3] rfl ?_
      exact t_X5_countLoops_54 hTS hRG C hX hR  hK13 h
    · have h := h.2 c7
      refine j_lconst (pc := 49) (v := 1) C dX5_countLoops_49 (by decide) ?_
      refine j_goto (pc := 50) (tgt := 54) C dX5_countLoops_50 (by decide) ?_
      refine gJ.sub [0, 1, 3] rfl ?_
      exact t_X5_countLoops_54 hTS hRG C hX hR  hK13 h
set_option maxRecDepth 100000 in
set_option maxHeartbeats 4000000 in
theorem t_X5_countLoops_13 {X : gX} {l : Launch} {D : va_G} {cy : Nat → ClassId} {nm : String} {V : gV} {room : Nat} (hTS : gModTS V) (hRG : gModRG room V) (C : gC X cX5_countLoops RX5 (some .long) 5 rm_X5_countLoops) (hX : gIs X l D cy nm) {I : gI} {J : gL} {Po : Int64 → Prop} (hR : gR X (gPl V (fun x I' J' => I = I' ∧ J = J' ∧ Po x))) {v1 : Int32} {v2 : Int64} {v4 : Int32} (h : w_X5_countLoops_13 room Po v1 v2 v4 I) : gJ X V 0 0 13 [(0, .ref (V.2.1 70)), (1, .int v1), (2, .long v2), (4, .int v4)] [] I J := by
  unfold w_X5_countLoops_13 at h
  obtain ⟨Inv, mu, h0, hs⟩ := h
  have key : ∀ (n : Nat) (v2 : Int64) (v4 : Int32), Inv v2 v4 → mu v2 v4 < n → gJ X V 0 0 13 [(0, .ref (V.2.1 70)), (1, .int v1), (2, .long v2), (4, .int v4)] [] I J := by
    intro n
    induction n with
    | zero => intro v2 v4 hi hn; exact absurd hn (Nat.not_lt_zero _)
    | succ n ih =>
      intro v2 v4 hi hn
      exact t_X5_countLoops_13b hTS hRG C hX hR   (fun u2 u4 hk => ih u2 u4 hk.1 (Nat.lt_of_lt_of_le hk.2 (Nat.le_of_lt_succ hn))) (hs v2 v4 hi)
  exact key _ v2 v4 h0 (Nat.lt_succ_self _)
set_option maxRecDepth 100000 in
set_option maxHeartbeats 4000000 in
theorem m_X5_countLoops {l : Launch} {D : va_G} {cy : Nat → ClassId} {V : gV} {room : Nat} (hTS : gModTS V) (hRG : gModRG room V) {a1 : Int32} {I : gI} {J : gL} {Po : Int64 → Prop} (h : wp_X5_countLoops room a1 I Po) : gMet l D cy yX5_countLoops cX5_countLoops 5 (some .long) rm_X5_countLoops V [.ref (V.2.1 70), .int a1] I J (gPl V (fun x I' J' => I = I' ∧ J = J' ∧ Po x)) := by
  refine gMet.of (by decide) (Nat.le_of_ble_eq_true rfl) (fun X hX C hR => ?_)
  have C : gC X cX5_countLoops RX5 (some .long) 5 rm_X5_countLoops := C
  show gJ X V 0 0 0 [(0, .ref (V.2.1 70)), (1, .int a1)] [] I J
  unfold wp_X5_countLoops at h
  refine j_lconst (pc := 0) (v := 0) C dX5_countLoops_0 (by decide) ?_
  refine j_lstore_n (pc := 1) (lv' := [(2, .long (0 : Int64)), (0, .ref (V.2.1 70)), (1, .int a1)]) C dX5_countLoops_1 rfl (by decide) rfl ?_
  refine j_aload_n (pc := 2) C dX5_countLoops_2 rfl 1 rfl ?_
  refine j_getR (pc := 3) C 70 6 75 (c_70 hRG).1 (c_70 hRG).2 rfl rfl (by decide) inw_X5 wd_360 dX5_countLoops_3 ?_
  refine j_getR (pc := 6) C 75 0 76 (c_75 hRG).1 (c_75 hRG).2 rfl rfl (by decide) inw_X6 wd_327 dX5_countLoops_6 ?_
  refine j_iload_n (pc := 9) C dX5_countLoops_9 rfl 2 rfl ?_
  obtain ⟨g1, h⟩ := h
  refine j_iald (pc := 10) C 76 (c_76 hRG).1 (c_76 hRG).2 g1 dX5_countLoops_10 ?_
  refine gJ.topi (fun n2 en2 => ?_)
  have h := h n2 en2
  refine j_istore (pc := 11) (lv' := [(4, .int n2), (2, .long (0 : Int64)), (0, .ref (V.2.1 70)), (1, .int a1)]) C dX5_countLoops_11 (by decide) rfl ?_
  refine gJ.sub [2, 3, 1, 0] rfl ?_
  exact t_X5_countLoops_13 hTS hRG C hX hR   h
/-! TileRules$RowGraph.aimAt(II)V -/
abbrev rm_X5_aimAt : Room := { frames := 2, cells := 0, slots := 0, locals := 51 }
theorem ok_X5_aimAt : gOk yX5_aimAt cX5_aimAt 3 none 2 := ⟨wd_444, wd_75, by decide +kernel⟩
def wp_X5_aimAt (room : Nat) (a1 : Int32) (a2 : Int32) (I : gI) (J : gL) (Po : gI → gL → Prop) : Prop :=
  vp_in (0 : Int32) 4 ∧ wp_X7_clear (((0 : Int32)).toNatClampNeg) room I J (fun I2 J3 => vp_in (0 : Int32) 4 ∧ wp_X7_add (((0 : Int32)).toNatClampNeg) room a1 (1 : Int64) I2 J3 (fun I5 J6 => wp_X5_climb room a2 I5 J6 (fun I7 J8 => Po I7 J8)))
set_option maxRecDepth 100000 in
set_option maxHeartbeats 4000000 in
theorem m_X5_aimAt {l : Launch} {D : va_G} {cy : Nat → ClassId} {V : gV} {room : Nat} (hTS : gModTS V) (hRG : gModRG room V) {a1 : Int32} {a2 : Int32} {I : gI} {J : gL} {Po : gI → gL → Prop} (h : wp_X5_aimAt room a1 a2 I J Po) : gMet l D cy yX5_aimAt cX5_aimAt 3 none rm_X5_aimAt V [.ref (V.2.1 70), .int a1, .int a2] I J (gPv V (fun I' J' => Po I' J')) := by
  refine gMet.of (by decide) (Nat.le_of_ble_eq_true rfl) (fun X hX C hR => ?_)
  have C : gC X cX5_aimAt RX5 none 3 rm_X5_aimAt := C
  show gJ X V 0 0 0 [(0, .ref (V.2.1 70)), (1, .int a1), (2, .int a2)] [] I J
  unfold wp_X5_aimAt at h
  refine j_aload_n (pc := 0) C dX5_aimAt_0 rfl 0 rfl ?_
  refine j_getR (pc := 1) C 70 8 81 (c_70 hRG).1 (c_70 hRG).2 rfl rfl (by decide) inw_X5 wd_362 dX5_aimAt_1 ?_
  refine j_iconst (pc := 4) (v := 0) C dX5_aimAt_4 (by decide) ?_
  obtain ⟨g1, h⟩ := h
  refine j_qald (pc := 5) C 81 (82 + ((0 : Int32)).toNatClampNeg) (c_81 hRG).1 (c_81 hRG).2 g1 (gfam_at (vp_in_lt g1)) dX5_aimAt_5 ?_
  refine j_callV (pc := 6) (As := []) (st := []) C hX (82 + ((0 : Int32)).toNatClampNeg) (m_X7_clear hRG (vp_in_lt g1) h) (f_82 hRG (vp_in_lt g1)).1 (f_82 hRG (vp_in_lt g1)).2 rfl ok_X7_clear wd_445 wd_446 wd_447 ⟨by decide, by decide⟩ rfl rfl (Nat.le_of_ble_eq_true rfl) ⟨Nat.le_refl 0, Nat.le_refl 0⟩ dX5_aimAt_6 (fun r V1 I2 J3 hp => ?_)
  obtain ⟨rfl, rfl, h⟩ := hp
  show gJ X V 0 0 9 _ [] _ _
  refine j_aload_n (pc := 9) C dX5_aimAt_9 rfl 0 rfl ?_
  refine j_getR (pc := 10) C 70 8 81 (c_70 hRG).1 (c_70 hRG).2 rfl rfl (by decide) inw_X5 wd_362 dX5_aimAt_10 ?_
  refine j_iconst (pc := 13) (v := 0) C dX5_aimAt_13 (by decide) ?_
  obtain ⟨g4, h⟩ := h
  refine j_qald (pc := 14) C 81 (82 + ((0 : Int32)).toNatClampNeg) (c_81 hRG).1 (c_81 hRG).2 g4 (gfam_at (vp_in_lt g4)) dX5_aimAt_14 ?_
  refine j_iload_n (pc := 15) C dX5_aimAt_15 rfl 1 rfl ?_
  refine j_lconst (pc := 16) (v := 1) C dX5_aimAt_16 (by decide) ?_
  refine j_callV (pc := 17) (As := [.int a1, .long (1 : Int64)]) (st := []) C hX (82 + ((0 : Int32)).toNatClampNeg) (m_X7_add hRG (vp_in_lt g4) h) (f_82 hRG (vp_in_lt g4)).1 (f_82 hRG (vp_in_lt g4)).2 rfl ok_X7_add wd_449 wd_450 wd_451 ⟨by decide, by decide⟩ rfl rfl (Nat.le_of_ble_eq_true rfl) ⟨Nat.le_refl 0, Nat.le_refl 0⟩ dX5_aimAt_17 (fun r V1 I5 J6 hp => ?_)
  obtain ⟨rfl, rfl, h⟩ := hp
  show gJ X V 0 0 20 _ [] _ _
  refine j_aload_n (pc := 20) C dX5_aimAt_20 rfl 0 rfl ?_
  refine j_iload_n (pc := 21) C dX5_aimAt_21 rfl 2 rfl ?_
  refine j_callV (pc := 22) (As := [.int a2]) (st := []) C hX 70 (m_X5_climb hTS hRG  h) (c_70 hRG).1 (c_70 hRG).2 rfl ok_X5_climb wd_453 wd_455 wd_9 ⟨by decide, by decide⟩ rfl rfl (Nat.le_of_ble_eq_true rfl) ⟨Nat.le_refl 0, Nat.le_refl 0⟩ dX5_aimAt_22 (fun r V1 I7 J8 hp => ?_)
  obtain ⟨rfl, rfl, h⟩ := hp
  show gJ X V 0 0 25 _ [] _ _
  exact j_vret (pc := 25) C hR (Nat.zero_le _) (Nat.zero_le _) dX5_aimAt_25 ⟨rfl, rfl, h⟩
/-! TileRules$RowGraph.countRingsFrom(II)J -/
abbrev rm_X5_countRingsFrom : Room := { frames := 3, cells := 0, slots := 0, locals := 73 }
theorem ok_X5_countRingsFrom : gOk yX5_countRingsFrom cX5_countRingsFrom 12 (some .long) 2 := ⟨wd_440, wd_75, by decide +kernel⟩
def w_X5_countRingsFrom_125b (room : Nat) (Po : Int64 → gI → gL → Prop) (K90 : Int64 → Int32 → Prop) (K125 : Int64 → Int32 → Prop) (v3 : Nat) (v4 : Nat) (v5 : Int64) (v7 : Int32) (v8 : Int32) (v9 : Int64) (v11 : Int32) (I : gI) (J : gL) : Prop :=
  vp_in (v8 + (1 : Int32)) (room + 1) ∧ ((I 76 ((v8 + (1 : Int32))).toNatClampNeg) ≤ v11 → vp_in v8 room ∧ ∀ n19 : Int64, n19 = (v5 + ((J (86 + v4) (v8).toNatClampNeg) * v9)) → ∀ n20 : Int32, n20 = v7 + 1 → K90 n19 n20) ∧ (¬ (I 76 ((v8 + (1 : Int32))).toNatClampNeg) ≤ v11 → vp_in v11 room ∧ vp_in (I 77 (v11).toNatClampNeg) room ∧ vp_in (I 74 ((I 77 (v11).toNatClampNeg)).toNatClampNeg) room ∧ ∀ n24 : Int64, n24 = (v9 + (J (86 + v3) ((I 74 ((I 77 (v11).toNatClampNeg)).toNatClampNeg)).toNatClampNeg)) → ∀ n25 : Int32, n25 = v11 + 1 → K125 n24 n25)
def w_X5_countRingsFrom_125 (room : Nat) (Po : Int64 → gI → gL → Prop) (K90 : Int64 → Int32 → Prop) (v3 : Nat) (v4 : Nat) (v5 : Int64) (v7 : Int32) (v8 : Int32) (v9 : Int64) (v11 : Int32) (I : gI) (J : gL) : Prop :=
  ∃ (Inv : Int64 → Int32 → Prop) (mu : Int64 → Int32 → Nat), Inv v9 v11 ∧ ∀ (v9 : Int64) (v11 : Int32), Inv v9 v11 → w_X5_countRingsFrom_125b room Po K90 (fun u9 u11 => Inv u9 u11 ∧ mu u9 u11 < mu v9 v11) v3 v4 v5 v7 v8 v9 v11 I J
def w_X5_countRingsFrom_90b (room : Nat) (Po : Int64 → gI → gL → Prop) (K90 : Int64 → Int32 → Prop) (v3 : Nat) (v4 : Nat) (v5 : Int64) (v7 : Int32) (I : gI) (J : gL) : Prop :=
  ((I (82 + v4) 2) ≤ v7 → Po v5 I J) ∧ (¬ (I (82 + v4) 2) ≤ v7 → vp_in v7 room ∧ ∀ n13 : Int32, n13 = (I (90 + v4) (v7).toNatClampNeg) → vp_in n13 (room + 1) ∧ ∀ n15 : Int32, n15 = (I 76 (n13).toNatClampNeg) → w_X5_countRingsFrom_125 room Po K90 v3 v4 v5 v7 n13 (0 : Int64) n15 I J)
def w_X5_countRingsFrom_90 (room : Nat) (Po : Int64 → gI → gL → Prop)  (v3 : Nat) (v4 : Nat) (v5 : Int64) (v7 : Int32) (I : gI) (J : gL) : Prop :=
  ∃ (Inv : Int64 → Int32 → Prop) (mu : Int64 → Int32 → Nat), Inv v5 v7 ∧ ∀ (v5 : Int64) (v7 : Int32), Inv v5 v7 → w_X5_countRingsFrom_90b room Po  (fun u5 u7 => Inv u5 u7 ∧ mu u5 u7 < mu v5 v7) v3 v4 v5 v7 I J
def w_X5_countRingsFrom_41b (room : Nat) (Po : Int64 → gI → gL → Prop) (K41 : Int32 → gI → gL → Prop) (v1 : Int32) (v3 : Nat) (v4 : Nat) (v5 : Int32) (I : gI) (J : gL) : Prop :=
  vp_in (v1 + (1 : Int32)) (room + 1) ∧ ((I 76 ((v1 + (1 : Int32))).toNatClampNeg) ≤ v5 → w_X5_countRingsFrom_90 room Po v3 v4 (0 : Int64) (0 : Int32) I J) ∧ (¬ (I 76 ((v1 + (1 : Int32))).toNatClampNeg) ≤ v5 → vp_in v5 room ∧ vp_in (I 77 (v5).toNatClampNeg) room ∧ wp_X7_add v4 room (I 74 ((I 77 (v5).toNatClampNeg)).toNatClampNeg) (1 : Int64) I J (fun I28 J29 => ∀ n30 : Int32, n30 = v5 + 1 → K41 n30 I28 J29))
def w_X5_countRingsFrom_41 (room : Nat) (Po : Int64 → gI → gL → Prop)  (v1 : Int32) (v3 : Nat) (v4 : Nat) (v5 : Int32) (I : gI) (J : gL) : Prop :=
  ∃ (Inv : Int32 → gI → gL → Prop) (mu : Int32 → gI → gL → Nat), Inv v5 I J ∧ ∀ (v5 : Int32) (I : gI) (J : gL), Inv v5 I J → w_X5_countRingsFrom_41b room Po  (fun u5 I1 J1 => Inv u5 I1 J1 ∧ mu u5 I1 J1 < mu v5 I J) v1 v3 v4 v5 I J
def wp_X5_countRingsFrom (room : Nat) (a1 : Int32) (a2 : Int32) (I : gI) (J : gL) (Po : Int64 → gI → gL → Prop) : Prop :=
  wp_X5_aimAt room a1 (a2 - (2 : Int32)) I J (fun I1 J2 => vp_in (a2 - (2 : Int32)) 4 ∧ vp_in (3 : Int32) 4 ∧ wp_X7_clear (((3 : Int32)).toNatClampNeg) room I1 J2 (fun I5 J6 => vp_in a1 (room + 1) ∧ ∀ n8 : Int32, n8 = (I5 76 (a1).toNatClampNeg) → w_X5_countRingsFrom_41 room Po a1 (((a2 - (2 : Int32))).toNatClampNeg) (((3 : Int32)).toNatClampNeg) n8 I5 J6))
set_option maxRecDepth 100000 in
set_option maxHeartbeats 4000000 in
theorem t_X5_countRingsFrom_125b {X : gX} {l : Launch} {D : va_G} {cy : Nat → ClassId} {nm : String} {V : gV} {room : Nat} (hTS : gModTS V) (hRG : gModRG room V) (C : gC X cX5_countRingsFrom RX5 (some .long) 12 rm_X5_countRingsFrom) (hX : gIs X l D cy nm) {I : gI} {J : gL} {Po : Int64 → gI → gL → Prop} (hR : gR X (gPl V (fun x I' J' => Po x I' J'))) {v3 : Nat} {v4 : Nat} {v5 : Int64} {v7 : Int32} {v8 : Int32} {v9 : Int64} {v11 : Int32} (hv3 : v3 < 4) (hv4 : v4 < 4) {K90 : Int64 → Int32 → Prop} {K125 : Int64 → Int32 → Prop} (hK90 : ∀ (y5 : Int64) (y7 : Int32), K90 y5 y7 → gJ X V 0 0 90 [(0, .ref (V.2.1 70)), (3, .ref (V.2.1 (82 + v3))), (4, .ref (V.2.1 (82 + v4))), (5, .long y5), (7, .int y7)] [] I J) (hK125 : ∀ (y9 : Int64) (y11 : Int32), K125 y9 y11 → gJ X V 0 0 125 [(0, .ref (V.2.1 70)), (3, .ref (V.2.1 (82 + v3))), (4, .ref (V.2.1 (82 + v4))), (5, .long v5), (7, .int v7), (8, .int v8), (9, .long y9), (11, .int y11)] [] I J) (h : w_X5_countRingsFrom_125b room Po K90 K125 v3 v4 v5 v7 v8 v9 v11 I J) : gJ X V 0 0 125 [(0, .ref (V.2.1 70)), (3, .ref (V.2.1 (82 + v3))), (4, .ref (V.2.1 (82 + v4))), (5, .long v5), (7, .int v7), (8, .int v8), (9, .long v9), (11, .int v11)] [] I J := by
  unfold w_X5_countRingsFrom_125b at h
  refine j_iload (pc := 125) C dX5_countRingsFrom_125 7 rfl ?_
  refine j_aload_n (pc := 127) C dX5_countRingsFrom_127 rfl 0 rfl ?_
  refine j_getR (pc := 128) C 70 6 75 (c_70 hRG).1 (c_70 hRG).2 rfl rfl (by decide) inw_X5 wd_360 dX5_countRingsFrom_128 ?_
  refine j_getR (pc := 131) C 75 0 76 (c_75 hRG).1 (c_75 hRG).2 rfl rfl (by decide) inw_X6 wd_327 dX5_countRingsFrom_131 ?_
  refine j_iload (pc := 134) C dX5_countRingsFrom_134 5 rfl ?_
  refine j_iconst (pc := 136) (v := 1) C dX5_countRingsFrom_136 (by decide) ?_
  refine j_iadd (pc := 137) C dX5_countRingsFrom_137 ?_
  obtain ⟨g16, h⟩ := h
  refine j_iald (pc := 138) C 76 (c_76 hRG).1 (c_76 hRG).2 g16 dX5_countRingsFrom_138 ?_
  refine j_icmp_ge (pc := 139) (tgt := 173) C dX5_countRingsFrom_139 (by decide) (fun c17 => ?_) (fun c17 => ?_)
  · have h := h.1 c17
    refine j_lload (pc := 173) C dX5_countRingsFrom_173 3 rfl ?_
    refine j_aload (pc := 175) C dX5_countRingsFrom_175 2 rfl ?_
    refine j_getR (pc := 177) C (82 + v4) 0 (86 + v4) (f_82 hRG hv4).1 (f_82 hRG hv4).2 rfl rfl (by decide) inw_X7 wd_341 dX5_countRingsFrom_177 ?_
    refine j_iload (pc := 180) C dX5_countRingsFrom_180 5 rfl ?_
    obtain ⟨g18, h⟩ := h
    refine j_lald (pc := 182) C (86 + v4) (f_86 hRG hv4).1 (f_86 hRG hv4).2 g18 dX5_countRingsFrom_182 ?_
    refine j_lload (pc := 183) C dX5_countRingsFrom_183 6 rfl ?_
    refine j_lmul (pc := 185) C dX5_countRingsFrom_185 ?_
    refine j_ladd (pc := 186) C dX5_countRingsFrom_186 ?_
    refine gJ.topl (fun n19 en19 => ?_)
    have h := h n19 en19
    refine j_lstore (pc := 187) (lv' := [(5, .long n19), (0, .ref (V.2.1 70)), (3, .ref (V.2.1 (82 + v3))), (4, .ref (V.2.1 (82 + v4))), (7, .int v7), (8, .int v8), (9, .long v9), (11, .int v11)]) C dX5_countRingsFrom_187 (by decide) rfl ?_
    obtain ⟨n20, en20⟩ : ∃ z : Int32, z = v7 + 1 := ⟨_, rfl⟩
    have h := h n20 en20
    refine j_iinc (pc := 189) (v := n20) (lv' := [(7, .int n20), (5, .long n19), (0, .ref (V.2.1 70)), (3, .ref (V.2.1 (82 + v3))), (4, .ref (V.2.1 (82 + v4))), (8, .int v8), (9, .long v9), (11, .int v11)]) C dX5_countRingsFrom_189 4 rfl (by rw [en20]; rfl) (by decide) rfl ?_
    refine j_goto (pc := 192) (tgt := 90) C dX5_countRingsFrom_192 (by decide) ?_
    refine gJ.sub [2, 3, 4, 1, 0] rfl ?_
    exact hK90 _ _ h
  · have h := h.2 c17
    refine j_lload (pc := 142) C dX5_countRingsFrom_142 6 rfl ?_
    refine j_aload_n (pc := 144) C dX5_countRingsFrom_144 rfl 1 rfl ?_
    refine j_getR (pc := 145) C (82 + v3) 0 (86 + v3) (f_82 hRG hv3).1 (f_82 hRG hv3).2 rfl rfl (by decide) inw_X7 wd_341 dX5_countRingsFrom_145 ?_
    refine j_aload_n (pc := 148) C dX5_countRingsFrom_148 rfl 0 rfl ?_
    refine j_getR (pc := 149) C 70 5 74 (c_70 hRG).1 (c_70 hRG).2 rfl rfl (by decide) inw_X5 wd_359 dX5_countRingsFrom_149 ?_
    refine j_aload_n (pc := 152) C dX5_countRingsFrom_152 rfl 0 rfl ?_
    refine j_getR (pc := 153) C 70 6 75 (c_70 hRG).1 (c_70 hRG).2 rfl rfl (by decide) inw_X5 wd_360 dX5_countRingsFrom_153 ?_
    refine j_getR (pc := 156) C 75 1 77 (c_75 hRG).1 (c_75 hRG).2 rfl rfl (by decide) inw_X6 wd_329 dX5_countRingsFrom_156 ?_
    refine j_iload (pc := 159) C dX5_countRingsFrom_159 7 rfl ?_
    obtain ⟨g21, h⟩ := h
    refine j_iald (pc := 161) C 77 (c_77 hRG).1 (c_77 hRG).2 g21 dX5_countRingsFrom_161 ?_
    obtain ⟨g22, h⟩ := h
    refine j_iald (pc := 162) C 74 (c_74 hRG).1 (c_74 hRG).2 g22 dX5_countRingsFrom_162 ?_
    obtain ⟨g23, h⟩ := h
    refine j_lald (pc := 163) C (86 + v3) (f_86 hRG hv3).1 (f_86 hRG hv3).2 g23 dX5_countRingsFrom_163 ?_
    refine j_ladd (pc := 164) C dX5_countRingsFrom_164 ?_
    refine gJ.topl (fun n24 en24 => ?_)
    have h := h n24 en24
    refine j_lstore (pc := 165) (lv' := [(9, .long n24), (0, .ref (V.2.1 70)), (3, .ref (V.2.1 (82 + v3))), (4, .ref (V.2.1 (82 + v4))), (5, .long v5), (7, .int v7), (8, .int v8), (11, .int v11)]) C dX5_countRingsFrom_165 (by decide) rfl ?_
    obtain ⟨n25, en25⟩ : ∃ z : Int32, z = v11 + 1 := ⟨_, rfl⟩
    have h := h n25 en25
    refine j_iinc (pc := 167) (v := n25) (lv' := [(11, .int n25), (9, .long n24), (0, .ref (V.2.1 70)), (3, .ref (V.2.1 (82 + v3))), (4, .ref (V.2.1 (82 + v4))), (5, .long v5), (7, .int v7), (8, .int v8)]) C dX5_countRingsFrom_167 7 rfl (by rw [en25]; rfl) (by decide) rfl ?_
    refine j_goto (pc := 170) (tgt := 125) C dX5_countRingsFrom_170 (by decide) ?_
    refine gJ.sub [2, 3, 4, 5, 6, 7, 1, 0] rfl ?_
    exact hK125 _ _ h
set_option maxRecDepth 100000 in
set_option maxHeartbeats 4000000 in
theorem t_X5_countRingsFrom_125 {X : gX} {l : Launch} {D : va_G} {cy : Nat → ClassId} {nm : String} {V : gV} {room : Nat} (hTS : gModTS V) (hRG : gModRG room V) (C : gC X cX5_countRingsFrom RX5 (some .long) 12 rm_X5_countRingsFrom) (hX : gIs X l D cy nm) {I : gI} {J : gL} {Po : Int64 → gI → gL → Prop} (hR : gR X (gPl V (fun x I' J' => Po x I' J'))) {v3 : Nat} {v4 : Nat} {v5 : Int64} {v7 : Int32} {v8 : Int32} {v9 : Int64} {v11 : Int32} (hv3 : v3 < 4) (hv4 : v4 < 4) {K90 : Int64 → Int32 → Prop} (hK90 : ∀ (y5 : Int64) (y7 : Int32), K90 y5 y7 → gJ X V 0 0 90 [(0, .ref (V.2.1 70)), (3, .ref (V.2.1 (82 + v3))), (4, .ref (V.2.1 (82 + v4))), (5, .long y5), (7, .int y7)] [] I J) (h : w_X5_countRingsFrom_125 room Po K90 v3 v4 v5 v7 v8 v9 v11 I J) : gJ X V 0 0 125 [(0, .ref (V.2.1 70)), (3, .ref (V.2.1 (82 + v3))), (4, .ref (V.2.1 (82 + v4))), (5, .long v5), (7, .int v7), (8, .int v8), (9, .long v9), (11, .int v11)] [] I J := by
  unfold w_X5_countRingsFrom_125 at h
  obtain ⟨Inv, mu, h0, hs⟩ := h
  have key : ∀ (n : Nat) (v9 : Int64) (v11 : Int32), Inv v9 v11 → mu v9 v11 < n → gJ X V 0 0 125 [(0, .ref (V.2.1 70)), (3, .ref (V.2.1 (82 + v3))), (4, .ref (V.2.1 (82 + v4))), (5, .long v5), (7, .int v7), (8, .int v8), (9, .long v9), (11, .int v11)] [] I J := by
    intro n
    induction n with
    | zero => intro v9 v11 hi hn; exact absurd hn (Nat.not_lt_zero _)
    | succ n ih =>
      intro v9 v11 hi hn
      exact t_X5_countRingsFrom_125b hTS hRG C hX hR hv3 hv4 hK90 (fun u9 u11 hk => ih u9 u11 hk.1 (Nat.lt_of_lt_of_le hk.2 (Nat.le_of_lt_succ hn))) (hs v9 v11 hi)
  exact key _ v9 v11 h0 (Nat.lt_succ_self _)
set_option maxRecDepth 100000 in
set_option maxHeartbeats 4000000 in
theorem t_X5_countRingsFrom_90b {X : gX} {l : Launch} {D : va_G} {cy : Nat → ClassId} {nm : String} {V : gV} {room : Nat} (hTS : gModTS V) (hRG : gModRG room V) (C : gC X cX5_countRingsFrom RX5 (some .long) 12 rm_X5_countRingsFrom) (hX : gIs X l D cy nm) {I : gI} {J : gL} {Po : Int64 → gI → gL → Prop} (hR : gR X (gPl V (fun x I' J' => Po x I' J'))) {v3 : Nat} {v4 : Nat} {v5 : Int64} {v7 : Int32} (hv3 : v3 < 4) (hv4 : v4 < 4) {K90 : Int64 → Int32 → Prop} (hK90 : ∀ (y5 : Int64) (y7 : Int32), K90 y5 y7 → gJ X V 0 0 90 [(0, .ref (V.2.1 70)), (3, .ref (V.2.1 (82 + v3))), (4, .ref (V.2.1 (82 + v4))), (5, .long y5), (7, .int y7)] [] I J) (h : w_X5_countRingsFrom_90b room Po K90 v3 v4 v5 v7 I J) : gJ X V 0 0 90 [(0, .ref (V.2.1 70)), (3, .ref (V.2.1 (82 + v3))), (4, .ref (V.2.1 (82 + v4))), (5, .long v5), (7, .int v7)] [] I J := by
  unfold w_X5_countRingsFrom_90b at h
  refine j_iload (pc := 90) C dX5_countRingsFrom_90 4 rfl ?_
  refine j_aload (pc := 92) C dX5_countRingsFrom_92 2 rfl ?_
  refine j_getI (pc := 94) C (82 + v4) 2 (f_82 hRG hv4).1 (f_82 hRG hv4).2 rfl rfl (by decide) inw_X7 wd_345 dX5_countRingsFrom_94 ?_
  refine j_icmp_ge (pc := 97) (tgt := 195) C dX5_countRingsFrom_97 (by decide) (fun c11 => ?_) (fun c11 => ?_)
  · have h := h.1 c11
    refine j_lload (pc := 195) C dX5_countRingsFrom_195 3 rfl ?_
    exact j_lret (pc := 197) C hR (Nat.zero_le _) (Nat.zero_le _) dX5_countRingsFrom_197 ⟨_, rfl, rfl, h⟩
  · have h := h.2 c11
    refine j_aload (pc := 100) C dX5_countRingsFrom_100 2 rfl ?_
    refine j_getR (pc := 102) C (82 + v4) 1 (90 + v4) (f_82 hRG hv4).1 (f_82 hRG hv4).2 rfl rfl (by decide) inw_X7 wd_343 dX5_countRingsFrom_102 ?_
    refine j_iload (pc := 105) C dX5_countRingsFrom_105 4 rfl ?_
    obtain ⟨g12, h⟩ := h
    refine j_iald (pc := 107) C (90 + v4) (f_90 hRG hv4).1 (f_90 hRG hv4).2 g12 dX5_countRingsFrom_107 ?_
    refine gJ.topi (fun n13 en13 => ?_)
    have h := h n13 en13
    refine j_istore (pc := 108) (lv' := [(8, .int n13), (0, .ref (V.2.1 70)), (3, .ref (V.2.1 (82 + v3))), (4, .ref (V.2.1 (82 + v4))), (5, .long v5), (7, .int v7)]) C dX5_countRingsFrom_108 (by decide) rfl ?_
    refine j_lconst (pc := 110) (v := 0) C dX5_countRingsFrom_110 (by decide) ?_
    refine j_lstore (pc := 111) (lv' := [(9, .long (0 : Int64)), (8, .int n13), (0, .ref (V.2.1 70)), (3, .ref (V.2.1 (82 + v3))), (4, .ref (V.2.1 (82 + v4))), (5, .long v5), (7, .int v7)]) C dX5_countRingsFrom_111 (by decide) rfl ?_
    refine j_aload_n (pc := 113) C dX5_countRingsFrom_113 rfl 2 rfl ?_
    refine j_getR (pc := 114) C 70 6 75 (c_70 hRG).1 (c_70 hRG).2 rfl rfl (by decide) inw_X5 wd_360 dX5_countRingsFrom_114 ?_
    refine j_getR (pc := 117) C 75 0 76 (c_75 hRG).1 (c_75 hRG).2 rfl rfl (by decide) inw_X6 wd_327 dX5_countRingsFrom_117 ?_
    refine j_iload (pc := 120) C dX5_countRingsFrom_120 1 rfl ?_
    obtain ⟨g14, h⟩ := h
    refine j_iald (pc := 122) C 76 (c_76 hRG).1 (c_76 hRG).2 g14 dX5_countRingsFrom_122 ?_
    refine gJ.topi (fun n15 en15 => ?_)
    have h := h n15 en15
    refine j_istore (pc := 123) (lv' := [(11, .int n15), (9, .long (0 : Int64)), (8, .int n13), (0, .ref (V.2.1 70)), (3, .ref (V.2.1 (82 + v3))), (4, .ref (V.2.1 (82 + v4))), (5, .long v5), (7, .int v7)]) C dX5_countRingsFrom_123 (by decide) rfl ?_
    refine gJ.sub [3, 4, 5, 6, 7, 2, 1, 0] rfl ?_
    exact t_X5_countRingsFrom_125 hTS hRG C hX hR hv3 hv4 hK90 h
set_option maxRecDepth 100000 in
set_option maxHeartbeats 4000000 in
theorem t_X5_countRingsFrom_90 {X : gX} {l : Launch} {D : va_G} {cy : Nat → ClassId} {nm : String} {V : gV} {room : Nat} (hTS : gModTS V) (hRG : gModRG room V) (C : gC X cX5_countRingsFrom RX5 (some .long) 12 rm_X5_countRingsFrom) (hX : gIs X l D cy nm) {I : gI} {J : gL} {Po : Int64 → gI → gL → Prop} (hR : gR X (gPl V (fun x I' J' => Po x I' J'))) {v3 : Nat} {v4 : Nat} {v5 : Int64} {v7 : Int32} (hv3 : v3 < 4) (hv4 : v4 < 4) (h : w_X5_countRingsFrom_90 room Po v3 v4 v5 v7 I J) : gJ X V 0 0 90 [(0, .ref (V.2.1 70)), (3, .ref (V.2.1 (82 + v3))), (4, .ref (V.2.1 (82 + v4))), (5, .long v5), (7, .int v7)] [] I J := by
  unfold w_X5_countRingsFrom_90 at h
  obtain ⟨Inv, mu, h0, hs⟩ := h
  have key : ∀ (n : Nat) (v5 : Int64) (v7 : Int32), Inv v5 v7 → mu v5 v7 < n → gJ X V 0 0 90 [(0, .ref (V.2.1 70)), (3, .ref (V.2.1 (82 + v3))), (4, .ref (V.2.1 (82 + v4))), (5, .long v5), (7, .int v7)] [] I J := by
    intro n
    induction n with
    | zero => intro v5 v7 hi hn; exact absurd hn (Nat.not_lt_zero _)
    | succ n ih =>
      intro v5 v7 hi hn
      exact t_X5_countRingsFrom_90b hTS hRG C hX hR hv3 hv4  (fun u5 u7 hk => ih u5 u7 hk.1 (Nat.lt_of_lt_of_le hk.2 (Nat.le_of_lt_succ hn))) (hs v5 v7 hi)
  exact key _ v5 v7 h0 (Nat.lt_succ_self _)
set_option maxRecDepth 100000 in
set_option maxHeartbeats 4000000 in
theorem t_X5_countRingsFrom_41b {X : gX} {l : Launch} {D : va_G} {cy : Nat → ClassId} {nm : String} {V : gV} {room : Nat} (hTS : gModTS V) (hRG : gModRG room V) (C : gC X cX5_countRingsFrom RX5 (some .long) 12 rm_X5_countRingsFrom) (hX : gIs X l D cy nm) {I : gI} {J : gL} {Po : Int64 → gI → gL → Prop} (hR : gR X (gPl V (fun x I' J' => Po x I' J'))) {v1 : Int32} {v3 : Nat} {v4 : Nat} {v5 : Int32} (hv3 : v3 < 4) (hv4 : v4 < 4) {K41 : Int32 → gI → gL → Prop} (hK41 : ∀ (y5 : Int32) (I1 : gI) (J1 : gL), K41 y5 I1 J1 → gJ X V 0 0 41 [(0, .ref (V.2.1 70)), (1, .int v1), (3, .ref (V.2.1 (82 + v3))), (4, .ref (V.2.1 (82 + v4))), (5, .int y5)] [] I1 J1) (h : w_X5_countRingsFrom_41b room Po K41 v1 v3 v4 v5 I J) : gJ X V 0 0 41 [(0, .ref (V.2.1 70)), (1, .int v1), (3, .ref (V.2.1 (82 + v3))), (4, .ref (V.2.1 (82 + v4))), (5, .int v5)] [] I J := by
  unfold w_X5_countRingsFrom_41b at h
  refine j_iload (pc := 41) C dX5_countRingsFrom_41 4 rfl ?_
  refine j_aload_n (pc := 43) C dX5_countRingsFrom_43 rfl 0 rfl ?_
  refine j_getR (pc := 44) C 70 6 75 (c_70 hRG).1 (c_70 hRG).2 rfl rfl (by decide) inw_X5 wd_360 dX5_countRingsFrom_44 ?_
  refine j_getR (pc := 47) C 75 0 76 (c_75 hRG).1 (c_75 hRG).2 rfl rfl (by decide) inw_X6 wd_327 dX5_countRingsFrom_47 ?_
  refine j_iload_n (pc := 50) C dX5_countRingsFrom_50 rfl 1 rfl ?_
  refine j_iconst (pc := 51) (v := 1) C dX5_countRingsFrom_51 (by decide) ?_
  refine j_iadd (pc := 52) C dX5_countRingsFrom_52 ?_
  obtain ⟨g9, h⟩ := h
  refine j_iald (pc := 53) C 76 (c_76 hRG).1 (c_76 hRG).2 g9 dX5_countRingsFrom_53 ?_
  refine j_icmp_ge (pc := 54) (tgt := 84) C dX5_countRingsFrom_54 (by decide) (fun c10 => ?_) (fun c10 => ?_)
  · have h := h.1 c10
    refine j_lconst (pc := 84) (v := 0) C dX5_countRingsFrom_84 (by decide) ?_
    refine j_lstore (pc := 85) (lv' := [(5, .long (0 : Int64)), (0, .ref (V.2.1 70)), (1, .int v1), (3, .ref (V.2.1 (82 + v3))), (4, .ref (V.2.1 (82 + v4)))]) C dX5_countRingsFrom_85 (by decide) rfl ?_
    refine j_iconst (pc := 87) (v := 0) C dX5_countRingsFrom_87 (by decide) ?_
    refine j_istore (pc := 88) (lv' := [(7, .int (0 : Int32)), (5, .long (0 : Int64)), (0, .ref (V.2.1 70)), (1, .int v1), (3, .ref (V.2.1 (82 + v3))), (4, .ref (V.2.1 (82 + v4)))]) C dX5_countRingsFrom_88 (by decide) rfl ?_
    refine gJ.sub [2, 4, 5, 1, 0] rfl ?_
    exact t_X5_countRingsFrom_90 hTS hRG C hX hR hv3 hv4  h
  · have h := h.2 c10
    refine j_aload (pc := 57) C dX5_countRingsFrom_57 3 rfl ?_
    refine j_aload_n (pc := 59) C dX5_countRingsFrom_59 rfl 0 rfl ?_
    refine j_getR (pc := 60) C 70 5 74 (c_70 hRG).1 (c_70 hRG).2 rfl rfl (by decide) inw_X5 wd_359 dX5_countRingsFrom_60 ?_
    refine j_aload_n (pc := 63) C dX5_countRingsFrom_63 rfl 0 rfl ?_
    refine j_getR (pc := 64) C 70 6 75 (c_70 hRG).1 (c_70 hRG).2 rfl rfl (by decide) inw_X5 wd_360 dX5_countRingsFrom_64 ?_
    refine j_getR (pc := 67) C 75 1 77 (c_75 hRG).1 (c_75 hRG).2 rfl rfl (by decide) inw_X6 wd_329 dX5_countRingsFrom_67 ?_
    refine j_iload (pc := 70) C dX5_countRingsFrom_70 4 rfl ?_
    obtain ⟨g26, h⟩ := h
    refine j_iald (pc := 72) C 77 (c_77 hRG).1 (c_77 hRG).2 g26 dX5_countRingsFrom_72 ?_
    obtain ⟨g27, h⟩ := h
    refine j_iald (pc := 73) C 74 (c_74 hRG).1 (c_74 hRG).2 g27 dX5_countRingsFrom_73 ?_
    refine j_lconst (pc := 74) (v := 1) C dX5_countRingsFrom_74 (by decide) ?_
    refine j_callV (pc := 75) (As := [.int (I 74 ((I 77 (v5).toNatClampNeg)).toNatClampNeg), .long (1 : Int64)]) (st := []) C hX (82 + v4) (m_X7_add hRG hv4 h) (f_82 hRG hv4).1 (f_82 hRG hv4).2 rfl ok_X7_add wd_449 wd_450 wd_451 ⟨by decide, by decide⟩ rfl rfl (Nat.le_of_ble_eq_true rfl) ⟨Nat.le_refl 0, Nat.le_refl 0⟩ dX5_countRingsFrom_75 (fun r V1 I28 J29 hp => ?_)
    obtain ⟨rfl, rfl, h⟩ := hp
    show gJ X V 0 0 78 _ [] _ _
    obtain ⟨n30, en30⟩ : ∃ z : Int32, z = v5 + 1 := ⟨_, rfl⟩
    have h := h n30 en30
    refine j_iinc (pc := 78) (v := n30) (lv' := [(5, .int n30), (0, .ref (V.2.1 70)), (1, .int v1), (3, .ref (V.2.1 (82 + v3))), (4, .ref (V.2.1 (82 + v4)))]) C dX5_countRingsFrom_78 4 rfl (by rw [en30]; rfl) (by decide) rfl ?_
    refine j_goto (pc := 81) (tgt := 41) C dX5_countRingsFrom_81 (by decide) ?_
    refine gJ.sub [1, 2, 3, 4, 0] rfl ?_
    exact hK41 _ _ _ h
set_option maxRecDepth 100000 in
set_option maxHeartbeats 4000000 in
theorem t_X5_countRingsFrom_41 {X : gX} {l : Launch} {D : va_G} {cy : Nat → ClassId} {nm : String} {V : gV} {room : Nat} (hTS : gModTS V) (hRG : gModRG room V) (C : gC X cX5_countRingsFrom RX5 (some .long) 12 rm_X5_countRingsFrom) (hX : gIs X l D cy nm) {I : gI} {J : gL} {Po : Int64 → gI → gL → Prop} (hR : gR X (gPl V (fun x I' J' => Po x I' J'))) {v1 : Int32} {v3 : Nat} {v4 : Nat} {v5 : Int32} (hv3 : v3 < 4) (hv4 : v4 < 4) (h : w_X5_countRingsFrom_41 room Po v1 v3 v4 v5 I J) : gJ X V 0 0 41 [(0, .ref (V.2.1 70)), (1, .int v1), (3, .ref (V.2.1 (82 + v3))), (4, .ref (V.2.1 (82 + v4))), (5, .int v5)] [] I J := by
  unfold w_X5_countRingsFrom_41 at h
  obtain ⟨Inv, mu, h0, hs⟩ := h
  have key : ∀ (n : Nat) (v5 : Int32) (I : gI) (J : gL), Inv v5 I J → mu v5 I J < n → gJ X V 0 0 41 [(0, .ref (V.2.1 70)), (1, .int v1), (3, .ref (V.2.1 (82 + v3))), (4, .ref (V.2.1 (82 + v4))), (5, .int v5)] [] I J := by
    intro n
    induction n with
    | zero => intro v5 I J hi hn; exact absurd hn (Nat.not_lt_zero _)
    | succ n ih =>
      intro v5 I J hi hn
      exact t_X5_countRingsFrom_41b hTS hRG C hX hR hv3 hv4  (fun u5 I1 J1 hk => ih u5 I1 J1 hk.1 (Nat.lt_of_lt_of_le hk.2 (Nat.le_of_lt_succ hn))) (hs v5 I J hi)
  exact key _ v5 I J h0 (Nat.lt_succ_self _)
set_option maxRecDepth 100000 in
set_option maxHeartbeats 4000000 in
theorem m_X5_countRingsFrom {l : Launch} {D : va_G} {cy : Nat → ClassId} {V : gV} {room : Nat} (hTS : gModTS V) (hRG : gModRG room V) {a1 : Int32} {a2 : Int32} {I : gI} {J : gL} {Po : Int64 → gI → gL → Prop} (h : wp_X5_countRingsFrom room a1 a2 I J Po) : gMet l D cy yX5_countRingsFrom cX5_countRingsFrom 12 (some .long) rm_X5_countRingsFrom V [.ref (V.2.1 70), .int a1, .int a2] I J (gPl V (fun x I' J' => Po x I' J')) := by
  refine gMet.of (by decide) (Nat.le_of_ble_eq_true rfl) (fun X hX C hR => ?_)
  have C : gC X cX5_countRingsFrom RX5 (some .long) 12 rm_X5_countRingsFrom := C
  show gJ X V 0 0 0 [(0, .ref (V.2.1 70)), (1, .int a1), (2, .int a2)] [] I J
  unfold wp_X5_countRingsFrom at h
  refine j_aload_n (pc := 0) C dX5_countRingsFrom_0 rfl 0 rfl ?_
  refine j_iload_n (pc := 1) C dX5_countRingsFrom_1 rfl 1 rfl ?_
  refine j_iload_n (pc := 2) C dX5_countRingsFrom_2 rfl 2 rfl ?_
  refine j_iconst (pc := 3) (v := 2) C dX5_countRingsFrom_3 (by decide) ?_
  refine j_isub (pc := 4) C dX5_countRingsFrom_4 ?_
  refine j_callV (pc := 5) (As := [.int a1, .int (a2 - (2 : Int32))]) (st := []) C hX 70 (m_X5_aimAt hTS hRG  h) (c_70 hRG).1 (c_70 hRG).2 rfl ok_X5_aimAt wd_441 wd_443 wd_8 ⟨by decide, by decide⟩ rfl rfl (Nat.le_of_ble_eq_true rfl) ⟨Nat.le_refl 0, Nat.le_refl 0⟩ dX5_countRingsFrom_5 (fun r V1 I1 J2 hp => ?_)
  obtain ⟨rfl, rfl, h⟩ := hp
  show gJ X V 0 0 8 _ [] _ _
  refine j_aload_n (pc := 8) C dX5_countRingsFrom_8 rfl 0 rfl ?_
  refine j_getR (pc := 9) C 70 8 81 (c_70 hRG).1 (c_70 hRG).2 rfl rfl (by decide) inw_X5 wd_362 dX5_countRingsFrom_9 ?_
  refine j_iload_n (pc := 12) C dX5_countRingsFrom_12 rfl 2 rfl ?_
  refine j_iconst (pc := 13) (v := 2) C dX5_countRingsFrom_13 (by decide) ?_
  refine j_isub (pc := 14) C dX5_countRingsFrom_14 ?_
  obtain ⟨g3, h⟩ := h
  refine j_qald (pc := 15) C 81 (82 + ((a2 - (2 : Int32))).toNatClampNeg) (c_81 hRG).1 (c_81 hRG).2 g3 (gfam_at (vp_in_lt g3)) dX5_countRingsFrom_15 ?_
  refine j_astore_n (pc := 16) (lv' := [(3, .ref (V.2.1 (82 + ((a2 - (2 : Int32))).toNatClampNeg))), (0, .ref (V.2.1 70)), (1, .int a1), (2, .int a2)]) C dX5_countRingsFrom_16 rfl (by decide) rfl ?_
  refine j_aload_n (pc := 17) C dX5_countRingsFrom_17 rfl 1 rfl ?_
  refine j_getR (pc := 18) C 70 8 81 (c_70 hRG).1 (c_70 hRG).2 rfl rfl (by decide) inw_X5 wd_362 dX5_countRingsFrom_18 ?_
  refine j_iconst (pc := 21) (v := 3) C dX5_countRingsFrom_21 (by decide) ?_
  obtain ⟨g4, h⟩ := h
  refine j_qald (pc := 22) C 81 (82 + ((3 : Int32)).toNatClampNeg) (c_81 hRG).1 (c_81 hRG).2 g4 (gfam_at (vp_in_lt g4)) dX5_countRingsFrom_22 ?_
  refine j_astore (pc := 23) (lv' := [(4, .ref (V.2.1 (82 + ((3 : Int32)).toNatClampNeg))), (3, .ref (V.2.1 (82 + ((a2 - (2 : Int32))).toNatClampNeg))), (0, .ref (V.2.1 70)), (1, .int a1), (2, .int a2)]) C dX5_countRingsFrom_23 (by decide) rfl ?_
  refine j_aload (pc := 25) C dX5_countRingsFrom_25 0 rfl ?_
  refine j_callV (pc := 27) (As := []) (st := []) C hX (82 + ((3 : Int32)).toNatClampNeg) (m_X7_clear hRG (vp_in_lt g4) h) (f_82 hRG (vp_in_lt g4)).1 (f_82 hRG (vp_in_lt g4)).2 rfl ok_X7_clear wd_445 wd_446 wd_447 ⟨by decide, by decide⟩ rfl rfl (Nat.le_of_ble_eq_true rfl) ⟨Nat.le_refl 0, Nat.le_refl 0⟩ dX5_countRingsFrom_27 (fun r V1 I5 J6 hp => ?_)
  obtain ⟨rfl, rfl, h⟩ := hp
  show gJ X V 0 0 30 _ [] _ _
  refine j_aload_n (pc := 30) C dX5_countRingsFrom_30 rfl 2 rfl ?_
  refine j_getR (pc := 31) C 70 6 75 (c_70 hRG).1 (c_70 hRG).2 rfl rfl (by decide) inw_X5 wd_360 dX5_countRingsFrom_31 ?_
  refine j_getR (pc := 34) C 75 0 76 (c_75 hRG).1 (c_75 hRG).2 rfl rfl (by decide) inw_X6 wd_327 dX5_countRingsFrom_34 ?_
  refine j_iload_n (pc := 37) C dX5_countRingsFrom_37 rfl 3 rfl ?_
  obtain ⟨g7, h⟩ := h
  refine j_iald (pc := 38) C 76 (c_76 hRG).1 (c_76 hRG).2 g7 dX5_countRingsFrom_38 ?_
  refine gJ.topi (fun n8 en8 => ?_)
  have h := h n8 en8
  refine j_istore (pc := 39) (lv' := [(5, .int n8), (4, .ref (V.2.1 (82 + ((3 : Int32)).toNatClampNeg))), (3, .ref (V.2.1 (82 + ((a2 - (2 : Int32))).toNatClampNeg))), (0, .ref (V.2.1 70)), (1, .int a1), (2, .int a2)]) C dX5_countRingsFrom_39 (by decide) rfl ?_
  refine gJ.sub [3, 4, 2, 1, 0] rfl ?_
  exact t_X5_countRingsFrom_41 hTS hRG C hX hR (vp_in_lt g3) (vp_in_lt g4)  h
/-! TileRules$RowGraph.countRings(I)J -/
abbrev rm_X5_countRings : Room := { frames := 4, cells := 0, slots := 0, locals := 104 }
theorem ok_X5_countRings : gOk yX5_countRings cX5_countRings 5 (some .long) 1 := ⟨wd_432, wd_75, by decide +kernel⟩
def w_X5_countRings_63 (room : Nat) (Po : Int64 → gI → gL → Prop) (K5 : Int64 → Int32 → gI → gL → Prop) (v1 : Int32) (v2 : Int64) (v4 : Int32) (I : gI) (J : gL) : Prop :=
  ∀ n5 : Int32, n5 = v4 + 1 → K5 v2 n5 I J
def w_X5_countRings_61 (room : Nat) (Po : Int64 → gI → gL → Prop) (K5 : Int64 → Int32 → gI → gL → Prop) (v1 : Int32) (v4 : Int32) (s0 : Int64) (s1 : Int64) (I : gI) (J : gL) : Prop :=
  ∀ n10 : Int64, n10 = (s1 + s0) → w_X5_countRings_63 room Po K5 v1 n10 v4 I J
def w_X5_countRings_5b (room : Nat) (Po : Int64 → gI → gL → Prop) (K5 : Int64 → Int32 → gI → gL → Prop) (v1 : Int32) (v2 : Int64) (v4 : Int32) (I : gI) (J : gL) : Prop :=
  ((I 70 12) ≤ v4 → Po v2 I J) ∧ (¬ (I 70 12) ≤ v4 → vp_in v4 (room + 1) ∧ vp_in (v4 + (1 : Int32)) (room + 1) ∧ ((I 76 ((v4 + (1 : Int32))).toNatClampNeg) ≤ (I 76 (v4).toNatClampNeg) → w_X5_countRings_63 room Po K5 v1 v2 v4 I J) ∧ (¬ (I 76 ((v4 + (1 : Int32))).toNatClampNeg) ≤ (I 76 (v4).toNatClampNeg) → (¬ v1 = (1 : Int32) → wp_X5_countRingsFrom room v4 v1 I J (fun r7 I8 J9 => w_X5_countRings_61 room Po K5 v1 v4 r7 v2 I8 J9)) ∧ (v1 = (1 : Int32) → wp_X5_countLoops room v4 I (fun r11 => w_X5_countRings_61 room Po K5 v1 v4 r11 v2 I J))))
def w_X5_countRings_5 (room : Nat) (Po : Int64 → gI → gL → Prop)  (v1 : Int32) (v2 : Int64) (v4 : Int32) (I : gI) (J : gL) : Prop :=
  ∃ (Inv : Int64 → Int32 → gI → gL → Prop) (mu : Int64 → Int32 → gI → gL → Nat), Inv v2 v4 I J ∧ ∀ (v2 : Int64) (v4 : Int32) (I : gI) (J : gL), Inv v2 v4 I J → w_X5_countRings_5b room Po  (fun u2 u4 I1 J1 => Inv u2 u4 I1 J1 ∧ mu u2 u4 I1 J1 < mu v2 v4 I J) v1 v2 v4 I J
def wp_X5_countRings (room : Nat) (a1 : Int32) (I : gI) (J : gL) (Po : Int64 → gI → gL → Prop) : Prop :=
  w_X5_countRings_5 room Po a1 (0 : Int64) (0 : Int32) I J
set_option maxRecDepth 100000 in
set_option maxHeartbeats 4000000 in
theorem t_X5_countRings_63 {X : gX} {l : Launch} {D : va_G} {cy : Nat → ClassId} {nm : String} {V : gV} {room : Nat} (hTS : gModTS V) (hRG : gModRG room V) (C : gC X cX5_countRings RX5 (some .long) 5 rm_X5_countRings) (hX : gIs X l D cy nm) {I : gI} {J : gL} {Po : Int64 → gI → gL → Prop} (hR : gR X (gPl V (fun x I' J' => Po x I' J'))) {v1 : Int32} {v2 : Int64} {v4 : Int32} {K5 : Int64 → Int32 → gI → gL → Prop} (hK5 : ∀ (y2 : Int64) (y4 : Int32) (I1 : gI) (J1 : gL), K5 y2 y4 I1 J1 → gJ X V 0 0 5 [(0, .ref (V.2.1 70)), (1, .int v1), (2, .long y2), (4, .int y4)] [] I1 J1) (h : w_X5_countRings_63 room Po K5 v1 v2 v4 I J) : gJ X V 0 0 63 [(0, .ref (V.2.1 70)), (1, .int v1), (2, .long v2), (4, .int v4)] [] I J := by
  unfold w_X5_countRings_63 at h
  obtain ⟨n5, en5⟩ : ∃ z : Int32, z = v4 + 1 := ⟨_, rfl⟩
  have h := h n5 en5
  refine j_iinc (pc := 63) (v := n5) (lv' := [(4, .int n5), (0, .ref (V.2.1 70)), (1, .int v1), (2, .long v2)]) C dX5_countRings_63 3 rfl (by rw [en5]; rfl) (by decide) rfl ?_
  refine j_goto (pc := 66) (tgt := 5) C dX5_countRings_66 (by decide) ?_
  refine gJ.sub [1, 2, 3, 0] rfl ?_
  exact hK5 _ _ _ _ h
set_option maxRecDepth 100000 in
set_option maxHeartbeats 4000000 in
theorem t_X5_countRings_61 {X : gX} {l : Launch} {D : va_G} {cy : Nat → ClassId} {nm : String} {V : gV} {room : Nat} (hTS : gModTS V) (hRG : gModRG room V) (C : gC X cX5_countRings RX5 (some .long) 5 rm_X5_countRings) (hX : gIs X l D cy nm) {I : gI} {J : gL} {Po : Int64 → gI → gL → Prop} (hR : gR X (gPl V (fun x I' J' => Po x I' J'))) {v1 : Int32} {v4 : Int32} {s0 : Int64} {s1 : Int64} {K5 : Int64 → Int32 → gI → gL → Prop} (hK5 : ∀ (y2 : Int64) (y4 : Int32) (I1 : gI) (J1 : gL), K5 y2 y4 I1 J1 → gJ X V 0 0 5 [(0, .ref (V.2.1 70)), (1, .int v1), (2, .long y2), (4, .int y4)] [] I1 J1) (h : w_X5_countRings_61 room Po K5 v1 v4 s0 s1 I J) : gJ X V 0 0 61 [(0, .ref (V.2.1 70)), (1, .int v1), (4, .int v4)] [.long s0, .long s1] I J := by
  unfold w_X5_countRings_61 at h
  refine j_ladd (pc := 61) C dX5_countRings_61 ?_
  refine gJ.topl (fun n10 en10 => ?_)
  have h := h n10 en10
  refine j_lstore_n (pc := 62) (lv' := [(2, .long n10), (0, .ref (V.2.1 70)), (1, .int v1), (4, .int v4)]) C dX5_countRings_62 rfl (by decide) rfl ?_
  refine gJ.sub [1, 2, 0, 3] rfl ?_
  exact t_X5_countRings_63 hTS hRG C hX hR  hK5 h
set_option maxRecDepth 100000 in
set_option maxHeartbeats 4000000 in
theorem t_X5_countRings_5b {X : gX} {l : Launch} {D : va_G} {cy : Nat → ClassId} {nm : String} {V : gV} {room : Nat} (hTS : gModTS V) (hRG : gModRG room V) (C : gC X cX5_countRings RX5 (some .long) 5 rm_X5_countRings) (hX : gIs X l D cy nm) {I : gI} {J : gL} {Po : Int64 → gI → gL → Prop} (hR : gR X (gPl V (fun x I' J' => Po x I' J'))) {v1 : Int32} {v2 : Int64} {v4 : Int32} {K5 : Int64 → Int32 → gI → gL → Prop} (hK5 : ∀ (y2 : Int64) (y4 : Int32) (I1 : gI) (J1 : gL), K5 y2 y4 I1 J1 → gJ X V 0 0 5 [(0, .ref (V.2.1 70)), (1, .int v1), (2, .long y2), (4, .int y4)] [] I1 J1) (h : w_X5_countRings_5b room Po K5 v1 v2 v4 I J) : gJ X V 0 0 5 [(0, .ref (V.2.1 70)), (1, .int v1), (2, .long v2), (4, .int v4)] [] I J := by
  unfold w_X5_countRings_5b at h
  refine j_iload (pc := 5) C dX5_countRings_5 3 rfl ?_
  refine j_aload_n (pc := 7) C dX5_countRings_7 rfl 0 rfl ?_
  refine j_getI (pc := 8) C 70 12 (c_70 hRG).1 (c_70 hRG).2 rfl rfl (by decide) inw_X5 wd_366 dX5_countRings_8 ?_
  refine j_icmp_ge (pc := 11) (tgt := 69) C dX5_countRings_11 (by decide) (fun c1 => ?_) (fun c1 => ?_)
  · have h := h.1 c1
    refine j_lload_n (pc := 69) C dX5_countRings_69 rfl 2 rfl ?_
    exact j_lret (pc := 70) C hR (Nat.zero_le _) (Nat.zero_le _) dX5_countRings_70 ⟨_, rfl, rfl, h⟩
  · have h := h.2 c1
    refine j_aload_n (pc := 14) C dX5_countRings_14 rfl 0 rfl ?_
    refine j_getR (pc := 15) C 70 6 75 (c_70 hRG).1 (c_70 hRG).2 rfl rfl (by decide) inw_X5 wd_360 dX5_countRings_15 ?_
    refine j_getR (pc := 18) C 75 0 76 (c_75 hRG).1 (c_75 hRG).2 rfl rfl (by decide) inw_X6 wd_327 dX5_countRings_18 ?_
    refine j_iload (pc := 21) C dX5_countRings_21 3 rfl ?_
    obtain ⟨g2, h⟩ := h
    refine j_iald (pc := 23) C 76 (c_76 hRG).1 (c_76 hRG).2 g2 dX5_countRings_23 ?_
    refine j_aload_n (pc := 24) C dX5_countRings_24 rfl 0 rfl ?_
    refine j_getR (pc := 25) C 70 6 75 (c_70 hRG).1 (c_70 hRG).2 rfl rfl (by decide) inw_X5 wd_360 dX5_countRings_25 ?_
    refine j_getR (pc := 28) C 75 0 76 (c_75 hRG).1 (c_75 hRG).2 rfl rfl (by decide) inw_X6 wd_327 dX5_countRings_28 ?_
    refine j_iload (pc := 31) C dX5_countRings_31 3 rfl ?_
    refine j_iconst (pc := 33) (v := 1) C dX5_countRings_33 (by decide) ?_
    refine j_iadd (pc := 34) C dX5_countRings_34 ?_
    obtain ⟨g3, h⟩ := h
    refine j_iald (pc := 35) C 76 (c_76 hRG).1 (c_76 hRG).2 g3 dX5_countRings_35 ?_
    refine j_icmp_ge (pc := 36) (tgt := 63) C dX5_countRings_36 (by decide) (fun c4 => ?_) (fun c4 => ?_)
    · have h := h.1 c4
      refine gJ.sub [0, 1, 2, 3] rfl ?_
      exact t_X5_countRings_63 hTS hRG C hX hR  hK5 h
    · have h := h.2 c4
      refine j_lload_n (pc := 39) C dX5_countRings_39 rfl 2 rfl ?_
      refine j_iload_n (pc := 40) C dX5_countRings_40 rfl 1 rfl ?_
      refine j_iconst (pc := 41) (v := 1) C dX5_countRings_41 (by decide) ?_
      refine j_icmp_ne (pc := 42) (tgt := 54) C dX5_countRings_42 (by decide) (fun c6 => ?_) (fun c6 => ?_)
      · have h := h.1 c6
        refine j_aload_n (pc := 54) C dX5_countRings_54 rfl 0 rfl ?_
        refine j_iload (pc := 55) C dX5_countRings_55 3 rfl ?_
        refine j_iload_n (pc := 57) C dX5_countRings_57 rfl 1 rfl ?_
        refine j_callV (pc := 58) (As := [.int v4, .int v1]) (st := [.long v2]) C hX 70 (m_X5_countRingsFrom hTS hRG  h) (c_70 hRG).1 (c_70 hRG).2 rfl ok_X5_countRingsFrom wd_437 wd_439 wd_7 ⟨by decide, by decide⟩ rfl rfl (Nat.le_of_ble_eq_true rfl) ⟨Nat.le_refl 0, Nat.le_refl 0⟩ dX5_countRings_58 (fun r V1 I8 J9 hp => ?_)
        obtain ⟨r7, rfl, rfl, h⟩ := hp
        show gJ X V 0 0 61 _ [.long r7, .long v2] _ _
        refine gJ.sub [0, 1, 3] rfl ?_
        exact t_X5_countRings_61 hTS hRG C hX hR  hK5 h
      · have h := h.2 c6
        refine j_aload_n (pc := 45) C dX5_countRings_45 rfl 0 rfl ?_
        refine j_iload (pc := 46) C dX5_countRings_46 3 rfl ?_
        refine j_callV (pc := 48) (As := [.int v4]) (st := [.long v2]) C hX 70 (m_X5_countLoops hTS hRG  h) (c_70 hRG).1 (c_70 hRG).2 rfl ok_X5_countLoops wd_433 wd_435 wd_6 ⟨by decide, by decide⟩ rfl rfl (Nat.le_of_ble_eq_true rfl) ⟨Nat.le_refl 0, Nat.le_refl 0⟩ dX5_countRings_48 (fun r V1 I1 J1 hp => ?_)
        obtain ⟨r11, rfl, rfl, rfl, rfl, h⟩ := hp
        show gJ X V 0 0 51 _ [.long r11, .long v2] _ _
        refine j_goto (pc := 51) (tgt := 61) C dX5_countRings_51 (by decide) ?_
        refine gJ.sub [0, 1, 3] rfl ?_
        exact t_X5_countRings_61 hTS hRG C hX hR  hK5 h
set_option maxRecDepth 100000 in
set_option maxHeartbeats 4000000 in
theorem t_X5_countRings_5 {X : gX} {l : Launch} {D : va_G} {cy : Nat → ClassId} {nm : String} {V : gV} {room : Nat} (hTS : gModTS V) (hRG : gModRG room V) (C : gC X cX5_countRings RX5 (some .long) 5 rm_X5_countRings) (hX : gIs X l D cy nm) {I : gI} {J : gL} {Po : Int64 → gI → gL → Prop} (hR : gR X (gPl V (fun x I' J' => Po x I' J'))) {v1 : Int32} {v2 : Int64} {v4 : Int32} (h : w_X5_countRings_5 room Po v1 v2 v4 I J) : gJ X V 0 0 5 [(0, .ref (V.2.1 70)), (1, .int v1), (2, .long v2), (4, .int v4)] [] I J := by
  unfold w_X5_countRings_5 at h
  obtain ⟨Inv, mu, h0, hs⟩ := h
  have key : ∀ (n : Nat) (v2 : Int64) (v4 : Int32) (I : gI) (J : gL), Inv v2 v4 I J → mu v2 v4 I J < n → gJ X V 0 0 5 [(0, .ref (V.2.1 70)), (1, .int v1), (2, .long v2), (4, .int v4)] [] I J := by
    intro n
    induction n with
    | zero => intro v2 v4 I J hi hn; exact absurd hn (Nat.not_lt_zero _)
    | succ n ih =>
      intro v2 v4 I J hi hn
      exact t_X5_countRings_5b hTS hRG C hX hR   (fun u2 u4 I1 J1 hk => ih u2 u4 I1 J1 hk.1 (Nat.lt_of_lt_of_le hk.2 (Nat.le_of_lt_succ hn))) (hs v2 v4 I J hi)
  exact key _ v2 v4 I J h0 (Nat.lt_succ_self _)
set_option maxRecDepth 100000 in
set_option maxHeartbeats 4000000 in
theorem m_X5_countRings {l : Launch} {D : va_G} {cy : Nat → ClassId} {V : gV} {room : Nat} (hTS : gModTS V) (hRG : gModRG room V) {a1 : Int32} {I : gI} {J : gL} {Po : Int64 → gI → gL → Prop} (h : wp_X5_countRings room a1 I J Po) : gMet l D cy yX5_countRings cX5_countRings 5 (some .long) rm_X5_countRings V [.ref (V.2.1 70), .int a1] I J (gPl V (fun x I' J' => Po x I' J')) := by
  refine gMet.of (by decide) (Nat.le_of_ble_eq_true rfl) (fun X hX C hR => ?_)
  have C : gC X cX5_countRings RX5 (some .long) 5 rm_X5_countRings := C
  show gJ X V 0 0 0 [(0, .ref (V.2.1 70)), (1, .int a1)] [] I J
  unfold wp_X5_countRings at h
  refine j_lconst (pc := 0) (v := 0) C dX5_countRings_0 (by decide) ?_
  refine j_lstore_n (pc := 1) (lv' := [(2, .long (0 : Int64)), (0, .ref (V.2.1 70)), (1, .int a1)]) C dX5_countRings_1 rfl (by decide) rfl ?_
  refine j_iconst (pc := 2) (v := 0) C dX5_countRings_2 (by decide) ?_
  refine j_istore (pc := 3) (lv' := [(4, .int (0 : Int32)), (2, .long (0 : Int64)), (0, .ref (V.2.1 70)), (1, .int a1)]) C dX5_countRings_3 (by decide) rfl ?_
  refine gJ.sub [2, 3, 1, 0] rfl ?_
  exact t_X5_countRings_5 hTS hRG C hX hR   h
/-! TileRules$RowGraph.tileAt(II)I -/
abbrev rm_X5_tileAt : Room := { frames := 0, cells := 0, slots := 0, locals := 0 }
theorem ok_X5_tileAt : gOk yX5_tileAt cX5_tileAt 3 (some .int) 2 := ⟨wd_491, wd_75, by decide +kernel⟩
def wp_X5_tileAt (room : Nat) (a1 : Int32) (a2 : Int32) (I : gI) (Po : Int32 → Prop) : Prop :=
  vp_in a1 room ∧ Po (((I 72 (a1).toNatClampNeg) >>> (((3 : Int32) * (((I 70 9) - (1 : Int32)) - a2)) &&& 31)) &&& (7 : Int32))
set_option maxRecDepth 100000 in
set_option maxHeartbeats 4000000 in
theorem m_X5_tileAt {l : Launch} {D : va_G} {cy : Nat → ClassId} {V : gV} {room : Nat} (hTS : gModTS V) (hRG : gModRG room V) {a1 : Int32} {a2 : Int32} {I : gI} {J : gL} {Po : Int32 → Prop} (h : wp_X5_tileAt room a1 a2 I Po) : gMet l D cy yX5_tileAt cX5_tileAt 3 (some .int) rm_X5_tileAt V [.ref (V.2.1 70), .int a1, .int a2] I J (gPi V (fun x I' J' => I = I' ∧ J = J' ∧ Po x)) := by
  refine gMet.of (by decide) (Nat.le_of_ble_eq_true rfl) (fun X hX C hR => ?_)
  have C : gC X cX5_tileAt RX5 (some .int) 3 rm_X5_tileAt := C
  show gJ X V 0 0 0 [(0, .ref (V.2.1 70)), (1, .int a1), (2, .int a2)] [] I J
  unfold wp_X5_tileAt at h
  refine j_aload_n (pc := 0) C dX5_tileAt_0 rfl 0 rfl ?_
  refine j_getR (pc := 1) C 70 3 72 (c_70 hRG).1 (c_70 hRG).2 rfl rfl (by decide) inw_X5 wd_357 dX5_tileAt_1 ?_
  refine j_iload_n (pc := 4) C dX5_tileAt_4 rfl 1 rfl ?_
  obtain ⟨g1, h⟩ := h
  refine j_iald (pc := 5) C 72 (c_72 hRG).1 (c_72 hRG).2 g1 dX5_tileAt_5 ?_
  refine j_iconst (pc := 6) (v := 3) C dX5_tileAt_6 (by decide) ?_
  refine j_aload_n (pc := 7) C dX5_tileAt_7 rfl 0 rfl ?_
  refine j_getI (pc := 8) C 70 9 (c_70 hRG).1 (c_70 hRG).2 rfl rfl (by decide) inw_X5 wd_363 dX5_tileAt_8 ?_
  refine j_iconst (pc := 11) (v := 1) C dX5_tileAt_11 (by decide) ?_
  refine j_isub (pc := 12) C dX5_tileAt_12 ?_
  refine j_iload_n (pc := 13) C dX5_tileAt_13 rfl 2 rfl ?_
  refine j_isub (pc := 14) C dX5_tileAt_14 ?_
  refine j_imul (pc := 15) C dX5_tileAt_15 ?_
  refine j_ishr (pc := 16) C dX5_tileAt_16 ?_
  refine j_bipush (pc := 17) (v := 7) C dX5_tileAt_17 (by decide) ?_
  refine j_iand (pc := 19) C dX5_tileAt_19 ?_
  exact j_iret (pc := 20) C hR (Nat.zero_le _) (Nat.zero_le _) dX5_tileAt_20 ⟨_, rfl, rfl, rfl, rfl, h⟩
/-! TileRules$RowGraph.countAroundMiddle(I)J -/
abbrev rm_X5_countAroundMiddle : Room := { frames := 3, cells := 0, slots := 0, locals := 73 }
theorem ok_X5_countAroundMiddle : gOk yX5_countAroundMiddle cX5_countAroundMiddle 8 (some .long) 1 := ⟨wd_508, wd_75, by decide +kernel⟩
def w_X5_countAroundMiddle_96 (room : Nat) (Po : Int64 → gI → gL → Prop) (K17 : Int64 → Int32 → Prop) (v1 : Int32) (v2 : Nat) (v3 : Int64) (v5 : Int32) (I : gI) (J : gL) : Prop :=
  ∀ n9 : Int32, n9 = v5 + 1 → K17 v3 n9
def w_X5_countAroundMiddle_17b (room : Nat) (Po : Int64 → gI → gL → Prop) (K17 : Int64 → Int32 → Prop) (v1 : Int32) (v2 : Nat) (v3 : Int64) (v5 : Int32) (I : gI) (J : gL) : Prop :=
  ((I 70 13) ≤ v5 → Po v3 I J) ∧ (¬ (I 70 13) ≤ v5 → vp_in v5 room ∧ ∀ n6 : Int32, n6 = (I 73 (v5).toNatClampNeg) → wp_X5_tileAt room v5 (1 : Int32) I (fun r7 => (¬ r7 = v1 → w_X5_countAroundMiddle_96 room Po K17 v1 v2 v3 v5 I J) ∧ (r7 = v1 → (n6 = (-1 : Int32) → w_X5_countAroundMiddle_96 room Po K17 v1 v2 v3 v5 I J) ∧ (¬ n6 = (-1 : Int32) → vp_in (n6 + (1 : Int32)) (room + 1) ∧ vp_in n6 (room + 1) ∧ ∀ n13 : Int32, n13 = ((I 79 ((n6 + (1 : Int32))).toNatClampNeg) - (I 79 (n6).toNatClampNeg)) → vp_in v5 room ∧ vp_in (I 74 (v5).toNatClampNeg) room ∧ ∀ n16 : Int64, n16 = (v3 + ((n13).toInt64 * (J (86 + v2) ((I 74 (v5).toNatClampNeg)).toNatClampNeg))) → w_X5_countAroundMiddle_96 room Po K17 v1 v2 n16 v5 I J))))
def w_X5_countAroundMiddle_17 (room : Nat) (Po : Int64 → gI → gL → Prop)  (v1 : Int32) (v2 : Nat) (v3 : Int64) (v5 : Int32) (I : gI) (J : gL) : Prop :=
  ∃ (Inv : Int64 → Int32 → Prop) (mu : Int64 → Int32 → Nat), Inv v3 v5 ∧ ∀ (v3 : Int64) (v5 : Int32), Inv v3 v5 → w_X5_countAroundMiddle_17b room Po  (fun u3 u5 => Inv u3 u5 ∧ mu u3 u5 < mu v3 v5) v1 v2 v3 v5 I J
def wp_X5_countAroundMiddle (room : Nat) (a1 : Int32) (I : gI) (J : gL) (Po : Int64 → gI → gL → Prop) : Prop :=
  wp_X5_aimAnywhere room (1 : Int32) I J (fun I1 J2 => vp_in (1 : Int32) 4 ∧ w_X5_countAroundMiddle_17 room Po a1 (((1 : Int32)).toNatClampNeg) (0 : Int64) (0 : Int32) I1 J2)
set_option maxRecDepth 100000 in
set_option maxHeartbeats 4000000 in
theorem t_X5_countAroundMiddle_96 {X : gX} {l : Launch} {D : va_G} {cy : Nat → ClassId} {nm : String} {V : gV} {room : Nat} (hTS : gModTS V) (hRG : gModRG room V) (C : gC X cX5_countAroundMiddle RX5 (some .long) 8 rm_X5_countAroundMiddle) (hX : gIs X l D cy nm) {I : gI} {J : gL} {Po : Int64 → gI → gL → Prop} (hR : gR X (gPl V (fun x I' J' => Po x I' J'))) {v1 : Int32} {v2 : Nat} {v3 : Int64} {v5 : Int32} (hv2 : v2 < 4) {K17 : Int64 → Int32 → Prop} (hK17 : ∀ (y3 : Int64) (y5 : Int32), K17 y3 y5 → gJ X V 0 0 17 [(0, .ref (V.2.1 70)), (1, .int v1), (2, .ref (V.2.1 (82 + v2))), (3, .long y3), (5, .int y5)] [] I J) (h : w_X5_countAroundMiddle_96 room Po K17 v1 v2 v3 v5 I J) : gJ X V 0 0 96 [(0, .ref (V.2.1 70)), (1, .int v1), (2, .ref (V.2.1 (82 + v2))), (3, .long v3), (5, .int v5)] [] I J := by
  unfold w_X5_countAroundMiddle_96 at h
  obtain ⟨n9, en9⟩ : ∃ z : Int32, z = v5 + 1 := ⟨_, rfl⟩
  have h := h n9 en9
  refine j_iinc (pc := 96) (v := n9) (lv' := [(5, .int n9), (0, .ref (V.2.1 70)), (1, .int v1), (2, .ref (V.2.1 (82 + v2))), (3, .long v3)]) C dX5_countAroundMiddle_96 4 rfl (by rw [en9]; rfl) (by decide) rfl ?_
  refine j_goto (pc := 99) (tgt := 17) C dX5_countAroundMiddle_99 (by decide) ?_
  refine gJ.sub [1, 2, 3, 4, 0] rfl ?_
  exact hK17 _ _ h
set_option maxRecDepth 100000 in
set_option maxHeartbeats 4000000 in
theorem t_X5_countAroundMiddle_17b {X : gX} {l : Launch} {D : va_G} {cy : Nat → ClassId} {nm : String} {V : gV} {room : Nat} (hTS : gModTS V) (hRG : gModRG room V) (C : gC X cX5_countAroundMiddle RX5 (some .long) 8 rm_X5_countAroundMiddle) (hX : gIs X l D cy nm) {I : gI} {J : gL} {Po : Int64 → gI → gL → Prop} (hR : gR X (gPl V (fun x I' J' => Po x I' J'))) {v1 : Int32} {v2 : Nat} {v3 : Int64} {v5 : Int32} (hv2 : v2 < 4) {K17 : Int64 → Int32 → Prop} (hK17 : ∀ (y3 : Int64) (y5 : Int32), K17 y3 y5 → gJ X V 0 0 17 [(0, .ref (V.2.1 70)), (1, .int v1), (2, .ref (V.2.1 (82 + v2))), (3, .long y3), (5, .int y5)] [] I J) (h : w_X5_countAroundMiddle_17b room Po K17 v1 v2 v3 v5 I J) : gJ X V 0 0 17 [(0, .ref (V.2.1 70)), (1, .int v1), (2, .ref (V.2.1 (82 + v2))), (3, .long v3), (5, .int v5)] [] I J := by
  unfold w_X5_countAroundMiddle_17b at h
  refine j_iload (pc := 17) C dX5_countAroundMiddle_17 4 rfl ?_
  refine j_aload_n (pc := 19) C dX5_countAroundMiddle_19 rfl 0 rfl ?_
  refine j_getI (pc := 20) C 70 13 (c_70 hRG).1 (c_70 hRG).2 rfl rfl (by decide) inw_X5 wd_367 dX5_countAroundMiddle_20 ?_
  refine j_icmp_ge (pc := 23) (tgt := 102) C dX5_countAroundMiddle_23 (by decide) (fun c4 => ?_) (fun c4 => ?_)
  · have h := h.1 c4
    refine j_lload_n (pc := 102) C dX5_countAroundMiddle_102 rfl 3 rfl ?_
    exact j_lret (pc := 103) C hR (Nat.zero_le _) (Nat.zero_le _) dX5_countAroundMiddle_103 ⟨_, rfl, rfl, h⟩
  · have h := h.2 c4
    refine j_aload_n (pc := 26) C dX5_countAroundMiddle_26 rfl 0 rfl ?_
    refine j_getR (pc := 27) C 70 4 73 (c_70 hRG).1 (c_70 hRG).2 rfl rfl (by decide) inw_X5 wd_358 dX5_countAroundMiddle_27 ?_
    refine j_iload (pc := 30) C dX5_countAroundMiddle_30 4 rfl ?_
    obtain ⟨g5, h⟩ := h
    refine j_iald (pc := 32) C 73 (c_73 hRG).1 (c_73 hRG).2 g5 dX5_countAroundMiddle_32 ?_
    refine gJ.topi (fun n6 en6 => ?_)
    have h := h n6 en6
    refine j_istore (pc := 33) (lv' := [(6, .int n6), (0, .ref (V.2.1 70)), (1, .int v1), (2, .ref (V.2.1 (82 + v2))), (3, .long v3), (5, .int v5)]) C dX5_countAroundMiddle_33 (by decide) rfl ?_
    refine j_aload_n (pc := 35) C dX5_countAroundMiddle_35 rfl 1 rfl ?_
    refine j_iload (pc := 36) C dX5_countAroundMiddle_36 5 rfl ?_
    refine j_iconst (pc := 38) (v := 1) C dX5_countAroundMiddle_38 (by decide) ?_
    refine j_callV (pc := 39) (As := [.int v5, .int (1 : Int32)]) (st := []) C hX 70 (m_X5_tileAt hTS hRG  h) (c_70 hRG).1 (c_70 hRG).2 rfl ok_X5_tileAt wd_488 wd_490 wd_13 ⟨by decide, by decide⟩ rfl rfl (Nat.le_of_ble_eq_true rfl) ⟨Nat.le_refl 0, Nat.le_refl 0⟩ dX5_countAroundMiddle_39 (fun r V1 I1 J1 hp => ?_)
    obtain ⟨r7, rfl, rfl, rfl, rfl, h⟩ := hp
    show gJ X V 0 0 42 _ [.int r7] _ _
    refine j_iload_n (pc := 42) C dX5_countAroundMiddle_42 rfl 2 rfl ?_
    refine j_icmp_ne (pc := 43) (tgt := 96) C dX5_countAroundMiddle_43 (by decide) (fun c8 => ?_) (fun c8 => ?_)
    · have h := h.1 c8
      refine gJ.sub [1, 2, 3, 4, 5] rfl ?_
      exact t_X5_countAroundMiddle_96 hTS hRG C hX hR hv2 hK17 h
    · have h := h.2 c8
      refine j_iload (pc := 46) C dX5_countAroundMiddle_46 0 rfl ?_
      refine j_iconst (pc := 48) (v := (-1)) C dX5_countAroundMiddle_48 (by decide) ?_
      refine j_icmp_eq (pc := 49) (tgt := 96) C dX5_countAroundMiddle_49 (by decide) (fun c10 => ?_) (fun c10 => ?_)
      · have h := h.1 c10
        refine gJ.sub [1, 2, 3, 4, 5] rfl ?_
        exact t_X5_countAroundMiddle_96 hTS hRG C hX hR hv2 hK17 h
      · have h := h.2 c10
        refine j_aload_n (pc := 52) C dX5_countAroundMiddle_52 rfl 1 rfl ?_
        refine j_getR (pc := 53) C 70 7 78 (c_70 hRG).1 (c_70 hRG).2 rfl rfl (by decide) inw_X5 wd_361 dX5_countAroundMiddle_53 ?_
        refine j_getR (pc := 56) C 78 0 79 (c_78 hRG).1 (c_78 hRG).2 rfl rfl (by decide) inw_X6 wd_327 dX5_countAroundMiddle_56 ?_
        refine j_iload (pc := 59) C dX5_countAroundMiddle_59 0 rfl ?_
        refine j_iconst (pc := 61) (v := 1) C dX5_countAroundMiddle_61 (by decide) ?_
        refine j_iadd (pc := 62) C dX5_countAroundMiddle_62 ?_
        obtain ⟨g11, h⟩ := h
        refine j_iald (pc := 63) C 79 (c_79 hRG).1 (c_79 hRG).2 g11 dX5_countAroundMiddle_63 ?_
        refine j_aload_n (pc := 64) C dX5_countAroundMiddle_64 rfl 1 rfl ?_
        refine j_getR (pc := 65) C 70 7 78 (c_70 hRG).1 (c_70 hRG).2 rfl rfl (by decide) inw_X5 wd_361 dX5_countAroundMiddle_65 ?_
        refine j_getR (pc := 68) C 78 0 79 (c_78 hRG).1 (c_78 hRG).2 rfl rfl (by decide) inw_X6 wd_327 dX5_countAroundMiddle_68 ?_
        refine j_iload (pc := 71) C dX5_countAroundMiddle_71 0 rfl ?_
        obtain ⟨g12, h⟩ := h
        refine j_iald (pc := 73) C 79 (c_79 hRG).1 (c_79 hRG).2 g12 dX5_countAroundMiddle_73 ?_
        refine j_isub (pc := 74) C dX5_countAroundMiddle_74 ?_
        refine gJ.topi (fun n13 en13 => ?_)
        have h := h n13 en13
        refine j_istore (pc := 75) (lv' := [(7, .int n13), (6, .int n6), (0, .ref (V.2.1 70)), (1, .int v1), (2, .ref (V.2.1 (82 + v2))), (3, .long v3), (5, .int v5)]) C dX5_countAroundMiddle_75 (by decide) rfl ?_
        refine j_lload_n (pc := 77) C dX5_countAroundMiddle_77 rfl 5 rfl ?_
        refine j_iload (pc := 78) C dX5_countAroundMiddle_78 0 rfl ?_
        refine j_i2l (pc := 80) C dX5_countAroundMiddle_80 ?_
        refine j_aload_n (pc := 81) C dX5_countAroundMiddle_81 rfl 4 rfl ?_
        refine j_getR (pc := 82) C (82 + v2) 0 (86 + v2) (f_82 hRG hv2).1 (f_82 hRG hv2).2 rfl rfl (by decide) inw_X7 wd_341 dX5_countAroundMiddle_82 ?_
        refine j_aload_n (pc := 85) C dX5_countAroundMiddle_85 rfl 2 rfl ?_
        refine j_getR (pc := 86) C 70 5 74 (c_70 hRG).1 (c_70 hRG).2 rfl rfl (by decide) inw_X5 wd_359 dX5_countAroundMiddle_86 ?_
        refine j_iload (pc := 89) C dX5_countAroundMiddle_89 6 rfl ?_
        obtain ⟨g14, h⟩ := h
        refine j_iald (pc := 91) C 74 (c_74 hRG).1 (c_74 hRG).2 g14 dX5_countAroundMiddle_91 ?_
        obtain ⟨g15, h⟩ := h
        refine j_lald (pc := 92) C (86 + v2) (f_86 hRG hv2).1 (f_86 hRG hv2).2 g15 dX5_countAroundMiddle_92 ?_
        refine j_lmul (pc := 93) C dX5_countAroundMiddle_93 ?_
        refine j_ladd (pc := 94) C dX5_countAroundMiddle_94 ?_
        refine gJ.topl (fun n16 en16 => ?_)
        have h := h n16 en16
        refine j_lstore_n (pc := 95) (lv' := [(3, .long n16), (7, .int n13), (6, .int n6), (0, .ref (V.2.1 70)), (1, .int v1), (2, .ref (V.2.1 (82 + v2))), (5, .int v5)]) C dX5_countAroundMiddle_95 rfl (by decide) rfl ?_
        refine gJ.sub [3, 4, 5, 0, 6] rfl ?_
        exact t_X5_countAroundMiddle_96 hTS hRG C hX hR hv2 hK17 h
set_option maxRecDepth 100000 in
set_option maxHeartbeats 4000000 in
theorem t_X5_countAroundMiddle_17 {X : gX} {l : Launch} {D : va_G} {cy : Nat → ClassId} {nm : String} {V : gV} {room : Nat} (hTS : gModTS V) (hRG : gModRG room V) (C : gC X cX5_countAroundMiddle RX5 (some .long) 8 rm_X5_countAroundMiddle) (hX : gIs X l D cy nm) {I : gI} {J : gL} {Po : Int64 → gI → gL → Prop} (hR : gR X (gPl V (fun x I' J' => Po x I' J'))) {v1 : Int32} {v2 : Nat} {v3 : Int64} {v5 : Int32} (hv2 : v2 < 4) (h : w_X5_countAroundMiddle_17 room Po v1 v2 v3 v5 I J) : gJ X V 0 0 17 [(0, .ref (V.2.1 70)), (1, .int v1), (2, .ref (V.2.1 (82 + v2))), (3, .long v3), (5, .int v5)] [] I J := by
  unfold w_X5_countAroundMiddle_17 at h
  obtain ⟨Inv, mu, h0, hs⟩ := h
  have key : ∀ (n : Nat) (v3 : Int64) (v5 : Int32), Inv v3 v5 → mu v3 v5 < n → gJ X V 0 0 17 [(0, .ref (V.2.1 70)), (1, .int v1), (2, .ref (V.2.1 (82 + v2))), (3, .long v3), (5, .int v5)] [] I J := by
    intro n
    induction n with
    | zero => intro v3 v5 hi hn; exact absurd hn (Nat.not_lt_zero _)
    | succ n ih =>
      intro v3 v5 hi hn
      exact t_X5_countAroundMiddle_17b hTS hRG C hX hR hv2  (fun u3 u5 hk => ih u3 u5 hk.1 (Nat.lt_of_lt_of_le hk.2 (Nat.le_of_lt_succ hn))) (hs v3 v5 hi)
  exact key _ v3 v5 h0 (Nat.lt_succ_self _)
set_option maxRecDepth 100000 in
set_option maxHeartbeats 4000000 in
theorem m_X5_countAroundMiddle {l : Launch} {D : va_G} {cy : Nat → ClassId} {V : gV} {room : Nat} (hTS : gModTS V) (hRG : gModRG room V) {a1 : Int32} {I : gI} {J : gL} {Po : Int64 → gI → gL → Prop} (h : wp_X5_countAroundMiddle room a1 I J Po) : gMet l D cy yX5_countAroundMiddle cX5_countAroundMiddle 8 (some .long) rm_X5_countAroundMiddle V [.ref (V.2.1 70), .int a1] I J (gPl V (fun x I' J' => Po x I' J')) := by
  refine gMet.of (by decide) (Nat.le_of_ble_eq_true rfl) (fun X hX C hR => ?_)
  have C : gC X cX5_countAroundMiddle RX5 (some .long) 8 rm_X5_countAroundMiddle := C
  show gJ X V 0 0 0 [(0, .ref (V.2.1 70)), (1, .int a1)] [] I J
  unfold wp_X5_countAroundMiddle at h
  refine j_aload_n (pc := 0) C dX5_countAroundMiddle_0 rfl 0 rfl ?_
  refine j_iconst (pc := 1) (v := 1) C dX5_countAroundMiddle_1 (by decide) ?_
  refine j_callV (pc := 2) (As := [.int (1 : Int32)]) (st := []) C hX 70 (m_X5_aimAnywhere hTS hRG  h) (c_70 hRG).1 (c_70 hRG).2 rfl ok_X5_aimAnywhere wd_461 wd_463 wd_10 ⟨by decide, by decide⟩ rfl rfl (Nat.le_of_ble_eq_true rfl) ⟨Nat.le_refl 0, Nat.le_refl 0⟩ dX5_countAroundMiddle_2 (fun r V1 I1 J2 hp => ?_)
  obtain ⟨rfl, rfl, h⟩ := hp
  show gJ X V 0 0 5 _ [] _ _
  refine j_aload_n (pc := 5) C dX5_countAroundMiddle_5 rfl 0 rfl ?_
  refine j_getR (pc := 6) C 70 8 81 (c_70 hRG).1 (c_70 hRG).2 rfl rfl (by decide) inw_X5 wd_362 dX5_countAroundMiddle_6 ?_
  refine j_iconst (pc := 9) (v := 1) C dX5_countAroundMiddle_9 (by decide) ?_
  obtain ⟨g3, h⟩ := h
  refine j_qald (pc := 10) C 81 (82 + ((1 : Int32)).toNatClampNeg) (c_81 hRG).1 (c_81 hRG).2 g3 (gfam_at (vp_in_lt g3)) dX5_countAroundMiddle_10 ?_
  refine j_astore_n (pc := 11) (lv' := [(2, .ref (V.2.1 (82 + ((1 : Int32)).toNatClampNeg))), (0, .ref (V.2.1 70)), (1, .int a1)]) C dX5_countAroundMiddle_11 rfl (by decide) rfl ?_
  refine j_lconst (pc := 12) (v := 0) C dX5_countAroundMiddle_12 (by decide) ?_
  refine j_lstore_n (pc := 13) (lv' := [(3, .long (0 : Int64)), (2, .ref (V.2.1 (82 + ((1 : Int32)).toNatClampNeg))), (0, .ref (V.2.1 70)), (1, .int a1)]) C dX5_countAroundMiddle_13 rfl (by decide) rfl ?_
  refine j_iconst (pc := 14) (v := 0) C dX5_countAroundMiddle_14 (by decide) ?_
  refine j_istore (pc := 15) (lv' := [(5, .int (0 : Int32)), (3, .long (0 : Int64)), (2, .ref (V.2.1 (82 + ((1 : Int32)).toNatClampNeg))), (0, .ref (V.2.1 70)), (1, .int a1)]) C dX5_countAroundMiddle_15 (by decide) rfl ?_
  refine gJ.sub [3, 4, 2, 1, 0] rfl ?_
  exact t_X5_countAroundMiddle_17 hTS hRG C hX hR (vp_in_lt g3)  h
/-! TileRules$RowGraph.firstBelow(II)I -/
abbrev rm_X5_firstBelow : Room := { frames := 0, cells := 0, slots := 0, locals := 0 }
theorem ok_X5_firstBelow : gOk yX5_firstBelow cX5_firstBelow 5 (some .int) 2 := ⟨wd_480, wd_75, by decide +kernel⟩
def w_X5_firstBelow_10b (room : Nat) (Po : Int32 → Prop) (K10 : Int32 → Prop) (v1 : Int32) (v2 : Int32) (v3 : Int32) (I : gI) (J : gL) : Prop :=
  vp_in (v1 + (1 : Int32)) (room + 1) ∧ ((I 76 ((v1 + (1 : Int32))).toNatClampNeg) ≤ v3 → Po (-1 : Int32)) ∧ (¬ (I 76 ((v1 + (1 : Int32))).toNatClampNeg) ≤ v3 → vp_in v3 room ∧ ∀ n6 : Int32, n6 = (I 77 (v3).toNatClampNeg) → vp_in v2 4 ∧ vp_in n6 room ∧ vp_in (I 74 (n6).toNatClampNeg) room ∧ ((lg_cmp (J (86 + (v2).toNatClampNeg) ((I 74 (n6).toNatClampNeg)).toNatClampNeg) (0 : Int64)) ≤ 0 → ∀ n11 : Int32, n11 = v3 + 1 → K10 n11) ∧ (¬ (lg_cmp (J (86 + (v2).toNatClampNeg) ((I 74 (n6).toNatClampNeg)).toNatClampNeg) (0 : Int64)) ≤ 0 → Po n6))
def w_X5_firstBelow_10 (room : Nat) (Po : Int32 → Prop)  (v1 : Int32) (v2 : Int32) (v3 : Int32) (I : gI) (J : gL) : Prop :=
  ∃ (Inv : Int32 → Prop) (mu : Int32 → Nat), Inv v3 ∧ ∀ (v3 : Int32), Inv v3 → w_X5_firstBelow_10b room Po  (fun u3 => Inv u3 ∧ mu u3 < mu v3) v1 v2 v3 I J
def wp_X5_firstBelow (room : Nat) (a1 : Int32) (a2 : Int32) (I : gI) (J : gL) (Po : Int32 → Prop) : Prop :=
  vp_in a1 (room + 1) ∧ ∀ n2 : Int32, n2 = (I 76 (a1).toNatClampNeg) → w_X5_firstBelow_10 room Po a1 a2 n2 I J
set_option maxRecDepth 100000 in
set_option maxHeartbeats 4000000 in
theorem t_X5_firstBelow_10b {X : gX} {l : Launch} {D : va_G} {cy : Nat → ClassId} {nm : String} {V : gV} {room : Nat} (hTS : gModTS V) (hRG : gModRG room V) (C : gC X cX5_firstBelow RX5 (some .int) 5 rm_X5_firstBelow) (hX : gIs X l D cy nm) {I : gI} {J : gL} {Po : Int32 → Prop} (hR : gR X (gPi V (fun x I' J' => I = I' ∧ J = J' ∧ Po x))) {v1 : Int32} {v2 : Int32} {v3 : Int32} {K10 : Int32 → Prop} (hK10 : ∀ (y3 : Int32), K10 y3 → gJ X V 0 0 10 [(0, .ref (V.2.1 70)), (1, .int v1), (2, .int v2), (3, .int y3)] [] I J) (h : w_X5_firstBelow_10b room Po K10 v1 v2 v3 I J) : gJ X V 0 0 10 [(0, .ref (V.2.1 70)), (1, .int v1), (2, .int v2), (3, .int v3)] [] I J := by
  unfold w_X5_firstBelow_10b at h
  refine j_iload_n (pc := 10) C dX5_firstBelow_10 rfl 3 rfl ?_
  refine j_aload_n (pc := 11) C dX5_firstBelow_11 rfl 0 rfl ?_
  refine j_getR (pc := 12) C 70 6 75 (c_70 hRG).1 (c_70 hRG).2 rfl rfl (by decide) inw_X5 wd_360 dX5_firstBelow_12 ?_
  refine j_getR (pc := 15) C 75 0 76 (c_75 hRG).1 (c_75 hRG).2 rfl rfl (by decide) inw_X6 wd_327 dX5_firstBelow_15 ?_
  refine j_iload_n (pc := 18) C dX5_firstBelow_18 rfl 1 rfl ?_
  refine j_iconst (pc := 19) (v := 1) C dX5_firstBelow_19 (by decide) ?_
  refine j_iadd (pc := 20) C dX5_firstBelow_20 ?_
  obtain ⟨g3, h⟩ := h
  refine j_iald (pc := 21) C 76 (c_76 hRG).1 (c_76 hRG).2 g3 dX5_firstBelow_21 ?_
  refine j_icmp_ge (pc := 22) (tgt := 67) C dX5_firstBelow_22 (by decide) (fun c4 => ?_) (fun c4 => ?_)
  · have h := h.1 c4
    refine j_iconst (pc := 67) (v := (-1)) C dX5_firstBelow_67 (by decide) ?_
    exact j_iret (pc := 68) C hR (Nat.zero_le _) (Nat.zero_le _) dX5_firstBelow_68 ⟨_, rfl, rfl, rfl, rfl, h⟩
  · have h := h.2 c4
    refine j_aload_n (pc := 25) C dX5_firstBelow_25 rfl 0 rfl ?_
    refine j_getR (pc := 26) C 70 6 75 (c_70 hRG).1 (c_70 hRG).2 rfl rfl (by decide) inw_X5 wd_360 dX5_firstBelow_26 ?_
    refine j_getR (pc := 29) C 75 1 77 (c_75 hRG).1 (c_75 hRG).2 rfl rfl (by decide) inw_X6 wd_329 dX5_firstBelow_29 ?_
    refine j_iload_n (pc := 32) C dX5_firstBelow_32 rfl 3 rfl ?_
    obtain ⟨g5, h⟩ := h
    refine j_iald (pc := 33) C 77 (c_77 hRG).1 (c_77 hRG).2 g5 dX5_firstBelow_33 ?_
    refine gJ.topi (fun n6 en6 => ?_)
    have h := h n6 en6
    refine j_istore (pc := 34) (lv' := [(4, .int n6), (0, .ref (V.2.1 70)), (1, .int v1), (2, .int v2), (3, .int v3)]) C dX5_firstBelow_34 (by decide) rfl ?_
    refine j_aload_n (pc := 36) C dX5_firstBelow_36 rfl 1 rfl ?_
    refine j_getR (pc := 37) C 70 8 81 (c_70 hRG).1 (c_70 hRG).2 rfl rfl (by decide) inw_X5 wd_362 dX5_firstBelow_37 ?_
    refine j_iload_n (pc := 40) C dX5_firstBelow_40 rfl 3 rfl ?_
    obtain ⟨g7, h⟩ := h
    refine j_qald (pc := 41) C 81 (82 + (v2).toNatClampNeg) (c_81 hRG).1 (c_81 hRG).2 g7 (gfam_at (vp_in_lt g7)) dX5_firstBelow_41 ?_
    refine j_getR (pc := 42) C (82 + (v2).toNatClampNeg) 0 (86 + (v2).toNatClampNeg) (f_82 hRG (vp_in_lt g7)).1 (f_82 hRG (vp_in_lt g7)).2 rfl rfl (by decide) inw_X7 wd_341 dX5_firstBelow_42 ?_
    refine j_aload_n (pc := 45) C dX5_firstBelow_45 rfl 1 rfl ?_
    refine j_getR (pc := 46) C 70 5 74 (c_70 hRG).1 (c_70 hRG).2 rfl rfl (by decide) inw_X5 wd_359 dX5_firstBelow_46 ?_
    refine j_iload (pc := 49) C dX5_firstBelow_49 0 rfl ?_
    obtain ⟨g8, h⟩ := h
    refine j_iald (pc := 51) C 74 (c_74 hRG).1 (c_74 hRG).2 g8 dX5_firstBelow_51 ?_
    obtain ⟨g9, h⟩ := h
    refine j_lald (pc := 52) C (86 + (v2).toNatClampNeg) (f_86 hRG (vp_in_lt g7)).1 (f_86 hRG (vp_in_lt g7)).2 g9 dX5_firstBelow_52 ?_
    refine j_lconst (pc := 53) (v := 0) C dX5_firstBelow_53 (by decide) ?_
    refine j_lcmp (pc := 54) C dX5_firstBelow_54 ?_
    refine j_if_le (pc := 55) (tgt := 61) C dX5_firstBelow_55 (by decide) (fun c10 => ?_) (fun c10 => ?_)
    · have h := h.1 c10
      obtain ⟨n11, en11⟩ : ∃ z : Int32, z = v3 + 1 := ⟨_, rfl⟩
      have h := h n11 en11
      refine j_iinc (pc := 61) (v := n11) (lv' := [(3, .int n11), (4, .int n6), (0, .ref (V.2.1 70)), (1, .int v1), (2, .int v2)]) C dX5_firstBelow_61 4 rfl (by rw [en11]; rfl) (by decide) rfl ?_
      refine j_goto (pc := 64) (tgt := 10) C dX5_firstBelow_64 (by decide) ?_
      refine gJ.sub [2, 3, 4, 0] rfl ?_
      exact hK10 _ h
    · have h := h.2 c10
      refine j_iload (pc := 58) C dX5_firstBelow_58 0 rfl ?_
      exact j_iret (pc := 60) C hR (Nat.zero_le _) (Nat.zero_le _) dX5_firstBelow_60 ⟨_, rfl, rfl, rfl, rfl, h⟩
set_option maxRecDepth 100000 in
set_option maxHeartbeats 4000000 in
theorem t_X5_firstBelow_10 {X : gX} {l : Launch} {D : va_G} {cy : Nat → ClassId} {nm : String} {V : gV} {room : Nat} (hTS : gModTS V) (hRG : gModRG room V) (C : gC X cX5_firstBelow RX5 (some .int) 5 rm_X5_firstBelow) (hX : gIs X l D cy nm) {I : gI} {J : gL} {Po : Int32 → Prop} (hR : gR X (gPi V (fun x I' J' => I = I' ∧ J = J' ∧ Po x))) {v1 : Int32} {v2 : Int32} {v3 : Int32} (h : w_X5_firstBelow_10 room Po v1 v2 v3 I J) : gJ X V 0 0 10 [(0, .ref (V.2.1 70)), (1, .int v1), (2, .int v2), (3, .int v3)] [] I J := by
  unfold w_X5_firstBelow_10 at h
  obtain ⟨Inv, mu, h0, hs⟩ := h
  have key : ∀ (n : Nat) (v3 : Int32), Inv v3 → mu v3 < n → gJ X V 0 0 10 [(0, .ref (V.2.1 70)), (1, .int v1), (2, .int v2), (3, .int v3)] [] I J := by
    intro n
    induction n with
    | zero => intro v3 hi hn; exact absurd hn (Nat.not_lt_zero _)
    | succ n ih =>
      intro v3 hi hn
      exact t_X5_firstBelow_10b hTS hRG C hX hR   (fun u3 hk => ih u3 hk.1 (Nat.lt_of_lt_of_le hk.2 (Nat.le_of_lt_succ hn))) (hs v3 hi)
  exact key _ v3 h0 (Nat.lt_succ_self _)
set_option maxRecDepth 100000 in
set_option maxHeartbeats 4000000 in
theorem m_X5_firstBelow {l : Launch} {D : va_G} {cy : Nat → ClassId} {V : gV} {room : Nat} (hTS : gModTS V) (hRG : gModRG room V) {a1 : Int32} {a2 : Int32} {I : gI} {J : gL} {Po : Int32 → Prop} (h : wp_X5_firstBelow room a1 a2 I J Po) : gMet l D cy yX5_firstBelow cX5_firstBelow 5 (some .int) rm_X5_firstBelow V [.ref (V.2.1 70), .int a1, .int a2] I J (gPi V (fun x I' J' => I = I' ∧ J = J' ∧ Po x)) := by
  refine gMet.of (by decide) (Nat.le_of_ble_eq_true rfl) (fun X hX C hR => ?_)
  have C : gC X cX5_firstBelow RX5 (some .int) 5 rm_X5_firstBelow := C
  show gJ X V 0 0 0 [(0, .ref (V.2.1 70)), (1, .int a1), (2, .int a2)] [] I J
  unfold wp_X5_firstBelow at h
  refine j_aload_n (pc := 0) C dX5_firstBelow_0 rfl 0 rfl ?_
  refine j_getR (pc := 1) C 70 6 75 (c_70 hRG).1 (c_70 hRG).2 rfl rfl (by decide) inw_X5 wd_360 dX5_firstBelow_1 ?_
  refine j_getR (pc := 4) C 75 0 76 (c_75 hRG).1 (c_75 hRG).2 rfl rfl (by decide) inw_X6 wd_327 dX5_firstBelow_4 ?_
  refine j_iload_n (pc := 7) C dX5_firstBelow_7 rfl 1 rfl ?_
  obtain ⟨g1, h⟩ := h
  refine j_iald (pc := 8) C 76 (c_76 hRG).1 (c_76 hRG).2 g1 dX5_firstBelow_8 ?_
  refine gJ.topi (fun n2 en2 => ?_)
  have h := h n2 en2
  refine j_istore_n (pc := 9) (lv' := [(3, .int n2), (0, .ref (V.2.1 70)), (1, .int a1), (2, .int a2)]) C dX5_firstBelow_9 rfl (by decide) rfl ?_
  refine gJ.sub [1, 2, 3, 0] rfl ?_
  exact t_X5_firstBelow_10 hTS hRG C hX hR   h
/-! TileRules$RowGraph.firstOpenRow(I)I -/
abbrev rm_X5_firstOpenRow : Room := { frames := 3, cells := 0, slots := 0, locals := 73 }
theorem ok_X5_firstOpenRow : gOk yX5_firstOpenRow cX5_firstOpenRow 3 (some .int) 1 := ⟨wd_487, wd_75, by decide +kernel⟩
def w_X5_firstOpenRow_9b (room : Nat) (Po : Int32 → gI → gL → Prop) (K9 : Int32 → Prop) (v1 : Int32) (v2 : Int32) (I : gI) (J : gL) : Prop :=
  ((I 70 13) ≤ v2 → Po (-1 : Int32) I J) ∧ (¬ (I 70 13) ≤ v2 → vp_in (v1 - (1 : Int32)) 4 ∧ vp_in v2 room ∧ vp_in (I 74 (v2).toNatClampNeg) room ∧ ((lg_cmp (J (86 + ((v1 - (1 : Int32))).toNatClampNeg) ((I 74 (v2).toNatClampNeg)).toNatClampNeg) (0 : Int64)) ≤ 0 → ∀ n8 : Int32, n8 = v2 + 1 → K9 n8) ∧ (¬ (lg_cmp (J (86 + ((v1 - (1 : Int32))).toNatClampNeg) ((I 74 (v2).toNatClampNeg)).toNatClampNeg) (0 : Int64)) ≤ 0 → Po v2 I J))
def w_X5_firstOpenRow_9 (room : Nat) (Po : Int32 → gI → gL → Prop)  (v1 : Int32) (v2 : Int32) (I : gI) (J : gL) : Prop :=
  ∃ (Inv : Int32 → Prop) (mu : Int32 → Nat), Inv v2 ∧ ∀ (v2 : Int32), Inv v2 → w_X5_firstOpenRow_9b room Po  (fun u2 => Inv u2 ∧ mu u2 < mu v2) v1 v2 I J
def wp_X5_firstOpenRow (room : Nat) (a1 : Int32) (I : gI) (J : gL) (Po : Int32 → gI → gL → Prop) : Prop :=
  wp_X5_aimAnywhere room (a1 - (1 : Int32)) I J (fun I1 J2 => w_X5_firstOpenRow_9 room Po a1 (0 : Int32) I1 J2)
set_option maxRecDepth 100000 in
set_option maxHeartbeats 4000000 in
theorem t_X5_firstOpenRow_9b {X : gX} {l : Launch} {D : va_G} {cy : Nat → ClassId} {nm : String} {V : gV} {room : Nat} (hTS : gModTS V) (hRG : gModRG room V) (C : gC X cX5_firstOpenRow RX5 (some .int) 3 rm_X5_firstOpenRow) (hX : gIs X l D cy nm) {I : gI} {J : gL} {Po : Int32 → gI → gL → Prop} (hR : gR X (gPi V (fun x I' J' => Po x I' J'))) {v1 : Int32} {v2 : Int32} {K9 : Int32 → Prop} (hK9 : ∀ (y2 : Int32), K9 y2 → gJ X V 0 0 9 [(0, .ref (V.2.1 70)), (1, .int v1), (2, .int y2)] [] I J) (h : w_X5_firstOpenRow_9b room Po K9 v1 v2 I J) : gJ X V 0 0 9 [(0, .ref (V.2.1 70)), (1, .int v1), (2, .int v2)] [] I J := by
  unfold w_X5_firstOpenRow_9b at h
  refine j_iload_n (pc := 9) C dX5_firstOpenRow_9 rfl 2 rfl ?_
  refine j_aload_n (pc := 10) C dX5_firstOpenRow_10 rfl 0 rfl ?_
  refine j_getI (pc := 11) C 70 13 (c_70 hRG).1 (c_70 hRG).2 rfl rfl (by decide) inw_X5 wd_367 dX5_firstOpenRow_11 ?_
  refine j_icmp_ge (pc := 14) (tgt := 48) C dX5_firstOpenRow_14 (by decide) (fun c3 => ?_) (fun c3 => ?_)
  · have h := h.1 c3
    refine j_iconst (pc := 48) (v := (-1)) C dX5_firstOpenRow_48 (by decide) ?_
    exact j_iret (pc := 49) C hR (Nat.zero_le _) (Nat.zero_le _) dX5_firstOpenRow_49 ⟨_, rfl, rfl, h⟩
  · have h := h.2 c3
    refine j_aload_n (pc := 17) C dX5_firstOpenRow_17 rfl 0 rfl ?_
    refine j_getR (pc := 18) C 70 8 81 (c_70 hRG).1 (c_70 hRG).2 rfl rfl (by decide) inw_X5 wd_362 dX5_firstOpenRow_18 ?_
    refine j_iload_n (pc := 21) C dX5_firstOpenRow_21 rfl 1 rfl ?_
    refine j_iconst (pc := 22) (v := 1) C dX5_firstOpenRow_22 (by decide) ?_
    refine j_isub (pc := 23) C dX5_firstOpenRow_23 ?_
    obtain ⟨g4, h⟩ := h
    refine j_qald (pc := 24) C 81 (82 + ((v1 - (1 : Int32))).toNatClampNeg) (c_81 hRG).1 (c_81 hRG).2 g4 (gfam_at (vp_in_lt g4)) dX5_firstOpenRow_24 ?_
    refine j_getR (pc := 25) C (82 + ((v1 - (1 : Int32))).toNatClampNeg) 0 (86 + ((v1 - (1 : Int32))).toNatClampNeg) (f_82 hRG (vp_in_lt g4)).1 (f_82 hRG (vp_in_lt g4)).2 rfl rfl (by decide) inw_X7 wd_341 dX5_firstOpenRow_25 ?_
    refine j_aload_n (pc := 28) C dX5_firstOpenRow_28 rfl 0 rfl ?_
    refine j_getR (pc := 29) C 70 5 74 (c_70 hRG).1 (c_70 hRG).2 rfl rfl (by decide) inw_X5 wd_359 dX5_firstOpenRow_29 ?_
    refine j_iload_n (pc := 32) C dX5_firstOpenRow_32 rfl 2 rfl ?_
    obtain ⟨g5, h⟩ := h
    refine j_iald (pc := 33) C 74 (c_74 hRG).1 (c_74 hRG).2 g5 dX5_firstOpenRow_33 ?_
    obtain ⟨g6, h⟩ := h
    refine j_lald (pc := 34) C (86 + ((v1 - (1 : Int32))).toNatClampNeg) (f_86 hRG (vp_in_lt g4)).1 (f_86 hRG (vp_in_lt g4)).2 g6 dX5_firstOpenRow_34 ?_
    refine j_lconst (pc := 35) (v := 0) C dX5_firstOpenRow_35 (by decide) ?_
    refine j_lcmp (pc := 36) C dX5_firstOpenRow_36 ?_
    refine j_if_le (pc := 37) (tgt := 42) C dX5_firstOpenRow_37 (by decide) (fun c7 => ?_) (fun c7 => ?_)
    · have h := h.1 c7
      obtain ⟨n8, en8⟩ : ∃ z : Int32, z = v2 + 1 := ⟨_, rfl⟩
      have h := h n8 en8
      refine j_iinc (pc := 42) (v := n8) (lv' := [(2, .int n8), (0, .ref (V.2.1 70)), (1, .int v1)]) C dX5_firstOpenRow_42 2 rfl (by rw [en8]; rfl) (by decide) rfl ?_
      refine j_goto (pc := 45) (tgt := 9) C dX5_firstOpenRow_45 (by decide) ?_
      refine gJ.sub [1, 2, 0] rfl ?_
      exact hK9 _ h
    · have h := h.2 c7
      refine j_iload_n (pc := 40) C dX5_firstOpenRow_40 rfl 2 rfl ?_
      exact j_iret (pc := 41) C hR (Nat.zero_le _) (Nat.zero_le _) dX5_firstOpenRow_41 ⟨_, rfl, rfl, h⟩
set_option maxRecDepth 100000 in
set_option maxHeartbeats 4000000 in
theorem t_X5_firstOpenRow_9 {X : gX} {l : Launch} {D : va_G} {cy : Nat → ClassId} {nm : String} {V : gV} {room : Nat} (hTS : gModTS V) (hRG : gModRG room V) (C : gC X cX5_firstOpenRow RX5 (some .int) 3 rm_X5_firstOpenRow) (hX : gIs X l D cy nm) {I : gI} {J : gL} {Po : Int32 → gI → gL → Prop} (hR : gR X (gPi V (fun x I' J' => Po x I' J'))) {v1 : Int32} {v2 : Int32} (h : w_X5_firstOpenRow_9 room Po v1 v2 I J) : gJ X V 0 0 9 [(0, .ref (V.2.1 70)), (1, .int v1), (2, .int v2)] [] I J := by
  unfold w_X5_firstOpenRow_9 at h
  obtain ⟨Inv, mu, h0, hs⟩ := h
  have key : ∀ (n : Nat) (v2 : Int32), Inv v2 → mu v2 < n → gJ X V 0 0 9 [(0, .ref (V.2.1 70)), (1, .int v1), (2, .int v2)] [] I J := by
    intro n
    induction n with
    | zero => intro v2 hi hn; exact absurd hn (Nat.not_lt_zero _)
    | succ n ih =>
      intro v2 hi hn
      exact t_X5_firstOpenRow_9b hTS hRG C hX hR   (fun u2 hk => ih u2 hk.1 (Nat.lt_of_lt_of_le hk.2 (Nat.le_of_lt_succ hn))) (hs v2 hi)
  exact key _ v2 h0 (Nat.lt_succ_self _)
set_option maxRecDepth 100000 in
set_option maxHeartbeats 4000000 in
theorem m_X5_firstOpenRow {l : Launch} {D : va_G} {cy : Nat → ClassId} {V : gV} {room : Nat} (hTS : gModTS V) (hRG : gModRG room V) {a1 : Int32} {I : gI} {J : gL} {Po : Int32 → gI → gL → Prop} (h : wp_X5_firstOpenRow room a1 I J Po) : gMet l D cy yX5_firstOpenRow cX5_firstOpenRow 3 (some .int) rm_X5_firstOpenRow V [.ref (V.2.1 70), .int a1] I J (gPi V (fun x I' J' => Po x I' J')) := by
  refine gMet.of (by decide) (Nat.le_of_ble_eq_true rfl) (fun X hX C hR => ?_)
  have C : gC X cX5_firstOpenRow RX5 (some .int) 3 rm_X5_firstOpenRow := C
  show gJ X V 0 0 0 [(0, .ref (V.2.1 70)), (1, .int a1)] [] I J
  unfold wp_X5_firstOpenRow at h
  refine j_aload_n (pc := 0) C dX5_firstOpenRow_0 rfl 0 rfl ?_
  refine j_iload_n (pc := 1) C dX5_firstOpenRow_1 rfl 1 rfl ?_
  refine j_iconst (pc := 2) (v := 1) C dX5_firstOpenRow_2 (by decide) ?_
  refine j_isub (pc := 3) C dX5_firstOpenRow_3 ?_
  refine j_callV (pc := 4) (As := [.int (a1 - (1 : Int32))]) (st := []) C hX 70 (m_X5_aimAnywhere hTS hRG  h) (c_70 hRG).1 (c_70 hRG).2 rfl ok_X5_aimAnywhere wd_461 wd_463 wd_10 ⟨by decide, by decide⟩ rfl rfl (Nat.le_of_ble_eq_true rfl) ⟨Nat.le_refl 0, Nat.le_refl 0⟩ dX5_firstOpenRow_4 (fun r V1 I1 J2 hp => ?_)
  obtain ⟨rfl, rfl, h⟩ := hp
  show gJ X V 0 0 7 _ [] _ _
  refine j_iconst (pc := 7) (v := 0) C dX5_firstOpenRow_7 (by decide) ?_
  refine j_istore_n (pc := 8) (lv' := [(2, .int (0 : Int32)), (0, .ref (V.2.1 70)), (1, .int a1)]) C dX5_firstOpenRow_8 rfl (by decide) rfl ?_
  refine gJ.sub [1, 2, 0] rfl ?_
  exact t_X5_firstOpenRow_9 hTS hRG C hX hR   h
/-! TileRules$RowGraph.firstRingRow(I)I -/
abbrev rm_X5_firstRingRow : Room := { frames := 3, cells := 0, slots := 0, locals := 73 }
theorem ok_X5_firstRingRow : gOk yX5_firstRingRow cX5_firstRingRow 6 (some .int) 1 := ⟨wd_476, wd_75, by decide +kernel⟩
def w_X5_firstRingRow_79 (room : Nat) (Po : Int32 → gI → gL → Prop) (K7 : Int32 → Int32 → gI → gL → Prop) (v1 : Int32) (v2 : Int32) (v3 : Int32) (I : gI) (J : gL) : Prop :=
  ∀ n9 : Int32, n9 = v3 + 1 → K7 v2 n9 I J
def w_X5_firstRingRow_78 (room : Nat) (Po : Int32 → gI → gL → Prop) (K7 : Int32 → Int32 → gI → gL → Prop) (v1 : Int32) (v3 : Int32) (s0 : Int32) (I : gI) (J : gL) : Prop :=
  w_X5_firstRingRow_79 room Po K7 v1 s0 v3 I J
def w_X5_firstRingRow_7b (room : Nat) (Po : Int32 → gI → gL → Prop) (K7 : Int32 → Int32 → gI → gL → Prop) (v1 : Int32) (v2 : Int32) (v3 : Int32) (I : gI) (J : gL) : Prop :=
  (v2 ≤ v3 → ((I 70 13) ≤ v2 → Po (-1 : Int32) I J) ∧ (¬ (I 70 13) ≤ v2 → Po v2 I J)) ∧ (¬ v2 ≤ v3 → vp_in v3 room ∧ ∀ n5 : Int32, n5 = (I 73 (v3).toNatClampNeg) → vp_in n5 (room + 1) ∧ vp_in (I 76 (n5).toNatClampNeg) room ∧ (¬ (I 77 ((I 76 (n5).toNatClampNeg)).toNatClampNeg) = v3 → w_X5_firstRingRow_79 room Po K7 v1 v2 v3 I J) ∧ ((I 77 ((I 76 (n5).toNatClampNeg)).toNatClampNeg) = v3 → wp_X5_aimAt room n5 (v1 - (1 : Int32)) I J (fun I10 J11 => wp_X5_firstBelow room n5 (v1 - (1 : Int32)) I10 J11 (fun r12 => (¬ r12 = (-1 : Int32) → w_X5_firstRingRow_78 room Po K7 v1 v3 (if r12 < v2 then r12 else v2) I10 J11) ∧ (r12 = (-1 : Int32) → w_X5_firstRingRow_78 room Po K7 v1 v3 v2 I10 J11)))))
def w_X5_firstRingRow_7 (room : Nat) (Po : Int32 → gI → gL → Prop)  (v1 : Int32) (v2 : Int32) (v3 : Int32) (I : gI) (J : gL) : Prop :=
  ∃ (Inv : Int32 → Int32 → gI → gL → Prop) (mu : Int32 → Int32 → gI → gL → Nat), Inv v2 v3 I J ∧ ∀ (v2 : Int32) (v3 : Int32) (I : gI) (J : gL), Inv v2 v3 I J → w_X5_firstRingRow_7b room Po  (fun u2 u3 I1 J1 => Inv u2 u3 I1 J1 ∧ mu u2 u3 I1 J1 < mu v2 v3 I J) v1 v2 v3 I J
def wp_X5_firstRingRow (room : Nat) (a1 : Int32) (I : gI) (J : gL) (Po : Int32 → gI → gL → Prop) : Prop :=
  ∀ n1 : Int32, n1 = (I 70 13) → w_X5_firstRingRow_7 room Po a1 n1 (0 : Int32) I J
set_option maxRecDepth 100000 in
set_option maxHeartbeats 4000000 in
theorem t_X5_firstRingRow_79 {X : gX} {l : Launch} {D : va_G} {cy : Nat → ClassId} {nm : String} {V : gV} {room : Nat} (hTS : gModTS V) (hRG : gModRG room V) (C : gC X cX5_firstRingRow RX5 (some .int) 6 rm_X5_firstRingRow) (hX : gIs X l D cy nm) {I : gI} {J : gL} {Po : Int32 → gI → gL → Prop} (hR : gR X (gPi V (fun x I' J' => Po x I' J'))) {v1 : Int32} {v2 : Int32} {v3 : Int32} {K7 : Int32 → Int32 → gI → gL → Prop} (hK7 : ∀ (y2 : Int32) (y3 : Int32) (I1 : gI) (J1 : gL), K7 y2 y3 I1 J1 → gJ X V 0 0 7 [(0, .ref (V.2.1 70)), (1, .int v1), (2, .int y2), (3, .int y3)] [] I1 J1) (h : w_X5_firstRingRow_79 room Po K7 v1 v2 v3 I J) : gJ X V 0 0 79 [(0, .ref (V.2.1 70)), (1, .int v1), (2, .int v2), (3, .int v3)] [] I J := by
  unfold w_X5_firstRingRow_79 at h
  obtain ⟨n9, en9⟩ : ∃ z : Int32, z = v3 + 1 := ⟨_, rfl⟩
  have h := h n9 en9
  refine j_iinc (pc := 79) (v := n9) (lv' := [(3, .int n9), (0, .ref (V.2.1 70)), (1, .int v1), (2, .int v2)]) C dX5_firstRingRow_79 3 rfl (by rw [en9]; rfl) (by decide) rfl ?_
  refine j_goto (pc := 82) (tgt := 7) C dX5_firstRingRow_82 (by decide) ?_
  refine gJ.sub [1, 2, 3, 0] rfl ?_
  exact hK7 _ _ _ _ h
set_option maxRecDepth 100000 in
set_option maxHeartbeats 4000000 in
theorem t_X5_firstRingRow_78 {X : gX} {l : Launch} {D : va_G} {cy : Nat → ClassId} {nm : String} {V : gV} {room : Nat} (hTS : gModTS V) (hRG : gModRG room V) (C : gC X cX5_firstRingRow RX5 (some .int) 6 rm_X5_firstRingRow) (hX : gIs X l D cy nm) {I : gI} {J : gL} {Po : Int32 → gI → gL → Prop} (hR : gR X (gPi V (fun x I' J' => Po x I' J'))) {v1 : Int32} {v3 : Int32} {s0 : Int32} {K7 : Int32 → Int32 → gI → gL → Prop} (hK7 : ∀ (y2 : Int32) (y3 : Int32) (I1 : gI) (J1 : gL), K7 y2 y3 I1 J1 → gJ X V 0 0 7 [(0, .ref (V.2.1 70)), (1, .int v1), (2, .int y2), (3, .int y3)] [] I1 J1) (h : w_X5_firstRingRow_78 room Po K7 v1 v3 s0 I J) : gJ X V 0 0 78 [(0, .ref (V.2.1 70)), (1, .int v1), (3, .int v3)] [.int s0] I J := by
  unfold w_X5_firstRingRow_78 at h
  refine j_istore_n (pc := 78) (lv' := [(2, .int s0), (0, .ref (V.2.1 70)), (1, .int v1), (3, .int v3)]) C dX5_firstRingRow_78 rfl (by decide) rfl ?_
  refine gJ.sub [1, 2, 0, 3] rfl ?_
  exact t_X5_firstRingRow_79 hTS hRG C hX hR  hK7 h
set_option maxRecDepth 100000 in
set_option maxHeartbeats 4000000 in
theorem t_X5_firstRingRow_7b {X : gX} {l : Launch} {D : va_G} {cy : Nat → ClassId} {nm : String} {V : gV} {room : Nat} (hTS : gModTS V) (hRG : gModRG room V) (C : gC X cX5_firstRingRow RX5 (some .int) 6 rm_X5_firstRingRow) (hX : gIs X l D cy nm) {I : gI} {J : gL} {Po : Int32 → gI → gL → Prop} (hR : gR X (gPi V (fun x I' J' => Po x I' J'))) {v1 : Int32} {v2 : Int32} {v3 : Int32} {K7 : Int32 → Int32 → gI → gL → Prop} (hK7 : ∀ (y2 : Int32) (y3 : Int32) (I1 : gI) (J1 : gL), K7 y2 y3 I1 J1 → gJ X V 0 0 7 [(0, .ref (V.2.1 70)), (1, .int v1), (2, .int y2), (3, .int y3)] [] I1 J1) (h : w_X5_firstRingRow_7b room Po K7 v1 v2 v3 I J) : gJ X V 0 0 7 [(0, .ref (V.2.1 70)), (1, .int v1), (2, .int v2), (3, .int v3)] [] I J := by
  unfold w_X5_firstRingRow_7b at h
  refine j_iload_n (pc := 7) C dX5_firstRingRow_7 rfl 3 rfl ?_
  refine j_iload_n (pc := 8) C dX5_firstRingRow_8 rfl 2 rfl ?_
  refine j_icmp_ge (pc := 9) (tgt := 85) C dX5_firstRingRow_9 (by decide) (fun c2 => ?_) (fun c2 => ?_)
  · have h := h.1 c2
    refine j_iload_n (pc := 85) C dX5_firstRingRow_85 rfl 2 rfl ?_
    refine j_aload_n (pc := 86) C dX5_firstRingRow_86 rfl 0 rfl ?_
    refine j_getI (pc := 87) C 70 13 (c_70 hRG).1 (c_70 hRG).2 rfl rfl (by decide) inw_X5 wd_367 dX5_firstRingRow_87 ?_
    refine j_icmp_ge (pc := 90) (tgt := 97) C dX5_firstRingRow_90 (by decide) (fun c3 => ?_) (fun c3 => ?_)
    · have h := h.1 c3
      refine j_iconst (pc := 97) (v := (-1)) C dX5_firstRingRow_97 (by decide) ?_
      exact j_iret (pc := 98) C hR (Nat.zero_le _) (Nat.zero_le _) dX5_firstRingRow_98 ⟨_, rfl, rfl, h⟩
    · have h := h.2 c3
      refine j_iload_n (pc := 93) C dX5_firstRingRow_93 rfl 2 rfl ?_
      refine j_goto (pc := 94) (tgt := 98) C dX5_firstRingRow_94 (by decide) ?_
      exact j_iret (pc := 98) C hR (Nat.zero_le _) (Nat.zero_le _) dX5_firstRingRow_98 ⟨_, rfl, rfl, h⟩
  · have h := h.2 c2
    refine j_aload_n (pc := 12) C dX5_firstRingRow_12 rfl 0 rfl ?_
    refine j_getR (pc := 13) C 70 4 73 (c_70 hRG).1 (c_70 hRG).2 rfl rfl (by decide) inw_X5 wd_358 dX5_firstRingRow_13 ?_
    refine j_iload_n (pc := 16) C dX5_firstRingRow_16 rfl 3 rfl ?_
    obtain ⟨g4, h⟩ := h
    refine j_iald (pc := 17) C 73 (c_73 hRG).1 (c_73 hRG).2 g4 dX5_firstRingRow_17 ?_
    refine gJ.topi (fun n5 en5 => ?_)
    have h := h n5 en5
    refine j_istore (pc := 18) (lv' := [(4, .int n5), (0, .ref (V.2.1 70)), (1, .int v1), (2, .int v2), (3, .int v3)]) C dX5_firstRingRow_18 (by decide) rfl ?_
    refine j_aload_n (pc := 20) C dX5_firstRingRow_20 rfl 1 rfl ?_
    refine j_getR (pc := 21) C 70 6 75 (c_70 hRG).1 (c_70 hRG).2 rfl rfl (by decide) inw_X5 wd_360 dX5_firstRingRow_21 ?_
    refine j_getR (pc := 24) C 75 1 77 (c_75 hRG).1 (c_75 hRG).2 rfl rfl (by decide) inw_X6 wd_329 dX5_firstRingRow_24 ?_
    refine j_aload_n (pc := 27) C dX5_firstRingRow_27 rfl 1 rfl ?_
    refine j_getR (pc := 28) C 70 6 75 (c_70 hRG).1 (c_70 hRG).2 rfl rfl (by decide) inw_X5 wd_360 dX5_firstRingRow_28 ?_
    refine j_getR (pc := 31) C 75 0 76 (c_75 hRG).1 (c_75 hRG).2 rfl rfl (by decide) inw_X6 wd_327 dX5_firstRingRow_31 ?_
    refine j_iload (pc := 34) C dX5_firstRingRow_34 0 rfl ?_
    obtain ⟨g6, h⟩ := h
    refine j_iald (pc := 36) C 76 (c_76 hRG).1 (c_76 hRG).2 g6 dX5_firstRingRow_36 ?_
    obtain ⟨g7, h⟩ := h
    refine j_iald (pc := 37) C 77 (c_77 hRG).1 (c_77 hRG).2 g7 dX5_firstRingRow_37 ?_
    refine j_iload_n (pc := 38) C dX5_firstRingRow_38 rfl 4 rfl ?_
    refine j_icmp_ne (pc := 39) (tgt := 79) C dX5_firstRingRow_39 (by decide) (fun c8 => ?_) (fun c8 => ?_)
    · have h := h.1 c8
      refine gJ.sub [1, 2, 3, 4] rfl ?_
      exact t_X5_firstRingRow_79 hTS hRG C hX hR  hK7 h
    · have h := h.2 c8
      refine j_aload_n (pc := 42) C dX5_firstRingRow_42 rfl 1 rfl ?_
      refine j_iload (pc := 43) C dX5_firstRingRow_43 0 rfl ?_
      refine j_iload_n (pc := 45) C dX5_firstRingRow_45 rfl 2 rfl ?_
      refine j_iconst (pc := 46) (v := 1) C dX5_firstRingRow_46 (by decide) ?_
      refine j_isub (pc := 47) C dX5_firstRingRow_47 ?_
      refine j_callV (pc := 48) (As := [.int n5, .int (v1 - (1 : Int32))]) (st := []) C hX 70 (m_X5_aimAt hTS hRG  h) (c_70 hRG).1 (c_70 hRG).2 rfl ok_X5_aimAt wd_441 wd_443 wd_8 ⟨by decide, by decide⟩ rfl rfl (Nat.le_of_ble_eq_true rfl) ⟨Nat.le_refl 0, Nat.le_refl 0⟩ dX5_firstRingRow_48 (fun r V1 I10 J11 hp => ?_)
      obtain ⟨rfl, rfl, h⟩ := hp
      show gJ X V 0 0 51 _ [] _ _
      refine j_aload_n (pc := 51) C dX5_firstRingRow_51 rfl 1 rfl ?_
      refine j_iload (pc := 52) C dX5_firstRingRow_52 0 rfl ?_
      refine j_iload_n (pc := 54) C dX5_firstRingRow_54 rfl 2 rfl ?_
      refine j_iconst (pc := 55) (v := 1) C dX5_firstRingRow_55 (by decide) ?_
      refine j_isub (pc := 56) C dX5_firstRingRow_56 ?_
      refine j_callV (pc := 57) (As := [.int n5, .int (v1 - (1 : Int32))]) (st := []) C hX 70 (m_X5_firstBelow hTS hRG  h) (c_70 hRG).1 (c_70 hRG).2 rfl ok_X5_firstBelow wd_477 wd_479 wd_11 ⟨by decide, by decide⟩ rfl rfl (Nat.le_of_ble_eq_true rfl) ⟨Nat.le_refl 0, Nat.le_refl 0⟩ dX5_firstRingRow_57 (fun r V1 I1 J1 hp => ?_)
      obtain ⟨r12, rfl, rfl, rfl, rfl, h⟩ := hp
      show gJ X V 0 0 60 _ [.int r12] _ _
      refine j_istore (pc := 60) (lv' := [(5, .int r12), (4, .int n5), (0, .ref (V.2.1 70)), (1, .int v1), (2, .int v2), (3, .int v3)]) C dX5_firstRingRow_60 (by decide) rfl ?_
      refine j_iload (pc := 62) C dX5_firstRingRow_62 0 rfl ?_
      refine j_iconst (pc := 64) (v := (-1)) C dX5_firstRingRow_64 (by decide) ?_
      refine j_icmp_ne (pc := 65) (tgt := 72) C dX5_firstRingRow_65 (by decide) (fun c13 => ?_) (fun c13 => ?_)
      · have h := h.1 c13
        refine j_iload_n (pc := 72) C dX5_firstRingRow_72 rfl 4 rfl ?_
        refine j_iload (pc := 73) C dX5_firstRingRow_73 0 rfl ?_
        refine j_mmin (pc := 75) (st := []) C wd_481 wd_482 wd_79 wd_483 (by decide) (Nat.le_of_ble_eq_true rfl) (Nat.zero_le _) (Nat.zero_le _) dX5_firstRingRow_75 ?_
        refine gJ.sub [2, 3, 5] rfl ?_
        exact t_X5_firstRingRow_78 hTS hRG C hX hR  hK7 h
      · have h := h.2 c13
        refine j_iload_n (pc := 68) C dX5_firstRingRow_68 rfl 4 rfl ?_
        refine j_goto (pc := 69) (tgt := 78) C dX5_firstRingRow_69 (by decide) ?_
        refine gJ.sub [2, 3, 5] rfl ?_
        exact t_X5_firstRingRow_78 hTS hRG C hX hR  hK7 h
set_option maxRecDepth 100000 in
set_option maxHeartbeats 4000000 in
theorem t_X5_firstRingRow_7 {X : gX} {l : Launch} {D : va_G} {cy : Nat → ClassId} {nm : String} {V : gV} {room : Nat} (hTS : gModTS V) (hRG : gModRG room V) (C : gC X cX5_firstRingRow RX5 (some .int) 6 rm_X5_firstRingRow) (hX : gIs X l D cy nm) {I : gI} {J : gL} {Po : Int32 → gI → gL → Prop} (hR : gR X (gPi V (fun x I' J' => Po x I' J'))) {v1 : Int32} {v2 : Int32} {v3 : Int32} (h : w_X5_firstRingRow_7 room Po v1 v2 v3 I J) : gJ X V 0 0 7 [(0, .ref (V.2.1 70)), (1, .int v1), (2, .int v2), (3, .int v3)] [] I J := by
  unfold w_X5_firstRingRow_7 at h
  obtain ⟨Inv, mu, h0, hs⟩ := h
  have key : ∀ (n : Nat) (v2 : Int32) (v3 : Int32) (I : gI) (J : gL), Inv v2 v3 I J → mu v2 v3 I J < n → gJ X V 0 0 7 [(0, .ref (V.2.1 70)), (1, .int v1), (2, .int v2), (3, .int v3)] [] I J := by
    intro n
    induction n with
    | zero => intro v2 v3 I J hi hn; exact absurd hn (Nat.not_lt_zero _)
    | succ n ih =>
      intro v2 v3 I J hi hn
      exact t_X5_firstRingRow_7b hTS hRG C hX hR   (fun u2 u3 I1 J1 hk => ih u2 u3 I1 J1 hk.1 (Nat.lt_of_lt_of_le hk.2 (Nat.le_of_lt_succ hn))) (hs v2 v3 I J hi)
  exact key _ v2 v3 I J h0 (Nat.lt_succ_self _)
set_option maxRecDepth 100000 in
set_option maxHeartbeats 4000000 in
theorem m_X5_firstRingRow {l : Launch} {D : va_G} {cy : Nat → ClassId} {V : gV} {room : Nat} (hTS : gModTS V) (hRG : gModRG room V) {a1 : Int32} {I : gI} {J : gL} {Po : Int32 → gI → gL → Prop} (h : wp_X5_firstRingRow room a1 I J Po) : gMet l D cy yX5_firstRingRow cX5_firstRingRow 6 (some .int) rm_X5_firstRingRow V [.ref (V.2.1 70), .int a1] I J (gPi V (fun x I' J' => Po x I' J')) := by
  refine gMet.of (by decide) (Nat.le_of_ble_eq_true rfl) (fun X hX C hR => ?_)
  have C : gC X cX5_firstRingRow RX5 (some .int) 6 rm_X5_firstRingRow := C
  show gJ X V 0 0 0 [(0, .ref (V.2.1 70)), (1, .int a1)] [] I J
  unfold wp_X5_firstRingRow at h
  refine j_aload_n (pc := 0) C dX5_firstRingRow_0 rfl 0 rfl ?_
  refine j_getI (pc := 1) C 70 13 (c_70 hRG).1 (c_70 hRG).2 rfl rfl (by decide) inw_X5 wd_367 dX5_firstRingRow_1 ?_
  refine gJ.topi (fun n1 en1 => ?_)
  have h := h n1 en1
  refine j_istore_n (pc := 4) (lv' := [(2, .int n1), (0, .ref (V.2.1 70)), (1, .int a1)]) C dX5_firstRingRow_4 rfl (by decide) rfl ?_
  refine j_iconst (pc := 5) (v := 0) C dX5_firstRingRow_5 (by decide) ?_
  refine j_istore_n (pc := 6) (lv' := [(3, .int (0 : Int32)), (2, .int n1), (0, .ref (V.2.1 70)), (1, .int a1)]) C dX5_firstRingRow_6 rfl (by decide) rfl ?_
  refine gJ.sub [2, 3, 1, 0] rfl ?_
  exact t_X5_firstRingRow_7 hTS hRG C hX hR   h
/-! TileRules$RowGraph.firstTileAt(III)I -/
abbrev rm_X5_firstTileAt : Room := { frames := 4, cells := 0, slots := 0, locals := 98 }
theorem ok_X5_firstTileAt : gOk yX5_firstTileAt cX5_firstTileAt 6 (some .int) 3 := ⟨wd_472, wd_75, by decide +kernel⟩
def w_X5_firstTileAt_91 (room : Nat) (Po : Int32 → gI → gL → Prop)  (v2 : Int32) (v4 : Int32) (I : gI) (J : gL) : Prop :=
  (¬ v4 = (-1 : Int32) → wp_X5_tileAt room v4 v2 I (fun r9 => Po r9 I J)) ∧ (v4 = (-1 : Int32) → Po (-1 : Int32) I J)
def w_X5_firstTileAt_54b (room : Nat) (Po : Int32 → gI → gL → Prop) (K54 : Int32 → Int32 → Prop) (v1 : Int32) (v2 : Int32) (v3 : Int32) (v4 : Int32) (v5 : Int32) (I : gI) (J : gL) : Prop :=
  (v3 < v5 → w_X5_firstTileAt_91 room Po v2 v4 I J) ∧ (¬ v3 < v5 → (v4 = (-1 : Int32) → w_X5_firstTileAt_91 room Po v2 v4 I J) ∧ (¬ v4 = (-1 : Int32) → vp_in v4 room ∧ wp_X5_firstBelow room (I 74 (v4).toNatClampNeg) ((v1 - (1 : Int32)) - v5) I J (fun r12 => ∀ n13 : Int32, n13 = v5 + 1 → K54 r12 n13)))
def w_X5_firstTileAt_54 (room : Nat) (Po : Int32 → gI → gL → Prop)  (v1 : Int32) (v2 : Int32) (v3 : Int32) (v4 : Int32) (v5 : Int32) (I : gI) (J : gL) : Prop :=
  ∃ (Inv : Int32 → Int32 → Prop) (mu : Int32 → Int32 → Nat), Inv v4 v5 ∧ ∀ (v4 : Int32) (v5 : Int32), Inv v4 v5 → w_X5_firstTileAt_54b room Po  (fun u4 u5 => Inv u4 u5 ∧ mu u4 u5 < mu v4 v5) v1 v2 v3 v4 v5 I J
def w_X5_firstTileAt_51 (room : Nat) (Po : Int32 → gI → gL → Prop)  (v1 : Int32) (v2 : Int32) (v3 : Int32) (v4 : Int32) (I : gI) (J : gL) : Prop :=
  w_X5_firstTileAt_54 room Po v1 v2 v3 v4 (1 : Int32) I J
def w_X5_firstTileAt_20 (room : Nat) (Po : Int32 → gI → gL → Prop)  (v1 : Int32) (v2 : Int32) (v3 : Int32) (s0 : Int32) (I : gI) (J : gL) : Prop :=
  (¬ s0 = (-1 : Int32) → ((I 70 10) = 0 → w_X5_firstTileAt_51 room Po v1 v2 v3 s0 I J) ∧ (¬ (I 70 10) = 0 → vp_in s0 room ∧ wp_X5_aimAt room (I 73 (s0).toNatClampNeg) (v1 - (1 : Int32)) I J (fun I15 J16 => w_X5_firstTileAt_51 room Po v1 v2 v3 s0 I15 J16))) ∧ (s0 = (-1 : Int32) → Po (-1 : Int32) I J)
def wp_X5_firstTileAt (room : Nat) (a1 : Int32) (a2 : Int32) (a3 : Int32) (I : gI) (J : gL) (Po : Int32 → gI → gL → Prop) : Prop :=
  ((I 70 10) = 0 → wp_X5_firstOpenRow room a1 I J (fun r2 I3 J4 => w_X5_firstTileAt_20 room Po a1 a2 a3 r2 I3 J4)) ∧ (¬ (I 70 10) = 0 → wp_X5_firstRingRow room a1 I J (fun r17 I18 J19 => w_X5_firstTileAt_20 room Po a1 a2 a3 r17 I18 J19))
set_option maxRecDepth 100000 in
set_option maxHeartbeats 4000000 in
theorem t_X5_firstTileAt_91 {X : gX} {l : Launch} {D : va_G} {cy : Nat → ClassId} {nm : String} {V : gV} {room : Nat} (hTS : gModTS V) (hRG : gModRG room V) (C : gC X cX5_firstTileAt RX5 (some .int) 6 rm_X5_firstTileAt) (hX : gIs X l D cy nm) {I : gI} {J : gL} {Po : Int32 → gI → gL → Prop} (hR : gR X (gPi V (fun x I' J' => Po x I' J'))) {v2 : Int32} {v4 : Int32} (h : w_X5_firstTileAt_91 room Po v2 v4 I J) : gJ X V 0 0 91 [(0, .ref (V.2.1 70)), (2, .int v2), (4, .int v4)] [] I J := by
  unfold w_X5_firstTileAt_91 at h
  refine j_iload (pc := 91) C dX5_firstTileAt_91 2 rfl ?_
  refine j_iconst (pc := 93) (v := (-1)) C dX5_firstTileAt_93 (by decide) ?_
  refine j_icmp_ne (pc := 94) (tgt := 101) C dX5_firstTileAt_94 (by decide) (fun c8 => ?_) (fun c8 => ?_)
  · have h := h.1 c8
    refine j_aload_n (pc := 101) C dX5_firstTileAt_101 rfl 0 rfl ?_
    refine j_iload (pc := 102) C dX5_firstTileAt_102 2 rfl ?_
    refine j_iload_n (pc := 104) C dX5_firstTileAt_104 rfl 1 rfl ?_
    refine j_callV (pc := 105) (As := [.int v4, .int v2]) (st := []) C hX 70 (m_X5_tileAt hTS hRG  h) (c_70 hRG).1 (c_70 hRG).2 rfl ok_X5_tileAt wd_488 wd_490 wd_13 ⟨by decide, by decide⟩ rfl rfl (Nat.le_of_ble_eq_true rfl) ⟨Nat.le_refl 0, Nat.le_refl 0⟩ dX5_firstTileAt_105 (fun r V1 I1 J1 hp => ?_)
    obtain ⟨r9, rfl, rfl, rfl, rfl, h⟩ := hp
    show gJ X V 0 0 108 _ [.int r9] _ _
    exact j_iret (pc := 108) C hR (Nat.zero_le _) (Nat.zero_le _) dX5_firstTileAt_108 ⟨_, rfl, rfl, h⟩
  · have h := h.2 c8
    refine j_iconst (pc := 97) (v := (-1)) C dX5_firstTileAt_97 (by decide) ?_
    refine j_goto (pc := 98) (tgt := 108) C dX5_firstTileAt_98 (by decide) ?_
    exact j_iret (pc := 108) C hR (Nat.zero_le _) (Nat.zero_le _) dX5_firstTileAt_108 ⟨_, rfl, rfl, h⟩
set_option maxRecDepth 100000 in
set_option maxHeartbeats 4000000 in
theorem t_X5_firstTileAt_54b {X : gX} {l : Launch} {D : va_G} {cy : Nat → ClassId} {nm : String} {V : gV} {room : Nat} (hTS : gModTS V) (hRG : gModRG room V) (C : gC X cX5_firstTileAt RX5 (some .int) 6 rm_X5_firstTileAt) (hX : gIs X l D cy nm) {I : gI} {J : gL} {Po : Int32 → gI → gL → Prop} (hR : gR X (gPi V (fun x I' J' => Po x I' J'))) {v1 : Int32} {v2 : Int32} {v3 : Int32} {v4 : Int32} {v5 : Int32} {K54 : Int32 → Int32 → Prop} (hK54 : ∀ (y4 : Int32) (y5 : Int32), K54 y4 y5 → gJ X V 0 0 54 [(0, .ref (V.2.1 70)), (1, .int v1), (2, .int v2), (3, .int v3), (4, .int y4), (5, .int y5)] [] I J) (h : w_X5_firstTileAt_54b room Po K54 v1 v2 v3 v4 v5 I J) : gJ X V 0 0 54 [(0, .ref (V.2.1 70)), (1, .int v1), (2, .int v2), (3, .int v3), (4, .int v4), (5, .int v5)] [] I J := by
  unfold w_X5_firstTileAt_54b at h
  refine j_iload (pc := 54) C dX5_firstTileAt_54 5 rfl ?_
  refine j_iload_n (pc := 56) C dX5_firstTileAt_56 rfl 3 rfl ?_
  refine j_icmp_gt (pc := 57) (tgt := 91) C dX5_firstTileAt_57 (by decide) (fun c7 => ?_) (fun c7 => ?_)
  · have h := h.1 c7
    refine gJ.sub [0, 2, 4] rfl ?_
    exact t_X5_firstTileAt_91 hTS hRG C hX hR   h
  · have h := h.2 c7
    refine j_iload (pc := 60) C dX5_firstTileAt_60 4 rfl ?_
    refine j_iconst (pc := 62) (v := (-1)) C dX5_firstTileAt_62 (by decide) ?_
    refine j_icmp_eq (pc := 63) (tgt := 91) C dX5_firstTileAt_63 (by decide) (fun c10 => ?_) (fun c10 => ?_)
    · have h := h.1 c10
      refine gJ.sub [0, 2, 4] rfl ?_
      exact t_X5_firstTileAt_91 hTS hRG C hX hR   h
    · have h := h.2 c10
      refine j_aload_n (pc := 66) C dX5_firstTileAt_66 rfl 0 rfl ?_
      refine j_aload_n (pc := 67) C dX5_firstTileAt_67 rfl 0 rfl ?_
      refine j_getR (pc := 68) C 70 5 74 (c_70 hRG).1 (c_70 hRG).2 rfl rfl (by decide) inw_X5 wd_359 dX5_firstTileAt_68 ?_
      refine j_iload (pc := 71) C dX5_firstTileAt_71 4 rfl ?_
      obtain ⟨g11, h⟩ := h
      refine j_iald (pc := 73) C 74 (c_74 hRG).1 (c_74 hRG).2 g11 dX5_firstTileAt_73 ?_
      refine j_iload_n (pc := 74) C dX5_firstTileAt_74 rfl 1 rfl ?_
      refine j_iconst (pc := 75) (v := 1) C dX5_firstTileAt_75 (by decide) ?_
      refine j_isub (pc := 76) C dX5_firstTileAt_76 ?_
      refine j_iload (pc := 77) C dX5_firstTileAt_77 5 rfl ?_
      refine j_isub (pc := 79) C dX5_firstTileAt_79 ?_
      refine j_callV (pc := 80) (As := [.int (I 74 (v4).toNatClampNeg), .int ((v1 - (1 : Int32)) - v5)]) (st := []) C hX 70 (m_X5_firstBelow hTS hRG  h) (c_70 hRG).1 (c_70 hRG).2 rfl ok_X5_firstBelow wd_477 wd_479 wd_11 ⟨by decide, by decide⟩ rfl rfl (Nat.le_of_ble_eq_true rfl) ⟨Nat.le_refl 0, Nat.le_refl 0⟩ dX5_firstTileAt_80 (fun r V1 I1 J1 hp => ?_)
      obtain ⟨r12, rfl, rfl, rfl, rfl, h⟩ := hp
      show gJ X V 0 0 83 _ [.int r12] _ _
      refine j_istore (pc := 83) (lv' := [(4, .int r12), (0, .ref (V.2.1 70)), (1, .int v1), (2, .int v2), (3, .int v3), (5, .int v5)]) C dX5_firstTileAt_83 (by decide) rfl ?_
      obtain ⟨n13, en13⟩ : ∃ z : Int32, z = v5 + 1 := ⟨_, rfl⟩
      have h := h n13 en13
      refine j_iinc (pc := 85) (v := n13) (lv' := [(5, .int n13), (4, .int r12), (0, .ref (V.2.1 70)), (1, .int v1), (2, .int v2), (3, .int v3)]) C dX5_firstTileAt_85 5 rfl (by rw [en13]; rfl) (by decide) rfl ?_
      refine j_goto (pc := 88) (tgt := 54) C dX5_firstTileAt_88 (by decide) ?_
      refine gJ.sub [2, 3, 4, 5, 1, 0] rfl ?_
      exact hK54 _ _ h
set_option maxRecDepth 100000 in
set_option maxHeartbeats 4000000 in
theorem t_X5_firstTileAt_54 {X : gX} {l : Launch} {D : va_G} {cy : Nat → ClassId} {nm : String} {V : gV} {room : Nat} (hTS : gModTS V) (hRG : gModRG room V) (C : gC X cX5_firstTileAt RX5 (some .int) 6 rm_X5_firstTileAt) (hX : gIs X l D cy nm) {I : gI} {J : gL} {Po : Int32 → gI → gL → Prop} (hR : gR X (gPi V (fun x I' J' => Po x I' J'))) {v1 : Int32} {v2 : Int32} {v3 : Int32} {v4 : Int32} {v5 : Int32} (h : w_X5_firstTileAt_54 room Po v1 v2 v3 v4 v5 I J) : gJ X V 0 0 54 [(0, .ref (V.2.1 70)), (1, .int v1), (2, .int v2), (3, .int v3), (4, .int v4), (5, .int v5)] [] I J := by
  unfold w_X5_firstTileAt_54 at h
  obtain ⟨Inv, mu, h0, hs⟩ := h
  have key : ∀ (n : Nat) (v4 : Int32) (v5 : Int32), Inv v4 v5 → mu v4 v5 < n → gJ X V 0 0 54 [(0, .ref (V.2.1 70)), (1, .int v1), (2, .int v2), (3, .int v3), (4, .int v4), (5, .int v5)] [] I J := by
    intro n
    induction n with
    | zero => intro v4 v5 hi hn; exact absurd hn (Nat.not_lt_zero _)
    | succ n ih =>
      intro v4 v5 hi hn
      exact t_X5_firstTileAt_54b hTS hRG C hX hR   (fun u4 u5 hk => ih u4 u5 hk.1 (Nat.lt_of_lt_of_le hk.2 (Nat.le_of_lt_succ hn))) (hs v4 v5 hi)
  exact key _ v4 v5 h0 (Nat.lt_succ_self _)
set_option maxRecDepth 100000 in
set_option maxHeartbeats 4000000 in
theorem t_X5_firstTileAt_51 {X : gX} {l : Launch} {D : va_G} {cy : Nat → ClassId} {nm : String} {V : gV} {room : Nat} (hTS : gModTS V) (hRG : gModRG room V) (C : gC X cX5_firstTileAt RX5 (some .int) 6 rm_X5_firstTileAt) (hX : gIs X l D cy nm) {I : gI} {J : gL} {Po : Int32 → gI → gL → Prop} (hR : gR X (gPi V (fun x I' J' => Po x I' J'))) {v1 : Int32} {v2 : Int32} {v3 : Int32} {v4 : Int32} (h : w_X5_firstTileAt_51 room Po v1 v2 v3 v4 I J) : gJ X V 0 0 51 [(0, .ref (V.2.1 70)), (1, .int v1), (2, .int v2), (3, .int v3), (4, .int v4)] [] I J := by
  unfold w_X5_firstTileAt_51 at h
  refine j_iconst (pc := 51) (v := 1) C dX5_firstTileAt_51 (by decide) ?_
  refine j_istore (pc := 52) (lv' := [(5, .int (1 : Int32)), (0, .ref (V.2.1 70)), (1, .int v1), (2, .int v2), (3, .int v3), (4, .int v4)]) C dX5_firstTileAt_52 (by decide) rfl ?_
  refine gJ.sub [1, 2, 3, 4, 5, 0] rfl ?_
  exact t_X5_firstTileAt_54 hTS hRG C hX hR   h
set_option maxRecDepth 100000 in
set_option maxHeartbeats 4000000 in
theorem t_X5_firstTileAt_20 {X : gX} {l : Launch} {D : va_G} {cy : Nat → ClassId} {nm : String} {V : gV} {room : Nat} (hTS : gModTS V) (hRG : gModRG room V) (C : gC X cX5_firstTileAt RX5 (some .int) 6 rm_X5_firstTileAt) (hX : gIs X l D cy nm) {I : gI} {J : gL} {Po : Int32 → gI → gL → Prop} (hR : gR X (gPi V (fun x I' J' => Po x I' J'))) {v1 : Int32} {v2 : Int32} {v3 : Int32} {s0 : Int32} (h : w_X5_firstTileAt_20 room Po v1 v2 v3 s0 I J) : gJ X V 0 0 20 [(0, .ref (V.2.1 70)), (1, .int v1), (2, .int v2), (3, .int v3)] [.int s0] I J := by
  unfold w_X5_firstTileAt_20 at h
  refine j_istore (pc := 20) (lv' := [(4, .int s0), (0, .ref (V.2.1 70)), (1, .int v1), (2, .int v2), (3, .int v3)]) C dX5_firstTileAt_20 (by decide) rfl ?_
  refine j_iload (pc := 22) C dX5_firstTileAt_22 0 rfl ?_
  refine j_iconst (pc := 24) (v := (-1)) C dX5_firstTileAt_24 (by decide) ?_
  refine j_icmp_ne (pc := 25) (tgt := 30) C dX5_firstTileAt_25 (by decide) (fun c5 => ?_) (fun c5 => ?_)
  · have h := h.1 c5
    refine j_aload_n (pc := 30) C dX5_firstTileAt_30 rfl 1 rfl ?_
    refine j_getI (pc := 31) C 70 10 (c_70 hRG).1 (c_70 hRG).2 rfl rfl (by decide) inw_X5 wd_364 dX5_firstTileAt_31 ?_
    refine j_if_eq (pc := 34) (tgt := 51) C dX5_firstTileAt_34 (by decide) (fun c6 => ?_) (fun c6 => ?_)
    · have h := h.1 c6
      refine gJ.sub [1, 2, 3, 4, 0] rfl ?_
      exact t_X5_firstTileAt_51 hTS hRG C hX hR   h
    · have h := h.2 c6
      refine j_aload_n (pc := 37) C dX5_firstTileAt_37 rfl 1 rfl ?_
      refine j_aload_n (pc := 38) C dX5_firstTileAt_38 rfl 1 rfl ?_
      refine j_getR (pc := 39) C 70 4 73 (c_70 hRG).1 (c_70 hRG).2 rfl rfl (by decide) inw_X5 wd_358 dX5_firstTileAt_39 ?_
      refine j_iload (pc := 42) C dX5_firstTileAt_42 0 rfl ?_
      obtain ⟨g14, h⟩ := h
      refine j_iald (pc := 44) C 73 (c_73 hRG).1 (c_73 hRG).2 g14 dX5_firstTileAt_44 ?_
      refine j_iload_n (pc := 45) C dX5_firstTileAt_45 rfl 2 rfl ?_
      refine j_iconst (pc := 46) (v := 1) C dX5_firstTileAt_46 (by decide) ?_
      refine j_isub (pc := 47) C dX5_firstTileAt_47 ?_
      refine j_callV (pc := 48) (As := [.int (I 73 (s0).toNatClampNeg), .int (v1 - (1 : Int32))]) (st := []) C hX 70 (m_X5_aimAt hTS hRG  h) (c_70 hRG).1 (c_70 hRG).2 rfl ok_X5_aimAt wd_441 wd_443 wd_8 ⟨by decide, by decide⟩ rfl rfl (Nat.le_of_ble_eq_true rfl) ⟨Nat.le_refl 0, Nat.le_refl 0⟩ dX5_firstTileAt_48 (fun r V1 I15 J16 hp => ?_)
      obtain ⟨rfl, rfl, h⟩ := hp
      show gJ X V 0 0 51 _ [] _ _
      refine gJ.sub [1, 2, 3, 4, 0] rfl ?_
      exact t_X5_firstTileAt_51 hTS hRG C hX hR   h
  · have h := h.2 c5
    refine j_iconst (pc := 28) (v := (-1)) C dX5_firstTileAt_28 (by decide) ?_
    exact j_iret (pc := 29) C hR (Nat.zero_le _) (Nat.zero_le _) dX5_firstTileAt_29 ⟨_, rfl, rfl, h⟩
set_option maxRecDepth 100000 in
set_option maxHeartbeats 4000000 in
theorem m_X5_firstTileAt {l : Launch} {D : va_G} {cy : Nat → ClassId} {V : gV} {room : Nat} (hTS : gModTS V) (hRG : gModRG room V) {a1 : Int32} {a2 : Int32} {a3 : Int32} {I : gI} {J : gL} {Po : Int32 → gI → gL → Prop} (h : wp_X5_firstTileAt room a1 a2 a3 I J Po) : gMet l D cy yX5_firstTileAt cX5_firstTileAt 6 (some .int) rm_X5_firstTileAt V [.ref (V.2.1 70), .int a1, .int a2, .int a3] I J (gPi V (fun x I' J' => Po x I' J')) := by
  refine gMet.of (by decide) (Nat.le_of_ble_eq_true rfl) (fun X hX C hR => ?_)
  have C : gC X cX5_firstTileAt RX5 (some .int) 6 rm_X5_firstTileAt := C
  show gJ X V 0 0 0 [(0, .ref (V.2.1 70)), (1, .int a1), (2, .int a2), (3, .int a3)] [] I J
  unfold wp_X5_firstTileAt at h
  refine j_aload_n (pc := 0) C dX5_firstTileAt_0 rfl 0 rfl ?_
  refine j_getI (pc := 1) C 70 10 (c_70 hRG).1 (c_70 hRG).2 rfl rfl (by decide) inw_X5 wd_364 dX5_firstTileAt_1 ?_
  refine j_if_eq (pc := 4) (tgt := 15) C dX5_firstTileAt_4 (by decide) (fun c1 => ?_) (fun c1 => ?_)
  · have h := h.1 c1
    refine j_aload_n (pc := 15) C dX5_firstTileAt_15 rfl 0 rfl ?_
    refine j_iload_n (pc := 16) C dX5_firstTileAt_16 rfl 1 rfl ?_
    refine j_callV (pc := 17) (As := [.int a1]) (st := []) C hX 70 (m_X5_firstOpenRow hTS hRG  h) (c_70 hRG).1 (c_70 hRG).2 rfl ok_X5_firstOpenRow wd_484 wd_486 wd_12 ⟨by decide, by decide⟩ rfl rfl (Nat.le_of_ble_eq_true rfl) ⟨Nat.le_refl 0, Nat.le_refl 0⟩ dX5_firstTileAt_17 (fun r V1 I3 J4 hp => ?_)
    obtain ⟨r2, rfl, rfl, h⟩ := hp
    show gJ X V 0 0 20 _ [.int r2] _ _
    refine gJ.sub [0, 1, 2, 3] rfl ?_
    exact t_X5_firstTileAt_20 hTS hRG C hX hR   h
  · have h := h.2 c1
    refine j_aload_n (pc := 7) C dX5_firstTileAt_7 rfl 0 rfl ?_
    refine j_iload_n (pc := 8) C dX5_firstTileAt_8 rfl 1 rfl ?_
    refine j_callV (pc := 9) (As := [.int a1]) (st := []) C hX 70 (m_X5_firstRingRow hTS hRG  h) (c_70 hRG).1 (c_70 hRG).2 rfl ok_X5_firstRingRow wd_473 wd_474 wd_475 ⟨by decide, by decide⟩ rfl rfl (Nat.le_of_ble_eq_true rfl) ⟨Nat.le_refl 0, Nat.le_refl 0⟩ dX5_firstTileAt_9 (fun r V1 I18 J19 hp => ?_)
    obtain ⟨r17, rfl, rfl, h⟩ := hp
    show gJ X V 0 0 12 _ [.int r17] _ _
    refine j_goto (pc := 12) (tgt := 20) C dX5_firstTileAt_12 (by decide) ?_
    refine gJ.sub [0, 1, 2, 3] rfl ?_
    exact t_X5_firstTileAt_20 hTS hRG C hX hR   h
