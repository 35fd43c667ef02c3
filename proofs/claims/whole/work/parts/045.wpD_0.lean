/-! TileRules$CoverSearch.addUpAreas()V -/
abbrev rm_X2_addUpAreas : Room := { frames := 2, cells := 0, slots := 0, locals := 41 }
theorem ok_X2_addUpAreas : gOk yX2_addUpAreas cX2_addUpAreas 4 none 0 := ⟨wd_656, wd_81, by decide +kernel⟩
def w_X2_addUpAreas_16b  (Po : gI → Prop) (K16 : Int32 → gI → Prop) (v1 : Int32) (I : gI) : Prop :=
  ((I 94 7) < v1 → Po I) ∧ (¬ (I 94 7) < v1 → ∀ n6 : Int32, n6 = (v1 &&& (v1 - (1 : Int32))) → wp_J6_numberOfTrailingZeros_0f7a4 v1 (fun r7 => wp_X4_pieceSize r7 I (fun r8 => vp_in n6 64 ∧ vp_in v1 64 ∧ ∀ I11 : gI, I11 = gup I 97 (v1).toNatClampNeg ((I 97 (n6).toNatClampNeg) + r8) → vp_in n6 64 ∧ vp_in n6 64 ∧ vp_in v1 64 ∧ ∀ I15 : gI, I15 = gup I11 98 (v1).toNatClampNeg ((I11 98 (n6).toNatClampNeg) ||| ((I11 98 (n6).toNatClampNeg) <<< (r8 &&& 31))) → ∀ n16 : Int32, n16 = v1 + 1 → K16 n16 I15)))
def w_X2_addUpAreas_16  (Po : gI → Prop)  (v1 : Int32) (I : gI) : Prop :=
  ∃ (Inv : Int32 → gI → Prop) (mu : Int32 → gI → Nat), Inv v1 I ∧ ∀ (v1 : Int32) (I : gI), Inv v1 I → w_X2_addUpAreas_16b  Po  (fun u1 I1 => Inv u1 I1 ∧ mu u1 I1 < mu v1 I) v1 I
def wp_X2_addUpAreas (I : gI) (Po : gI → Prop) : Prop :=
  vp_in (0 : Int32) 64 ∧ ∀ I2 : gI, I2 = gup I 97 ((0 : Int32)).toNatClampNeg (0 : Int32) → vp_in (0 : Int32) 64 ∧ ∀ I4 : gI, I4 = gup I2 98 ((0 : Int32)).toNatClampNeg (1 : Int32) → w_X2_addUpAreas_16 Po (1 : Int32) I4
set_option maxRecDepth 100000 in
set_option maxHeartbeats 4000000 in
theorem t_X2_addUpAreas_16b {X : gX} {l : Launch} {D : va_G} {cy : Nat → ClassId} {nm : String} {V : gV} (hJG : gModJG V) (hCV : gModCV V) (C : gC X cX2_addUpAreas RX2 none 4 rm_X2_addUpAreas) (hX : gIs X l D cy nm) {I : gI} {J : gL} {Po : gI → Prop} (hR : gR X (gPv V (fun I' J' => J = J' ∧ Po I'))) {v1 : Int32} {K16 : Int32 → gI → Prop} (hK16 : ∀ (y1 : Int32) (I1 : gI), K16 y1 I1 → gJ X V 0 0 16 [(0, .ref (V.2.1 94)), (1, .int y1)] [] I1 J) (h : w_X2_addUpAreas_16b Po K16 v1 I) : gJ X V 0 0 16 [(0, .ref (V.2.1 94)), (1, .int v1)] [] I J := by
  unfold w_X2_addUpAreas_16b at h
  refine j_iload_n (pc := 16) C dX2_addUpAreas_16 rfl 1 rfl ?_
  refine j_aload_n (pc := 17) C dX2_addUpAreas_17 rfl 0 rfl ?_
  refine j_getI (pc := 18) C 94 7 (c_94 hCV).1 (c_94 hCV).2 rfl rfl (by decide) inw_X2 wd_622 dX2_addUpAreas_18 ?_
  refine j_icmp_gt (pc := 21) (tgt := 83) C dX2_addUpAreas_21 (by decide) (fun c5 => ?_) (fun c5 => ?_)
  · have h := h.1 c5
    exact j_vret (pc := 83) C hR (Nat.zero_le _) (Nat.zero_le _) dX2_addUpAreas_83 ⟨rfl, rfl, rfl, h⟩
  · have h := h.2 c5
    refine j_iload_n (pc := 24) C dX2_addUpAreas_24 rfl 1 rfl ?_
    refine j_iload_n (pc := 25) C dX2_addUpAreas_25 rfl 1 rfl ?_
    refine j_iconst (pc := 26) (v := 1) C dX2_addUpAreas_26 (by decide) ?_
    refine j_isub (pc := 27) C dX2_addUpAreas_27 ?_
    refine j_iand (pc := 28) C dX2_addUpAreas_28 ?_
    refine gJ.topi (fun n6 en6 => ?_)
    have h := h n6 en6
    refine j_istore_n (pc := 29) (lv' := [(2, .int n6), (0, .ref (V.2.1 94)), (1, .int v1)]) C dX2_addUpAreas_29 rfl (by decide) rfl ?_
    refine j_aload_n (pc := 30) C dX2_addUpAreas_30 rfl 1 rfl ?_
    refine j_getR (pc := 31) C 94 0 20 (c_94 hCV).1 (c_94 hCV).2 rfl rfl (by decide) inw_X2 wd_615 dX2_addUpAreas_31 ?_
    refine j_iload_n (pc := 34) C dX2_addUpAreas_34 rfl 2 rfl ?_
    refine j_callS (pc := 35) (As := [.int v1]) (st := [.ref (V.2.1 20)]) C hX (m_J6_numberOfTrailingZeros_0f7a4   h) ok_J6_numberOfTrailingZeros_0f7a4 wd_657 wd_595 ⟨by decide, by decide⟩ rfl rfl (Nat.le_of_ble_eq_true rfl) ⟨Nat.le_refl 0, Nat.le_refl 0⟩ dX2_addUpAreas_35 (fun r V1 I1 J1 hp => ?_)
    obtain ⟨r7, rfl, rfl, rfl, rfl, h⟩ := hp
    show gJ X V 0 0 38 _ [.int r7, .ref (V.2.1 20)] _ _
    refine j_callV (pc := 38) (As := [.int r7]) (st := []) C hX 20 (m_X4_pieceSize hJG  h) (c_20 hJG).1 (c_20 hJG).2 rfl ok_X4_pieceSize wd_658 wd_659 wd_660 ⟨by decide, by decide⟩ rfl rfl (Nat.le_of_ble_eq_true rfl) ⟨Nat.le_refl 0, Nat.le_refl 0⟩ dX2_addUpAreas_38 (fun r V1 I1 J1 hp => ?_)
    obtain ⟨r8, rfl, rfl, rfl, rfl, h⟩ := hp
    show gJ X V 0 0 41 _ [.int r8] _ _
    refine j_istore_n (pc := 41) (lv' := [(3, .int r8), (2, .int n6), (0, .ref (V.2.1 94)), (1, .int v1)]) C dX2_addUpAreas_41 rfl (by decide) rfl ?_
    refine j_aload_n (pc := 42) C dX2_addUpAreas_42 rfl 2 rfl ?_
    refine j_getR (pc := 43) C 94 3 97 (c_94 hCV).1 (c_94 hCV).2 rfl rfl (by decide) inw_X2 wd_618 dX2_addUpAreas_43 ?_
    refine j_iload_n (pc := 46) C dX2_addUpAreas_46 rfl 3 rfl ?_
    refine j_aload_n (pc := 47) C dX2_addUpAreas_47 rfl 2 rfl ?_
    refine j_getR (pc := 48) C 94 3 97 (c_94 hCV).1 (c_94 hCV).2 rfl rfl (by decide) inw_X2 wd_618 dX2_addUpAreas_48 ?_
    refine j_iload_n (pc := 51) C dX2_addUpAreas_51 rfl 1 rfl ?_
    obtain ⟨g9, h⟩ := h
    refine j_iald (pc := 52) C 97 (c_97 hCV).1 (c_97 hCV).2 g9 dX2_addUpAreas_52 ?_
    refine j_iload_n (pc := 53) C dX2_addUpAreas_53 rfl 0 rfl ?_
    refine j_iadd (pc := 54) C dX2_addUpAreas_54 ?_
    obtain ⟨g10, h⟩ := h
    refine j_iast (pc := 55) C 97 (c_97 hCV).1 (c_97 hCV).2 g10 dX2_addUpAreas_55 ?_
    refine gJ.nmI (fun I11 eI11 => ?_)
    have h := h I11 eI11
    refine j_aload_n (pc := 56) C dX2_addUpAreas_56 rfl 2 rfl ?_
    refine j_getR (pc := 57) C 94 4 98 (c_94 hCV).1 (c_94 hCV).2 rfl rfl (by decide) inw_X2 wd_619 dX2_addUpAreas_57 ?_
    refine j_iload_n (pc := 60) C dX2_addUpAreas_60 rfl 3 rfl ?_
    refine j_aload_n (pc := 61) C dX2_addUpAreas_61 rfl 2 rfl ?_
    refine j_getR (pc := 62) C 94 4 98 (c_94 hCV).1 (c_94 hCV).2 rfl rfl (by decide) inw_X2 wd_619 dX2_addUpAreas_62 ?_
    refine j_iload_n (pc := 65) C dX2_addUpAreas_65 rfl 1 rfl ?_
    obtain ⟨g12, h⟩ := h
    refine j_iald (pc := 66) C 98 (c_98 hCV).1 (c_98 hCV).2 g12 dX2_addUpAreas_66 ?_
    refine j_aload_n (pc := 67) C dX2_addUpAreas_67 rfl 2 rfl ?_
    refine j_getR (pc := 68) C 94 4 98 (c_94 hCV).1 (c_94 hCV).2 rfl rfl (by decide) inw_X2 wd_619 dX2_addUpAreas_68 ?_
    refine j_iload_n (pc := 71) C dX2_addUpAreas_71 rfl 1 rfl ?_
    obtain ⟨g13, h⟩ := h
    refine j_iald (pc := 72) C 98 (c_98 hCV).1 (c_98 hCV).2 g13 dX2_addUpAreas_72 ?_
    refine j_iload_n (pc := 73) C dX2_addUpAreas_73 rfl 0 rfl ?_
    refine j_ishl (pc := 74) C dX2_addUpAreas_74 ?_
    refine j_ior (pc := 75) C dX2_addUpAreas_75 ?_
    obtain ⟨g14, h⟩ := h
    refine j_iast (pc := 76) C 98 (c_98 hCV).1 (c_98 hCV).2 g14 dX2_addUpAreas_76 ?_
    refine gJ.nmI (fun I15 eI15 => ?_)
    have h := h I15 eI15
    obtain ⟨n16, en16⟩ : ∃ z : Int32, z = v1 + 1 := ⟨_, rfl⟩
    have h := h n16 en16
    refine j_iinc (pc := 77) (v := n16) (lv' := [(1, .int n16), (3, .int r8), (2, .int n6), (0, .ref (V.2.1 94))]) C dX2_addUpAreas_77 3 rfl (by rw [en16]; rfl) (by decide) rfl ?_
    refine j_goto (pc := 80) (tgt := 16) C dX2_addUpAreas_80 (by decide) ?_
    refine gJ.sub [3, 0] rfl ?_
    exact hK16 _ _ h
set_option maxRecDepth 100000 in
set_option maxHeartbeats 4000000 in
theorem t_X2_addUpAreas_16 {X : gX} {l : Launch} {D : va_G} {cy : Nat → ClassId} {nm : String} {V : gV} (hJG : gModJG V) (hCV : gModCV V) (C : gC X cX2_addUpAreas RX2 none 4 rm_X2_addUpAreas) (hX : gIs X l D cy nm) {I : gI} {J : gL} {Po : gI → Prop} (hR : gR X (gPv V (fun I' J' => J = J' ∧ Po I'))) {v1 : Int32} (h : w_X2_addUpAreas_16 Po v1 I) : gJ X V 0 0 16 [(0, .ref (V.2.1 94)), (1, .int v1)] [] I J := by
  unfold w_X2_addUpAreas_16 at h
  obtain ⟨Inv, mu, h0, hs⟩ := h
  have key : ∀ (n : Nat) (v1 : Int32) (I : gI), Inv v1 I → mu v1 I < n → gJ X V 0 0 16 [(0, .ref (V.2.1 94)), (1, .int v1)] [] I J := by
    intro n
    induction n with
    | zero => intro v1 I hi hn; exact absurd hn (Nat.not_lt_zero _)
    | succ n ih =>
      intro v1 I hi hn
      exact t_X2_addUpAreas_16b hJG hCV C hX hR   (fun u1 I1 hk => ih u1 I1 hk.1 (Nat.lt_of_lt_of_le hk.2 (Nat.le_of_lt_succ hn))) (hs v1 I hi)
  exact key _ v1 I h0 (Nat.lt_succ_self _)
set_option maxRecDepth 100000 in
set_option maxHeartbeats 4000000 in
theorem m_X2_addUpAreas {l : Launch} {D : va_G} {cy : Nat → ClassId} {V : gV} (hJG : gModJG V) (hCV : gModCV V) {I : gI} {J : gL} {Po : gI → Prop} (h : wp_X2_addUpAreas I Po) : gMet l D cy yX2_addUpAreas cX2_addUpAreas 4 none rm_X2_addUpAreas V [.ref (V.2.1 94)] I J (gPv V (fun I' J' => J = J' ∧ Po I')) := by
  refine gMet.of (by decide) (Nat.le_of_ble_eq_true rfl) (fun X hX C hR => ?_)
  have C : gC X cX2_addUpAreas RX2 none 4 rm_X2_addUpAreas := C
  show gJ X V 0 0 0 [(0, .ref (V.2.1 94))] [] I J
  unfold wp_X2_addUpAreas at h
  refine j_aload_n (pc := 0) C dX2_addUpAreas_0 rfl 0 rfl ?_
  refine j_getR (pc := 1) C 94 3 97 (c_94 hCV).1 (c_94 hCV).2 rfl rfl (by decide) inw_X2 wd_618 dX2_addUpAreas_1 ?_
  refine j_iconst (pc := 4) (v := 0) C dX2_addUpAreas_4 (by decide) ?_
  refine j_iconst (pc := 5) (v := 0) C dX2_addUpAreas_5 (by decide) ?_
  obtain ⟨g1, h⟩ := h
  refine j_iast (pc := 6) C 97 (c_97 hCV).1 (c_97 hCV).2 g1 dX2_addUpAreas_6 ?_
  refine gJ.nmI (fun I2 eI2 => ?_)
  have h := h I2 eI2
  refine j_aload_n (pc := 7) C dX2_addUpAreas_7 rfl 0 rfl ?_
  refine j_getR (pc := 8) C 94 4 98 (c_94 hCV).1 (c_94 hCV).2 rfl rfl (by decide) inw_X2 wd_619 dX2_addUpAreas_8 ?_
  refine j_iconst (pc := 11) (v := 0) C dX2_addUpAreas_11 (by decide) ?_
  refine j_iconst (pc := 12) (v := 1) C dX2_addUpAreas_12 (by decide) ?_
  obtain ⟨g3, h⟩ := h
  refine j_iast (pc := 13) C 98 (c_98 hCV).1 (c_98 hCV).2 g3 dX2_addUpAreas_13 ?_
  refine gJ.nmI (fun I4 eI4 => ?_)
  have h := h I4 eI4
  refine j_iconst (pc := 14) (v := 1) C dX2_addUpAreas_14 (by decide) ?_
  refine j_istore_n (pc := 15) (lv' := [(1, .int (1 : Int32)), (0, .ref (V.2.1 94))]) C dX2_addUpAreas_15 rfl (by decide) rfl ?_
  refine gJ.sub [1, 0] rfl ?_
  exact t_X2_addUpAreas_16 hJG hCV C hX hR   h
/-! TileRules$CoverSearch.prepare(I)V -/
abbrev rm_X2_prepare : Room := { frames := 4, cells := 0, slots := 0, locals := 104 }
theorem ok_X2_prepare : gOk yX2_prepare cX2_prepare 2 none 1 := ⟨wd_651, wd_81, by decide +kernel⟩
def wp_X2_prepare (a1 : Int32) (I : gI) (Po : gI → Prop) : Prop :=
  wp_X4_listPlacements I (fun I1 => ∀ I2 : gI, I2 = gup I1 94 5 a1 → ∀ I3 : gI, I3 = gup I2 94 6 (((1 : Int32) <<< (((I2 20 1) * (I2 20 2)) &&& 31)) - (1 : Int32)) → ∀ I4 : gI, I4 = gup I3 94 7 (((1 : Int32) <<< ((I3 20 0) &&& 31)) - (1 : Int32)) → wp_X2_addUpAreas I4 (fun I5 => Po I5))
set_option maxRecDepth 100000 in
set_option maxHeartbeats 4000000 in
theorem m_X2_prepare {l : Launch} {D : va_G} {cy : Nat → ClassId} {V : gV} (hJG : gModJG V) (hCV : gModCV V) {a1 : Int32} {I : gI} {J : gL} {Po : gI → Prop} (h : wp_X2_prepare a1 I Po) : gMet l D cy yX2_prepare cX2_prepare 2 none rm_X2_prepare V [.ref (V.2.1 94), .int a1] I J (gPv V (fun I' J' => J = J' ∧ Po I')) := by
  refine gMet.of (by decide) (Nat.le_of_ble_eq_true rfl) (fun X hX C hR => ?_)
  have C : gC X cX2_prepare RX2 none 2 rm_X2_prepare := C
  show gJ X V 0 0 0 [(0, .ref (V.2.1 94)), (1, .int a1)] [] I J
  unfold wp_X2_prepare at h
  refine j_aload_n (pc := 0) C dX2_prepare_0 rfl 0 rfl ?_
  refine j_getR (pc := 1) C 94 0 20 (c_94 hCV).1 (c_94 hCV).2 rfl rfl (by decide) inw_X2 wd_615 dX2_prepare_1 ?_
  refine j_callV (pc := 4) (As := []) (st := []) C hX 20 (m_X4_listPlacements hJG  h) (c_20 hJG).1 (c_20 hJG).2 rfl ok_X4_listPlacements wd_652 wd_570 wd_571 ⟨by decide, by decide⟩ rfl rfl (Nat.le_of_ble_eq_true rfl) ⟨Nat.le_refl 0, Nat.le_refl 0⟩ dX2_prepare_4 (fun r V1 I1 J1 hp => ?_)
  obtain ⟨rfl, rfl, rfl, h⟩ := hp
  show gJ X V 0 0 7 _ [] _ _
  refine j_aload_n (pc := 7) C dX2_prepare_7 rfl 0 rfl ?_
  refine j_iload_n (pc := 8) C dX2_prepare_8 rfl 1 rfl ?_
  refine j_putI (pc := 9) (ft := .int) C tyX2 tyX2_ok nmX2 94 5 (c_94 hCV).1 (c_94 hCV).2 rfl rfl (by decide) inw_X2 wd_620 rfl (by decide +kernel) rfl rfl dX2_prepare_9 ?_
  refine gJ.nmI (fun I2 eI2 => ?_)
  have h := h I2 eI2
  refine j_aload_n (pc := 12) C dX2_prepare_12 rfl 0 rfl ?_
  refine j_iconst (pc := 13) (v := 1) C dX2_prepare_13 (by decide) ?_
  refine j_aload_n (pc := 14) C dX2_prepare_14 rfl 0 rfl ?_
  refine j_getR (pc := 15) C 94 0 20 (c_94 hCV).1 (c_94 hCV).2 rfl rfl (by decide) inw_X2 wd_615 dX2_prepare_15 ?_
  refine j_getI (pc := 18) C 20 1 (c_20 hJG).1 (c_20 hJG).2 rfl rfl (by decide) inw_X4 wd_134 dX2_prepare_18 ?_
  refine j_aload_n (pc := 21) C dX2_prepare_21 rfl 0 rfl ?_
  refine j_getR (pc := 22) C 94 0 20 (c_94 hCV).1 (c_94 hCV).2 rfl rfl (by decide) inw_X2 wd_615 dX2_prepare_22 ?_
  refine j_getI (pc := 25) C 20 2 (c_20 hJG).1 (c_20 hJG).2 rfl rfl (by decide) inw_X4 wd_137 dX2_prepare_25 ?_
  refine j_imul (pc := 28) C dX2_prepare_28 ?_
  refine j_ishl (pc := 29) C dX2_prepare_29 ?_
  refine j_iconst (pc := 30) (v := 1) C dX2_prepare_30 (by decide) ?_
  refine j_isub (pc := 31) C dX2_prepare_31 ?_
  refine j_putI (pc := 32) (ft := .int) C tyX2 tyX2_ok nmX2 94 6 (c_94 hCV).1 (c_94 hCV).2 rfl rfl (by decide) inw_X2 wd_621 rfl (by decide +kernel) rfl rfl dX2_prepare_32 ?_
  refine gJ.nmI (fun I3 eI3 => ?_)
  have h := h I3 eI3
  refine j_aload_n (pc := 35) C dX2_prepare_35 rfl 0 rfl ?_
  refine j_iconst (pc := 36) (v := 1) C dX2_prepare_36 (by decide) ?_
  refine j_aload_n (pc := 37) C dX2_prepare_37 rfl 0 rfl ?_
  refine j_getR (pc := 38) C 94 0 20 (c_94 hCV).1 (c_94 hCV).2 rfl rfl (by decide) inw_X2 wd_615 dX2_prepare_38 ?_
  refine j_getI (pc := 41) C 20 0 (c_20 hJG).1 (c_20 hJG).2 rfl rfl (by decide) inw_X4 wd_131 dX2_prepare_41 ?_
  refine j_ishl (pc := 44) C dX2_prepare_44 ?_
  refine j_iconst (pc := 45) (v := 1) C dX2_prepare_45 (by decide) ?_
  refine j_isub (pc := 46) C dX2_prepare_46 ?_
  refine j_putI (pc := 47) (ft := .int) C tyX2 tyX2_ok nmX2 94 7 (c_94 hCV).1 (c_94 hCV).2 rfl rfl (by decide) inw_X2 wd_622 rfl (by decide +kernel) rfl rfl dX2_prepare_47 ?_
  refine gJ.nmI (fun I4 eI4 => ?_)
  have h := h I4 eI4
  refine j_aload_n (pc := 50) C dX2_prepare_50 rfl 0 rfl ?_
  refine j_callV (pc := 51) (As := []) (st := []) C hX 94 (m_X2_addUpAreas hJG hCV  h) (c_94 hCV).1 (c_94 hCV).2 rfl ok_X2_addUpAreas wd_653 wd_655 wd_19 ⟨by decide, by decide⟩ rfl rfl (Nat.le_of_ble_eq_true rfl) ⟨Nat.le_refl 0, Nat.le_refl 0⟩ dX2_prepare_51 (fun r V1 I5 J1 hp => ?_)
  obtain ⟨rfl, rfl, rfl, h⟩ := hp
  show gJ X V 0 0 54 _ [] _ _
  exact j_vret (pc := 54) C hR (Nat.zero_le _) (Nat.zero_le _) dX2_prepare_54 ⟨rfl, rfl, rfl, h⟩
/-! TileRules$CoverSearch.areaFits(II)Z -/
abbrev rm_X2_areaFits : Room := { frames := 1, cells := 0, slots := 0, locals := 20 }
theorem ok_X2_areaFits : gOk yX2_areaFits cX2_areaFits 5 (some .boolean) 2 := ⟨wd_675, wd_81, by decide +kernel⟩
def wp_X2_areaFits (a1 : Int32) (a2 : Int32) (I : gI) (Po : Int32 → Prop) : Prop :=
  wp_J6_bitCount_0f7a4 ((I 94 6) &&& (a1 ^^^ (-1 : Int32))) (fun r1 => ∀ n2 : Int32, n2 = ((I 94 7) &&& (a2 ^^^ (-1 : Int32))) → (((I 94 5)).toInt = 0 → vp_in n2 64 ∧ (¬ (I 97 (n2).toNatClampNeg) = r1 → Po (0 : Int32)) ∧ ((I 97 (n2).toNatClampNeg) = r1 → Po (1 : Int32))) ∧ (((I 94 5)).toInt = 2 → vp_in n2 64 ∧ ((((I 98 (n2).toNatClampNeg) >>> (r1 &&& 31)) &&& (1 : Int32)) = 0 → Po (0 : Int32)) ∧ (¬ (((I 98 (n2).toNatClampNeg) >>> (r1 &&& 31)) &&& (1 : Int32)) = 0 → Po (1 : Int32))) ∧ (¬ ((I 94 5)).toInt = 0 → ¬ ((I 94 5)).toInt = 2 → Po (1 : Int32)))
set_option maxRecDepth 100000 in
set_option maxHeartbeats 4000000 in
theorem m_X2_areaFits {l : Launch} {D : va_G} {cy : Nat → ClassId} {V : gV} (hJG : gModJG V) (hCV : gModCV V) {a1 : Int32} {a2 : Int32} {I : gI} {J : gL} {Po : Int32 → Prop} (h : wp_X2_areaFits a1 a2 I Po) : gMet l D cy yX2_areaFits cX2_areaFits 5 (some .boolean) rm_X2_areaFits V [.ref (V.2.1 94), .int a1, .int a2] I J (gPi V (fun x I' J' => I = I' ∧ J = J' ∧ Po x)) := by
  refine gMet.of (by decide) (Nat.le_of_ble_eq_true rfl) (fun X hX C hR => ?_)
  have C : gC X cX2_areaFits RX2 (some .boolean) 5 rm_X2_areaFits := C
  show gJ X V 0 0 0 [(0, .ref (V.2.1 94)), (1, .int a1), (2, .int a2)] [] I J
  unfold wp_X2_areaFits at h
  refine j_aload_n (pc := 0) C dX2_areaFits_0 rfl 0 rfl ?_
  refine j_getI (pc := 1) C 94 6 (c_94 hCV).1 (c_94 hCV).2 rfl rfl (by decide) inw_X2 wd_621 dX2_areaFits_1 ?_
  refine j_iload_n (pc := 4) C dX2_areaFits_4 rfl 1 rfl ?_
  refine j_iconst (pc := 5) (v := (-1)) C dX2_areaFits_5 (by decide) ?_
  refine j_ixor (pc := 6) C dX2_areaFits_6 ?_
  refine j_iand (pc := 7) C dX2_areaFits_7 ?_
  refine j_callS (pc := 8) (As := [.int ((I 94 6) &&& (a1 ^^^ (-1 : Int32)))]) (st := []) C hX (m_J6_bitCount_0f7a4   h) ok_J6_bitCount_0f7a4 wd_676 wd_515 ⟨by decide, by decide⟩ rfl rfl (Nat.le_of_ble_eq_true rfl) ⟨Nat.le_refl 0, Nat.le_refl 0⟩ dX2_areaFits_8 (fun r V1 I1 J1 hp => ?_)
  obtain ⟨r1, rfl, rfl, rfl, rfl, h⟩ := hp
  show gJ X V 0 0 11 _ [.int r1] _ _
  refine j_istore_n (pc := 11) (lv' := [(3, .int r1), (0, .ref (V.2.1 94)), (1, .int a1), (2, .int a2)]) C dX2_areaFits_11 rfl (by decide) rfl ?_
  refine j_aload_n (pc := 12) C dX2_areaFits_12 rfl 1 rfl ?_
  refine j_getI (pc := 13) C 94 7 (c_94 hCV).1 (c_94 hCV).2 rfl rfl (by decide) inw_X2 wd_622 dX2_areaFits_13 ?_
  refine j_iload_n (pc := 16) C dX2_areaFits_16 rfl 3 rfl ?_
  refine j_iconst (pc := 17) (v := (-1)) C dX2_areaFits_17 (by decide) ?_
  refine j_ixor (pc := 18) C dX2_areaFits_18 ?_
  refine j_iand (pc := 19) C dX2_areaFits_19 ?_
  refine gJ.topi (fun n2 en2 => ?_)
  have h := h n2 en2
  refine j_istore (pc := 20) (lv' := [(4, .int n2), (3, .int r1), (0, .ref (V.2.1 94)), (1, .int a1), (2, .int a2)]) C dX2_areaFits_20 (by decide) rfl ?_
  refine j_aload_n (pc := 22) C dX2_areaFits_22 rfl 2 rfl ?_
  refine j_getI (pc := 23) C 94 5 (c_94 hCV).1 (c_94 hCV).2 rfl rfl (by decide) inw_X2 wd_620 dX2_areaFits_23 ?_
  refine j_look2 (pc := 26) (t0 := 89) (t1 := 52) (t2 := 69) C dX2_areaFits_26 (by decide) (by decide) (by decide) (by decide) (fun q1 => ?_) (fun q1 => ?_) (fun q1 q2 => ?_)
  · have h := h.1 q1
    refine j_aload_n (pc := 52) C dX2_areaFits_52 rfl 2 rfl ?_
    refine j_getR (pc := 53) C 94 3 97 (c_94 hCV).1 (c_94 hCV).2 rfl rfl (by decide) inw_X2 wd_618 dX2_areaFits_53 ?_
    refine j_iload (pc := 56) C dX2_areaFits_56 0 rfl ?_
    obtain ⟨g3, h⟩ := h
    refine j_iald (pc := 58) C 97 (c_97 hCV).1 (c_97 hCV).2 g3 dX2_areaFits_58 ?_
    refine j_iload_n (pc := 59) C dX2_areaFits_59 rfl 1 rfl ?_
    refine j_icmp_ne (pc := 60) (tgt := 67) C dX2_areaFits_60 (by decide) (fun c4 => ?_) (fun c4 => ?_)
    · have h := h.1 c4
      refine j_iconst (pc := 67) (v := 0) C dX2_areaFits_67 (by decide) ?_
      exact j_zret (pc := 68) C hR (Or.inl rfl) (Nat.zero_le _) (Nat.zero_le _) dX2_areaFits_68 ⟨_, rfl, rfl, rfl, rfl, h⟩
    · have h := h.2 c4
      refine j_iconst (pc := 63) (v := 1) C dX2_areaFits_63 (by decide) ?_
      refine j_goto (pc := 64) (tgt := 68) C dX2_areaFits_64 (by decide) ?_
      exact j_zret (pc := 68) C hR (Or.inr rfl) (Nat.zero_le _) (Nat.zero_le _) dX2_areaFits_68 ⟨_, rfl, rfl, rfl, rfl, h⟩
  · have h := h.2.1 q1
    refine j_aload_n (pc := 69) C dX2_areaFits_69 rfl 2 rfl ?_
    refine j_getR (pc := 70) C 94 4 98 (c_94 hCV).1 (c_94 hCV).2 rfl rfl (by decide) inw_X2 wd_619 dX2_areaFits_70 ?_
    refine j_iload (pc := 73) C dX2_areaFits_73 0 rfl ?_
    obtain ⟨g5, h⟩ := h
    refine j_iald (pc := 75) C 98 (c_98 hCV).1 (c_98 hCV).2 g5 dX2_areaFits_75 ?_
    refine j_iload_n (pc := 76) C dX2_areaFits_76 rfl 1 rfl ?_
    refine j_ishr (pc := 77) C dX2_areaFits_77 ?_
    refine j_iconst (pc := 78) (v := 1) C dX2_areaFits_78 (by decide) ?_
    refine j_iand (pc := 79) C dX2_areaFits_79 ?_
    refine j_if_eq (pc := 80) (tgt := 87) C dX2_areaFits_80 (by decide) (fun c6 => ?_) (fun c6 => ?_)
    · have h := h.1 c6
      refine j_iconst (pc := 87) (v := 0) C dX2_areaFits_87 (by decide) ?_
      exact j_zret (pc := 88) C hR (Or.inl rfl) (Nat.zero_le _) (Nat.zero_le _) dX2_areaFits_88 ⟨_, rfl, rfl, rfl, rfl, h⟩
    · have h := h.2 c6
      refine j_iconst (pc := 83) (v := 1) C dX2_areaFits_83 (by decide) ?_
      refine j_goto (pc := 84) (tgt := 88) C dX2_areaFits_84 (by decide) ?_
      exact j_zret (pc := 88) C hR (Or.inr rfl) (Nat.zero_le _) (Nat.zero_le _) dX2_areaFits_88 ⟨_, rfl, rfl, rfl, rfl, h⟩
  · have h := h.2.2 q1 q2
    refine j_iconst (pc := 89) (v := 1) C dX2_areaFits_89 (by decide) ?_
    exact j_zret (pc := 90) C hR (Or.inr rfl) (Nat.zero_le _) (Nat.zero_le _) dX2_areaFits_90 ⟨_, rfl, rfl, rfl, rfl, h⟩
/-! TileRules$CoverSearch.usedWith(II)I -/
abbrev rm_X2_usedWith : Room := { frames := 0, cells := 0, slots := 0, locals := 0 }
theorem ok_X2_usedWith : gOk yX2_usedWith cX2_usedWith 3 (some .int) 2 := ⟨wd_694, wd_81, by decide +kernel⟩
def wp_X2_usedWith (a1 : Int32) (a2 : Int32) (I : gI) (Po : Int32 → Prop) : Prop :=
  (¬ (I 94 5) = (1 : Int32) → Po (a1 ||| ((1 : Int32) <<< (a2 &&& 31)))) ∧ ((I 94 5) = (1 : Int32) → Po a1)
set_option maxRecDepth 100000 in
set_option maxHeartbeats 4000000 in
theorem m_X2_usedWith {l : Launch} {D : va_G} {cy : Nat → ClassId} {V : gV} (hJG : gModJG V) (hCV : gModCV V) {a1 : Int32} {a2 : Int32} {I : gI} {J : gL} {Po : Int32 → Prop} (h : wp_X2_usedWith a1 a2 I Po) : gMet l D cy yX2_usedWith cX2_usedWith 3 (some .int) rm_X2_usedWith V [.ref (V.2.1 94), .int a1, .int a2] I J (gPi V (fun x I' J' => I = I' ∧ J = J' ∧ Po x)) := by
  refine gMet.of (by decide) (Nat.le_of_ble_eq_true rfl) (fun X hX C hR => ?_)
  have C : gC X cX2_usedWith RX2 (some .int) 3 rm_X2_usedWith := C
  show gJ X V 0 0 0 [(0, .ref (V.2.1 94)), (1, .int a1), (2, .int a2)] [] I J
  unfold wp_X2_usedWith at h
  refine j_aload_n (pc := 0) C dX2_usedWith_0 rfl 0 rfl ?_
  refine j_getI (pc := 1) C 94 5 (c_94 hCV).1 (c_94 hCV).2 rfl rfl (by decide) inw_X2 wd_620 dX2_usedWith_1 ?_
  refine j_iconst (pc := 4) (v := 1) C dX2_usedWith_4 (by decide) ?_
  refine j_icmp_ne (pc := 5) (tgt := 12) C dX2_usedWith_5 (by decide) (fun c1 => ?_) (fun c1 => ?_)
  · have h := h.1 c1
    refine j_iload_n (pc := 12) C dX2_usedWith_12 rfl 1 rfl ?_
    refine j_iconst (pc := 13) (v := 1) C dX2_usedWith_13 (by decide) ?_
    refine j_iload_n (pc := 14) C dX2_usedWith_14 rfl 2 rfl ?_
    refine j_ishl (pc := 15) C dX2_usedWith_15 ?_
    refine j_ior (pc := 16) C dX2_usedWith_16 ?_
    exact j_iret (pc := 17) C hR (Nat.zero_le _) (Nat.zero_le _) dX2_usedWith_17 ⟨_, rfl, rfl, rfl, rfl, h⟩
  · have h := h.2 c1
    refine j_iload_n (pc := 8) C dX2_usedWith_8 rfl 1 rfl ?_
    refine j_goto (pc := 9) (tgt := 17) C dX2_usedWith_9 (by decide) ?_
    exact j_iret (pc := 17) C hR (Nat.zero_le _) (Nat.zero_le _) dX2_usedWith_17 ⟨_, rfl, rfl, rfl, rfl, h⟩
/-! TileRules$CoverSearch.tryEach(III)J -/
abbrev rm_X2_tryEach (f0 l0 : Nat) : Room := { frames := f0 + 1, cells := 0, slots := 0, locals := l0 + 28 }
theorem ok_X2_solve : gOk yX2_solve cX2_solve 9 (some .long) 3 := ⟨wd_670, wd_81, by decide +kernel⟩
theorem ok_X2_tryEach : gOk yX2_tryEach cX2_tryEach 15 (some .long) 3 := ⟨wd_682, wd_81, by decide +kernel⟩
def w_X2_tryEach_149 (rc : Int32 → Int32 → Int32 → gI → gL → (Int64 → gL → Prop) → Prop) (Po : Int64 → gL → Prop) (K18 : Int64 → Int32 → Int32 → gL → Prop) (K59 : Int64 → Int32 → Int32 → gL → Prop) (v1 : Int32) (v2 : Int32) (v3 : Int32) (v4 : Int32) (v5 : Int64) (v7 : Int32) (v8 : Int32) (v9 : Int32) (v10 : Int32) (I : gI) (J : gL) : Prop :=
  ∀ n10 : Int32, n10 = v10 + 1 → K59 v5 v7 n10 J
def w_X2_tryEach_147 (rc : Int32 → Int32 → Int32 → gI → gL → (Int64 → gL → Prop) → Prop) (Po : Int64 → gL → Prop) (K18 : Int64 → Int32 → Int32 → gL → Prop) (K59 : Int64 → Int32 → Int32 → gL → Prop) (v1 : Int32) (v2 : Int32) (v3 : Int32) (v4 : Int32) (v5 : Int64) (v8 : Int32) (v9 : Int32) (v10 : Int32) (s0 : Int32) (I : gI) (J : gL) : Prop :=
  w_X2_tryEach_149 rc Po K18 K59 v1 v2 v3 v4 v5 s0 v8 v9 v10 I J
def w_X2_tryEach_59b (rc : Int32 → Int32 → Int32 → gI → gL → (Int64 → gL → Prop) → Prop) (Po : Int64 → gL → Prop) (K18 : Int64 → Int32 → Int32 → gL → Prop) (K59 : Int64 → Int32 → Int32 → gL → Prop) (v1 : Int32) (v2 : Int32) (v3 : Int32) (v4 : Int32) (v5 : Int64) (v7 : Int32) (v8 : Int32) (v9 : Int32) (v10 : Int32) (I : gI) (J : gL) : Prop :=
  (v9 ≤ v10 → ∀ n7 : Int32, n7 = v8 + 1 → K18 v5 v7 n7 J) ∧ (¬ v9 ≤ v10 → wp_X4_placementFrom v8 v4 v10 I (fun r8 => (¬ (r8 &&& v1) = 0 → w_X2_tryEach_149 rc Po K18 K59 v1 v2 v3 v4 v5 v7 v8 v9 v10 I J) ∧ ((r8 &&& v1) = 0 → wp_X2_usedWith v2 v8 I (fun r11 => rc (v1 ||| r8) r11 (v3 + (1 : Int32)) I J (fun r12 J13 => ∀ n14 : Int64, n14 = (v5 + ((r12).toUInt64 >>> (((5 : Int32)).toInt64.toUInt64 &&& Int64.toUInt64 63)).toInt64) → ∀ n15 : Int32, n15 = ((1 : Int32) + ((r12 &&& (31 : Int64))).toInt32) → (¬ (lg_cmp r12 (0 : Int64)) = 0 → w_X2_tryEach_147 rc Po K18 K59 v1 v2 v3 v4 n14 v8 v9 v10 (if n15 < v7 then n15 else v7) I J13) ∧ ((lg_cmp r12 (0 : Int64)) = 0 → w_X2_tryEach_147 rc Po K18 K59 v1 v2 v3 v4 n14 v8 v9 v10 v7 I J13))))))
def w_X2_tryEach_59 (rc : Int32 → Int32 → Int32 → gI → gL → (Int64 → gL → Prop) → Prop) (Po : Int64 → gL → Prop) (K18 : Int64 → Int32 → Int32 → gL → Prop) (v1 : Int32) (v2 : Int32) (v3 : Int32) (v4 : Int32) (v5 : Int64) (v7 : Int32) (v8 : Int32) (v9 : Int32) (v10 : Int32) (I : gI) (J : gL) : Prop :=
  ∃ (Inv : Int64 → Int32 → Int32 → gL → Prop) (mu : Int64 → Int32 → Int32 → gL → Nat), Inv v5 v7 v10 J ∧ ∀ (v5 : Int64) (v7 : Int32) (v10 : Int32) (J : gL), Inv v5 v7 v10 J → w_X2_tryEach_59b rc Po K18 (fun u5 u7 u10 J1 => Inv u5 u7 u10 J1 ∧ mu u5 u7 u10 J1 < mu v5 v7 v10 J) v1 v2 v3 v4 v5 v7 v8 v9 v10 I J
def w_X2_tryEach_54 (rc : Int32 → Int32 → Int32 → gI → gL → (Int64 → gL → Prop) → Prop) (Po : Int64 → gL → Prop) (K18 : Int64 → Int32 → Int32 → gL → Prop) (v1 : Int32) (v2 : Int32) (v3 : Int32) (v4 : Int32) (v5 : Int64) (v7 : Int32) (v8 : Int32) (s0 : Int32) (I : gI) (J : gL) : Prop :=
  w_X2_tryEach_59 rc Po K18 v1 v2 v3 v4 v5 v7 v8 s0 (0 : Int32) I J
def w_X2_tryEach_18b (rc : Int32 → Int32 → Int32 → gI → gL → (Int64 → gL → Prop) → Prop) (Po : Int64 → gL → Prop) (K18 : Int64 → Int32 → Int32 → gL → Prop) (v1 : Int32) (v2 : Int32) (v3 : Int32) (v4 : Int32) (v5 : Int64) (v7 : Int32) (v8 : Int32) (I : gI) (J : gL) : Prop :=
  ((I 20 0) ≤ v8 → (¬ (lg_cmp v5 (0 : Int64)) = 0 → Po ((v5 <<< (((5 : Int32)).toInt64 &&& 63)) ||| (v7).toInt64) J) ∧ ((lg_cmp v5 (0 : Int64)) = 0 → Po (0 : Int64) J)) ∧ (¬ (I 20 0) ≤ v8 → (((v2 >>> (v8 &&& 31)) &&& (1 : Int32)) = 0 → wp_X4_countPlacementsFrom v8 v4 I (fun r5 => w_X2_tryEach_54 rc Po K18 v1 v2 v3 v4 v5 v7 v8 r5 I J)) ∧ (¬ ((v2 >>> (v8 &&& 31)) &&& (1 : Int32)) = 0 → w_X2_tryEach_54 rc Po K18 v1 v2 v3 v4 v5 v7 v8 (0 : Int32) I J))
def w_X2_tryEach_18 (rc : Int32 → Int32 → Int32 → gI → gL → (Int64 → gL → Prop) → Prop) (Po : Int64 → gL → Prop)  (v1 : Int32) (v2 : Int32) (v3 : Int32) (v4 : Int32) (v5 : Int64) (v7 : Int32) (v8 : Int32) (I : gI) (J : gL) : Prop :=
  ∃ (Inv : Int64 → Int32 → Int32 → gL → Prop) (mu : Int64 → Int32 → Int32 → gL → Nat), Inv v5 v7 v8 J ∧ ∀ (v5 : Int64) (v7 : Int32) (v8 : Int32) (J : gL), Inv v5 v7 v8 J → w_X2_tryEach_18b rc Po  (fun u5 u7 u8 J1 => Inv u5 u7 u8 J1 ∧ mu u5 u7 u8 J1 < mu v5 v7 v8 J) v1 v2 v3 v4 v5 v7 v8 I J
def wp_X2_tryEach (rc : Int32 → Int32 → Int32 → gI → gL → (Int64 → gL → Prop) → Prop) (a1 : Int32) (a2 : Int32) (a3 : Int32) (I : gI) (J : gL) (Po : Int64 → gL → Prop) : Prop :=
  wp_J6_numberOfTrailingZeros_0f7a4 (a1 ^^^ (-1 : Int32)) (fun r1 => w_X2_tryEach_18 rc Po a1 a2 a3 r1 (0 : Int64) (31 : Int32) (0 : Int32) I J)
set_option maxRecDepth 100000 in
set_option maxHeartbeats 4000000 in
theorem t_X2_tryEach_149 {X : gX} {l : Launch} {D : va_G} {cy : Nat → ClassId} {nm : String} {V : gV} {rc : Int32 → Int32 → Int32 → gI → gL → (Int64 → gL → Prop) → Prop} {f0 l0 : Nat} (hJG : gModJG V) (hCV : gModCV V) (hrc : ∀ (b0 : Int32) (b1 : Int32) (b2 : Int32) (I0 : gI) (J0 : gL) (Q0 : Int64 → gL → Prop), rc b0 b1 b2 I0 J0 Q0 → gMet l D cy yX2_solve cX2_solve 9 (some .long) { frames := f0, cells := 0, slots := 0, locals := l0 } V [.ref (V.2.1 94), .int b0, .int b1, .int b2] I0 J0 (gPl V (fun x I' J' => I0 = I' ∧ Q0 x J'))) (C : gC X cX2_tryEach RX2 (some .long) 15 (rm_X2_tryEach f0 l0)) (hX : gIs X l D cy nm) {I : gI} {J : gL} {Po : Int64 → gL → Prop} (hR : gR X (gPl V (fun x I' J' => I = I' ∧ Po x J'))) {v1 : Int32} {v2 : Int32} {v3 : Int32} {v4 : Int32} {v5 : Int64} {v7 : Int32} {v8 : Int32} {v9 : Int32} {v10 : Int32} {K18 : Int64 → Int32 → Int32 → gL → Prop} {K59 : Int64 → Int32 → Int32 → gL → Prop} (hK18 : ∀ (y5 : Int64) (y7 : Int32) (y8 : Int32) (J1 : gL), K18 y5 y7 y8 J1 → gJ X V 0 0 18 [(0, .ref (V.2.1 94)), (1, .int v1), (2, .int v2), (3, .int v3), (4, .int v4), (5, .long y5), (7, .int y7), (8, .int y8)] [] I J1) (hK59 : ∀ (y5 : Int64) (y7 : Int32) (y10 : Int32) (J1 : gL), K59 y5 y7 y10 J1 → gJ X V 0 0 59 [(0, .ref (V.2.1 94)), (1, .int v1), (2, .int v2), (3, .int v3), (4, .int v4), (5, .long y5), (7, .int y7), (8, .int v8), (9, .int v9), (10, .int y10)] [] I J1) (h : w_X2_tryEach_149 rc Po K18 K59 v1 v2 v3 v4 v5 v7 v8 v9 v10 I J) : gJ X V 0 0 149 [(0, .ref (V.2.1 94)), (1, .int v1), (2, .int v2), (3, .int v3), (4, .int v4), (5, .long v5), (7, .int v7), (8, .int v8), (9, .int v9), (10, .int v10)] [] I J := by
  unfold w_X2_tryEach_149 at h
  obtain ⟨n10, en10⟩ : ∃ z : Int32, z = v10 + 1 := ⟨_, rfl⟩
  have h := h n10 en10
  refine j_iinc (pc := 149) (v := n10) (lv' := [(10, .int n10), (0, .ref (V.2.1 94)), (1, .int v1), (2, .int v2), (3, .int v3), (4, .int v4), (5, .long v5), (7, .int v7), (8, .int v8), (9, .int v9)]) C dX2_tryEach_149 9 rfl (by rw [en10]; rfl) (by decide) rfl ?_
  refine j_goto (pc := 152) (tgt := 59) C dX2_tryEach_152 (by decide) ?_
  refine gJ.sub [1, 2, 3, 4, 5, 6, 7, 8, 9, 0] rfl ?_
  exact hK59 _ _ _ _ h
set_option maxRecDepth 100000 in
set_option maxHeartbeats 4000000 in
theorem t_X2_tryEach_147 {X : gX} {l : Launch} {D : va_G} {cy : Nat → ClassId} {nm : String} {V : gV} {rc : Int32 → Int32 → Int32 → gI → gL → (Int64 → gL → Prop) → Prop} {f0 l0 : Nat} (hJG : gModJG V) (hCV : gModCV V) (hrc : ∀ (b0 : Int32) (b1 : Int32) (b2 : Int32) (I0 : gI) (J0 : gL) (Q0 : Int64 → gL → Prop), rc b0 b1 b2 I0 J0 Q0 → gMet l D cy yX2_solve cX2_solve 9 (some .long) { frames := f0, cells := 0, slots := 0, locals := l0 } V [.ref (V.2.1 94), .int b0, .int b1, .int b2] I0 J0 (gPl V (fun x I' J' => I0 = I' ∧ Q0 x J'))) (C : gC X cX2_tryEach RX2 (some .long) 15 (rm_X2_tryEach f0 l0)) (hX : gIs X l D cy nm) {I : gI} {J : gL} {Po : Int64 → gL → Prop} (hR : gR X (gPl V (fun x I' J' => I = I' ∧ Po x J'))) {v1 : Int32} {v2 : Int32} {v3 : Int32} {v4 : Int32} {v5 : Int64} {v8 : Int32} {v9 : Int32} {v10 : Int32} {s0 : Int32} {K18 : Int64 → Int32 → Int32 → gL → Prop} {K59 : Int64 → Int32 → Int32 → gL → Prop} (hK18 : ∀ (y5 : Int64) (y7 : Int32) (y8 : Int32) (J1 : gL), K18 y5 y7 y8 J1 → gJ X V 0 0 18 [(0, .ref (V.2.1 94)), (1, .int v1), (2, .int v2), (3, .int v3), (4, .int v4), (5, .long y5), (7, .int y7), (8, .int y8)] [] I J1) (hK59 : ∀ (y5 : Int64) (y7 : Int32) (y10 : Int32) (J1 : gL), K59 y5 y7 y10 J1 → gJ X V 0 0 59 [(0, .ref (V.2.1 94)), (1, .int v1), (2, .int v2), (3, .int v3), (4, .int v4), (5, .long y5), (7, .int y7), (8, .int v8), (9, .int v9), (10, .int y10)] [] I J1) (h : w_X2_tryEach_147 rc Po K18 K59 v1 v2 v3 v4 v5 v8 v9 v10 s0 I J) : gJ X V 0 0 147 [(0, .ref (V.2.1 94)), (1, .int v1), (2, .int v2), (3, .int v3), (4, .int v4), (5, .long v5), (8, .int v8), (9, .int v9), (10, .int v10)] [.int s0] I J := by
  unfold w_X2_tryEach_147 at h
  refine j_istore (pc := 147) (lv' := [(7, .int s0), (0, .ref (V.2.1 94)), (1, .int v1), (2, .int v2), (3, .int v3), (4, .int v4), (5, .long v5), (8, .int v8), (9, .int v9), (10, .int v10)]) C dX2_tryEach_147 (by decide) rfl ?_
  refine gJ.sub [1, 2, 3, 4, 5, 6, 0, 7, 8, 9] rfl ?_
  exact t_X2_tryEach_149 hJG hCV hrc C hX hR  hK18 hK59 h
set_option maxRecDepth 100000 in
set_option maxHeartbeats 4000000 in
theorem t_X2_tryEach_59b {X : gX} {l : Launch} {D : va_G} {cy : Nat → ClassId} {nm : String} {V : gV} {rc : Int32 → Int32 → Int32 → gI → gL → (Int64 → gL → Prop) → Prop} {f0 l0 : Nat} (hJG : gModJG V) (hCV : gModCV V) (hrc : ∀ (b0 : Int32) (b1 : Int32) (b2 : Int32) (I0 : gI) (J0 : gL) (Q0 : Int64 → gL → Prop), rc b0 b1 b2 I0 J0 Q0 → gMet l D cy yX2_solve cX2_solve 9 (some .long) { frames := f0, cells := 0, slots := 0, locals := l0 } V [.ref (V.2.1 94), .int b0, .int b1, .int b2] I0 J0 (gPl V (fun x I' J' => I0 = I' ∧ Q0 x J'))) (C : gC X cX2_tryEach RX2 (some .long) 15 (rm_X2_tryEach f0 l0)) (hX : gIs X l D cy nm) {I : gI} {J : gL} {Po : Int64 → gL → Prop} (hR : gR X (gPl V (fun x I' J' => I = I' ∧ Po x J'))) {v1 : Int32} {v2 : Int32} {v3 : Int32} {v4 : Int32} {v5 : Int64} {v7 : Int32} {v8 : Int32} {v9 : Int32} {v10 : Int32} {K18 : Int64 → Int32 → Int32 → gL → Prop} {K59 : Int64 → Int32 → Int32 → gL → Prop} (hK18 : ∀ (y5 : Int64) (y7 : Int32) (y8 : Int32) (J1 : gL), K18 y5 y7 y8 J1 → gJ X V 0 0 18 [(0, .ref (V.2.1 94)), (1, .int v1), (2, .int v2), (3, .int v3), (4, .int v4), (5, .long y5), (7, .int y7), (8, .int y8)] [] I J1) (hK59 : ∀ (y5 : Int64) (y7 : Int32) (y10 : Int32) (J1 : gL), K59 y5 y7 y10 J1 → gJ X V 0 0 59 [(0, .ref (V.2.1 94)), (1, .int v1), (2, .int v2), (3, .int v3), (4, .int v4), (5, .long y5), (7, .int y7), (8, .int v8), (9, .int v9), (10, .int y10)] [] I J1) (h : w_X2_tryEach_59b rc Po K18 K59 v1 v2 v3 v4 v5 v7 v8 v9 v10 I J) : gJ X V 0 0 59 [(0, .ref (V.2.1 94)), (1, .int v1), (2, .int v2), (3, .int v3), (4, .int v4), (5, .long v5), (7, .int v7), (8, .int v8), (9, .int v9), (10, .int v10)] [] I J := by
  unfold w_X2_tryEach_59b at h
  refine j_iload (pc := 59) C dX2_tryEach_59 9 rfl ?_
  refine j_iload (pc := 61) C dX2_tryEach_61 8 rfl ?_
  refine j_icmp_ge (pc := 63) (tgt := 155) C dX2_tryEach_63 (by decide) (fun c6 => ?_) (fun c6 => ?_)
  · have h := h.1 c6
    obtain ⟨n7, en7⟩ : ∃ z : Int32, z = v8 + 1 := ⟨_, rfl⟩
    have h := h n7 en7
    refine j_iinc (pc := 155) (v := n7) (lv' := [(8, .int n7), (0, .ref (V.2.1 94)), (1, .int v1), (2, .int v2), (3, .int v3), (4, .int v4), (5, .long v5), (7, .int v7), (9, .int v9), (10, .int v10)]) C dX2_tryEach_155 7 rfl (by rw [en7]; rfl) (by decide) rfl ?_
    refine j_goto (pc := 158) (tgt := 18) C dX2_tryEach_158 (by decide) ?_
    refine gJ.sub [1, 2, 3, 4, 5, 6, 7, 0] rfl ?_
    exact hK18 _ _ _ _ h
  · have h := h.2 c6
    refine j_aload_n (pc := 66) C dX2_tryEach_66 rfl 0 rfl ?_
    refine j_getR (pc := 67) C 94 0 20 (c_94 hCV).1 (c_94 hCV).2 rfl rfl (by decide) inw_X2 wd_615 dX2_tryEach_67 ?_
    refine j_iload (pc := 70) C dX2_tryEach_70 7 rfl ?_
    refine j_iload (pc := 72) C dX2_tryEach_72 4 rfl ?_
    refine j_iload (pc := 74) C dX2_tryEach_74 9 rfl ?_
    refine j_callV (pc := 76) (As := [.int v8, .int v4, .int v10]) (st := []) C hX 20 (m_X4_placementFrom hJG  h) (c_20 hJG).1 (c_20 hJG).2 rfl ok_X4_placementFrom wd_687 wd_688 wd_689 ⟨show 0 + 1 ≤ f0 + 1 by omega, show 8 + (4 + 11) + (0) ≤ l0 + 28 by omega⟩ rfl rfl (Nat.le_of_ble_eq_true rfl) ⟨Nat.le_refl 0, Nat.le_refl 0⟩ dX2_tryEach_76 (fun r V1 I1 J1 hp => ?_)
    obtain ⟨r8, rfl, rfl, rfl, rfl, h⟩ := hp
    show gJ X V 0 0 79 _ [.int r8] _ _
    refine j_istore (pc := 79) (lv' := [(11, .int r8), (0, .ref (V.2.1 94)), (1, .int v1), (2, .int v2), (3, .int v3), (4, .int v4), (5, .long v5), (7, .int v7), (8, .int v8), (9, .int v9), (10, .int v10)]) C dX2_tryEach_79 (by decide) rfl ?_
    refine j_iload (pc := 81) C dX2_tryEach_81 0 rfl ?_
    refine j_iload_n (pc := 83) C dX2_tryEach_83 rfl 2 rfl ?_
    refine j_iand (pc := 84) C dX2_tryEach_84 ?_
    refine j_if_ne (pc := 85) (tgt := 149) C dX2_tryEach_85 (by decide) (fun c9 => ?_) (fun c9 => ?_)
    · have h := h.1 c9
      refine gJ.sub [1, 2, 3, 4, 5, 6, 7, 8, 9, 10] rfl ?_
      exact t_X2_tryEach_149 hJG hCV hrc C hX hR  hK18 hK59 h
    · have h := h.2 c9
      refine j_aload_n (pc := 88) C dX2_tryEach_88 rfl 1 rfl ?_
      refine j_iload_n (pc := 89) C dX2_tryEach_89 rfl 2 rfl ?_
      refine j_iload (pc := 90) C dX2_tryEach_90 0 rfl ?_
      refine j_ior (pc := 92) C dX2_tryEach_92 ?_
      refine j_aload_n (pc := 93) C dX2_tryEach_93 rfl 1 rfl ?_
      refine j_iload_n (pc := 94) C dX2_tryEach_94 rfl 3 rfl ?_
      refine j_iload (pc := 95) C dX2_tryEach_95 8 rfl ?_
      refine j_callV (pc := 97) (As := [.int v2, .int v8]) (st := [.int (v1 ||| r8), .ref (V.2.1 94)]) C hX 94 (m_X2_usedWith hJG hCV  h) (c_94 hCV).1 (c_94 hCV).2 rfl ok_X2_usedWith wd_691 wd_693 wd_23 ⟨show 0 + 1 ≤ f0 + 1 by omega, show 8 + (3 + 11) + (0) ≤ l0 + 28 by omega⟩ rfl rfl (Nat.le_of_ble_eq_true rfl) ⟨Nat.le_refl 0, Nat.le_refl 0⟩ dX2_tryEach_97 (fun r V1 I1 J1 hp => ?_)
      obtain ⟨r11, rfl, rfl, rfl, rfl, h⟩ := hp
      show gJ X V 0 0 100 _ [.int r11, .int (v1 ||| r8), .ref (V.2.1 94)] _ _
      refine j_iload_n (pc := 100) C dX2_tryEach_100 rfl 4 rfl ?_
      refine j_iconst (pc := 101) (v := 1) C dX2_tryEach_101 (by decide) ?_
      refine j_iadd (pc := 102) C dX2_tryEach_102 ?_
      refine j_callV (pc := 103) (As := [.int (v1 ||| r8), .int r11, .int (v3 + (1 : Int32))]) (st := []) C hX 94 (hrc _ _ _ _ _ _ h) (c_94 hCV).1 (c_94 hCV).2 rfl ok_X2_solve wd_667 wd_669 wd_20 ⟨show f0 + 1 ≤ f0 + 1 by omega, show 8 + (9 + 11) + (l0) ≤ l0 + 28 by omega⟩ rfl rfl (Nat.le_of_ble_eq_true rfl) ⟨Nat.le_refl 0, Nat.le_refl 0⟩ dX2_tryEach_103 (fun r V1 I1 J13 hp => ?_)
      obtain ⟨r12, rfl, rfl, rfl, h⟩ := hp
      show gJ X V 0 0 106 _ [.long r12] _ _
      refine j_lstore (pc := 106) (lv' := [(12, .long r12), (11, .int r8), (0, .ref (V.2.1 94)), (1, .int v1), (2, .int v2), (3, .int v3), (4, .int v4), (5, .long v5), (7, .int v7), (8, .int v8), (9, .int v9), (10, .int v10)]) C dX2_tryEach_106 (by decide) rfl ?_
      refine j_lload (pc := 108) C dX2_tryEach_108 7 rfl ?_
      refine j_lload (pc := 110) C dX2_tryEach_110 0 rfl ?_
      refine j_iconst (pc := 112) (v := 5) C dX2_tryEach_112 (by decide) ?_
      refine j_lushr (pc := 113) C dX2_tryEach_113 ?_
      refine j_ladd (pc := 114) C dX2_tryEach_114 ?_
      refine gJ.topl (fun n14 en14 => ?_)
      have h := h n14 en14
      refine j_lstore (pc := 115) (lv' := [(5, .long n14), (12, .long r12), (11, .int r8), (0, .ref (V.2.1 94)), (1, .int v1), (2, .int v2), (3, .int v3), (4, .int v4), (7, .int v7), (8, .int v8), (9, .int v9), (10, .int v10)]) C dX2_tryEach_115 (by decide) rfl ?_
      refine j_iconst (pc := 117) (v := 1) C dX2_tryEach_117 (by decide) ?_
      refine j_lload (pc := 118) C dX2_tryEach_118 1 rfl ?_
      refine j_ldc2 (pc := 120) (v := 31) C dX2_tryEach_120 wd_695 ?_
      refine j_land (pc := 123) C dX2_tryEach_123 ?_
      refine j_l2i (pc := 124) C dX2_tryEach_124 ?_
      refine j_iadd (pc := 125) C dX2_tryEach_125 ?_
      refine gJ.topi (fun n15 en15 => ?_)
      have h := h n15 en15
      refine j_istore (pc := 126) (lv' := [(14, .int n15), (5, .long n14), (12, .long r12), (11, .int r8), (0, .ref (V.2.1 94)), (1, .int v1), (2, .int v2), (3, .int v3), (4, .int v4), (7, .int v7), (8, .int v8), (9, .int v9), (10, .int v10)]) C dX2_tryEach_126 (by decide) rfl ?_
      refine j_lload (pc := 128) C dX2_tryEach_128 2 rfl ?_
      refine j_lconst (pc := 130) (v := 0) C dX2_tryEach_130 (by decide) ?_
      refine j_lcmp (pc := 131) C dX2_tryEach_131 ?_
      refine j_if_ne (pc := 132) (tgt := 140) C dX2_tryEach_132 (by decide) (fun c16 => ?_) (fun c16 => ?_)
      · have h := h.1 c16
        refine j_iload (pc := 140) C dX2_tryEach_140 9 rfl ?_
        refine j_iload (pc := 142) C dX2_tryEach_142 0 rfl ?_
        refine j_mmin (pc := 144) (st := []) C wd_696 wd_482 wd_79 wd_483 (show 1 ≤ f0 + 1 by omega) (show 0 + 13 ≤ l0 + 28 by omega) (Nat.zero_le _) (Nat.zero_le _) dX2_tryEach_144 ?_
        refine gJ.sub [4, 5, 6, 7, 8, 1, 10, 11, 12] rfl ?_
        exact t_X2_tryEach_147 hJG hCV hrc C hX hR  hK18 hK59 h
      · have h := h.2 c16
        refine j_iload (pc := 135) C dX2_tryEach_135 9 rfl ?_
        refine j_goto (pc := 137) (tgt := 147) C dX2_tryEach_137 (by decide) ?_
        refine gJ.sub [4, 5, 6, 7, 8, 1, 10, 11, 12] rfl ?_
        exact t_X2_tryEach_147 hJG hCV hrc C hX hR  hK18 hK59 h
set_option maxRecDepth 100000 in
set_option maxHeartbeats 4000000 in
theorem t_X2_tryEach_59 {X : gX} {l : Launch} {D : va_G} {cy : Nat → ClassId} {nm : String} {V : gV} {rc : Int32 → Int32 → Int32 → gI → gL → (Int64 → gL → Prop) → Prop} {f0 l0 : Nat} (hJG : gModJG V) (hCV : gModCV V) (hrc : ∀ (b0 : Int32) (b1 : Int32) (b2 : Int32) (I0 : gI) (J0 : gL) (Q0 : Int64 → gL → Prop), rc b0 b1 b2 I0 J0 Q0 → gMet l D cy yX2_solve cX2_solve 9 (some .long) { frames := f0, cells := 0, slots := 0, locals := l0 } V [.ref (V.2.1 94), .int b0, .int b1, .int b2] I0 J0 (gPl V (fun x I' J' => I0 = I' ∧ Q0 x J'))) (C : gC X cX2_tryEach RX2 (some .long) 15 (rm_X2_tryEach f0 l0)) (hX : gIs X l D cy nm) {I : gI} {J : gL} {Po : Int64 → gL → Prop} (hR : gR X (gPl V (fun x I' J' => I = I' ∧ Po x J'))) {v1 : Int32} {v2 : Int32} {v3 : Int32} {v4 : Int32} {v5 : Int64} {v7 : Int32} {v8 : Int32} {v9 : Int32} {v10 : Int32} {K18 : Int64 → Int32 → Int32 → gL → Prop} (hK18 : ∀ (y5 : Int64) (y7 : Int32) (y8 : Int32) (J1 : gL), K18 y5 y7 y8 J1 → gJ X V 0 0 18 [(0, .ref (V.2.1 94)), (1, .int v1), (2, .int v2), (3, .int v3), (4, .int v4), (5, .long y5), (7, .int y7), (8, .int y8)] [] I J1) (h : w_X2_tryEach_59 rc Po K18 v1 v2 v3 v4 v5 v7 v8 v9 v10 I J) : gJ X V 0 0 59 [(0, .ref (V.2.1 94)), (1, .int v1), (2, .int v2), (3, .int v3), (4, .int v4), (5, .long v5), (7, .int v7), (8, .int v8), (9, .int v9), (10, .int v10)] [] I J := by
  unfold w_X2_tryEach_59 at h
  obtain ⟨Inv, mu, h0, hs⟩ := h
  have key : ∀ (n : Nat) (v5 : Int64) (v7 : Int32) (v10 : Int32) (J : gL), Inv v5 v7 v10 J → mu v5 v7 v10 J < n → gJ X V 0 0 59 [(0, .ref (V.2.1 94)), (1, .int v1), (2, .int v2), (3, .int v3), (4, .int v4), (5, .long v5), (7, .int v7), (8, .int v8), (9, .int v9), (10, .int v10)] [] I J := by
    intro n
    induction n with
    | zero => intro v5 v7 v10 J hi hn; exact absurd hn (Nat.not_lt_zero _)
    | succ n ih =>
      intro v5 v7 v10 J hi hn
      exact t_X2_tryEach_59b hJG hCV hrc C hX hR  hK18 (fun u5 u7 u10 J1 hk => ih u5 u7 u10 J1 hk.1 (Nat.lt_of_lt_of_le hk.2 (Nat.le_of_lt_succ hn))) (hs v5 v7 v10 J hi)
  exact key _ v5 v7 v10 J h0 (Nat.lt_succ_self _)
set_option maxRecDepth 100000 in
set_option maxHeartbeats 4000000 in
theorem t_X2_tryEach_54 {X : gX} {l : Launch} {D : va_G} {cy : Nat → ClassId} {nm : String} {V : gV} {rc : Int32 → Int32 → Int32 → gI → gL → (Int64 → gL → Prop) → Prop} {f0 l0 : Nat} (hJG : gModJG V) (hCV : gModCV V) (hrc : ∀ (b0 : Int32) (b1 : Int32) (b2 : Int32) (I0 : gI) (J0 : gL) (Q0 : Int64 → gL → Prop), rc b0 b1 b2 I0 J0 Q0 → gMet l D cy yX2_solve cX2_solve 9 (some .long) { frames := f0, cells := 0, slots := 0, locals := l0 } V [.ref (V.2.1 94), .int b0, .int b1, .int b2] I0 J0 (gPl V (fun x I' J' => I0 = I' ∧ Q0 x J'))) (C : gC X cX2_tryEach RX2 (some .long) 15 (rm_X2_tryEach f0 l0)) (hX : gIs X l D cy nm) {I : gI} {J : gL} {Po : Int64 → gL → Prop} (hR : gR X (gPl V (fun x I' J' => I = I' ∧ Po x J'))) {v1 : Int32} {v2 : Int32} {v3 : Int32} {v4 : Int32} {v5 : Int64} {v7 : Int32} {v8 : Int32} {s0 : Int32} {K18 : Int64 → Int32 → Int32 → gL → Prop} (hK18 : ∀ (y5 : Int64) (y7 : Int32) (y8 : Int32) (J1 : gL), K18 y5 y7 y8 J1 → gJ X V 0 0 18 [(0, .ref (V.2.1 94)), (1, .int v1), (2, .int v2), (3, .int v3), (4, .int v4), (5, .long y5), (7, .int y7), (8, .int y8)] [] I J1) (h : w_X2_tryEach_54 rc Po K18 v1 v2 v3 v4 v5 v7 v8 s0 I J) : gJ X V 0 0 54 [(0, .ref (V.2.1 94)), (1, .int v1), (2, .int v2), (3, .int v3), (4, .int v4), (5, .long v5), (7, .int v7), (8, .int v8)] [.int s0] I J := by
  unfold w_X2_tryEach_54 at h
  refine j_istore (pc := 54) (lv' := [(9, .int s0), (0, .ref (V.2.1 94)), (1, .int v1), (2, .int v2), (3, .int v3), (4, .int v4), (5, .long v5), (7, .int v7), (8, .int v8)]) C dX2_tryEach_54 (by decide) rfl ?_
  refine j_iconst (pc := 56) (v := 0) C dX2_tryEach_56 (by decide) ?_
  refine j_istore (pc := 57) (lv' := [(10, .int (0 : Int32)), (9, .int s0), (0, .ref (V.2.1 94)), (1, .int v1), (2, .int v2), (3, .int v3), (4, .int v4), (5, .long v5), (7, .int v7), (8, .int v8)]) C dX2_tryEach_57 (by decide) rfl ?_
  refine gJ.sub [2, 3, 4, 5, 6, 7, 8, 9, 1, 0] rfl ?_
  exact t_X2_tryEach_59 hJG hCV hrc C hX hR  hK18 h
set_option maxRecDepth 100000 in
set_option maxHeartbeats 4000000 in
theorem t_X2_tryEach_18b {X : gX} {l : Launch} {D : va_G} {cy : Nat → ClassId} {nm : String} {V : gV} {rc : Int32 → Int32 → Int32 → gI → gL → (Int64 → gL → Prop) → Prop} {f0 l0 : Nat} (hJG : gModJG V) (hCV : gModCV V) (hrc : ∀ (b0 : Int32) (b1 : Int32) (b2 : Int32) (I0 : gI) (J0 : gL) (Q0 : Int64 → gL → Prop), rc b0 b1 b2 I0 J0 Q0 → gMet l D cy yX2_solve cX2_solve 9 (some .long) { frames := f0, cells := 0, slots := 0, locals := l0 } V [.ref (V.2.1 94), .int b0, .int b1, .int b2] I0 J0 (gPl V (fun x I' J' => I0 = I' ∧ Q0 x J'))) (C : gC X cX2_tryEach RX2 (some .long) 15 (rm_X2_tryEach f0 l0)) (hX : gIs X l D cy nm) {I : gI} {J : gL} {Po : Int64 → gL → Prop} (hR : gR X (gPl V (fun x I' J' => I = I' ∧ Po x J'))) {v1 : Int32} {v2 : Int32} {v3 : Int32} {v4 : Int32} {v5 : Int64} {v7 : Int32} {v8 : Int32} {K18 : Int64 → Int32 → Int32 → gL → Prop} (hK18 : ∀ (y5 : Int64) (y7 : Int32) (y8 : Int32) (J1 : gL), K18 y5 y7 y8 J1 → gJ X V 0 0 18 [(0, .ref (V.2.1 94)), (1, .int v1), (2, .int v2), (3, .int v3), (4, .int v4), (5, .long y5), (7, .int y7), (8, .int y8)] [] I J1) (h : w_X2_tryEach_18b rc Po K18 v1 v2 v3 v4 v5 v7 v8 I J) : gJ X V 0 0 18 [(0, .ref (V.2.1 94)), (1, .int v1), (2, .int v2), (3, .int v3), (4, .int v4), (5, .long v5), (7, .int v7), (8, .int v8)] [] I J := by
  unfold w_X2_tryEach_18b at h
  refine j_iload (pc := 18) C dX2_tryEach_18 7 rfl ?_
  refine j_aload_n (pc := 20) C dX2_tryEach_20 rfl 0 rfl ?_
  refine j_getR (pc := 21) C 94 0 20 (c_94 hCV).1 (c_94 hCV).2 rfl rfl (by decide) inw_X2 wd_615 dX2_tryEach_21 ?_
  refine j_getI (pc := 24) C 20 0 (c_20 hJG).1 (c_20 hJG).2 rfl rfl (by decide) inw_X4 wd_131 dX2_tryEach_24 ?_
  refine j_icmp_ge (pc := 27) (tgt := 161) C dX2_tryEach_27 (by decide) (fun c2 => ?_) (fun c2 => ?_)
  · have h := h.1 c2
    refine j_lload (pc := 161) C dX2_tryEach_161 5 rfl ?_
    refine j_lconst (pc := 163) (v := 0) C dX2_tryEach_163 (by decide) ?_
    refine j_lcmp (pc := 164) C dX2_tryEach_164 ?_
    refine j_if_ne (pc := 165) (tgt := 172) C dX2_tryEach_165 (by decide) (fun c3 => ?_) (fun c3 => ?_)
    · have h := h.1 c3
      refine j_lload (pc := 172) C dX2_tryEach_172 5 rfl ?_
      refine j_iconst (pc := 174) (v := 5) C dX2_tryEach_174 (by decide) ?_
      refine j_lshl (pc := 175) C dX2_tryEach_175 ?_
      refine j_iload (pc := 176) C dX2_tryEach_176 6 rfl ?_
      refine j_i2l (pc := 178) C dX2_tryEach_178 ?_
      refine j_lor (pc := 179) C dX2_tryEach_179 ?_
      exact j_lret (pc := 180) C hR (Nat.zero_le _) (Nat.zero_le _) dX2_tryEach_180 ⟨_, rfl, rfl, rfl, h⟩
    · have h := h.2 c3
      refine j_lconst (pc := 168) (v := 0) C dX2_tryEach_168 (by decide) ?_
      refine j_goto (pc := 169) (tgt := 180) C dX2_tryEach_169 (by decide) ?_
      exact j_lret (pc := 180) C hR (Nat.zero_le _) (Nat.zero_le _) dX2_tryEach_180 ⟨_, rfl, rfl, rfl, h⟩
  · have h := h.2 c2
    refine j_iload_n (pc := 30) C dX2_tryEach_30 rfl 2 rfl ?_
    refine j_iload (pc := 31) C dX2_tryEach_31 7 rfl ?_
    refine j_ishr (pc := 33) C dX2_tryEach_33 ?_
    refine j_iconst (pc := 34) (v := 1) C dX2_tryEach_34 (by decide) ?_
    refine j_iand (pc := 35) C dX2_tryEach_35 ?_
    refine j_if_eq (pc := 36) (tgt := 43) C dX2_tryEach_36 (by decide) (fun c4 => ?_) (fun c4 => ?_)
    · have h := h.1 c4
      refine j_aload_n (pc := 43) C dX2_tryEach_43 rfl 0 rfl ?_
      refine j_getR (pc := 44) C 94 0 20 (c_94 hCV).1 (c_94 hCV).2 rfl rfl (by decide) inw_X2 wd_615 dX2_tryEach_44 ?_
      refine j_iload (pc := 47) C dX2_tryEach_47 7 rfl ?_
      refine j_iload (pc := 49) C dX2_tryEach_49 4 rfl ?_
      refine j_callV (pc := 51) (As := [.int v8, .int v4]) (st := []) C hX 20 (m_X4_countPlacementsFrom hJG  h) (c_20 hJG).1 (c_20 hJG).2 rfl ok_X4_countPlacementsFrom wd_683 wd_684 wd_685 ⟨show 0 + 1 ≤ f0 + 1 by omega, show 8 + (3 + 11) + (0) ≤ l0 + 28 by omega⟩ rfl rfl (Nat.le_of_ble_eq_true rfl) ⟨Nat.le_refl 0, Nat.le_refl 0⟩ dX2_tryEach_51 (fun r V1 I1 J1 hp => ?_)
      obtain ⟨r5, rfl, rfl, rfl, rfl, h⟩ := hp
      show gJ X V 0 0 54 _ [.int r5] _ _
      refine gJ.sub [0, 1, 2, 3, 4, 5, 6, 7] rfl ?_
      exact t_X2_tryEach_54 hJG hCV hrc C hX hR  hK18 h
    · have h := h.2 c4
      refine j_iconst (pc := 39) (v := 0) C dX2_tryEach_39 (by decide) ?_
      refine j_goto (pc := 40) (tgt := 54) C dX2_tryEach_40 (by decide) ?_
      refine gJ.sub [0, 1, 2, 3, 4, 5, 6, 7] rfl ?_
      exact t_X2_tryEach_54 hJG hCV hrc C hX hR  hK18 h
set_option maxRecDepth 100000 in
set_option maxHeartbeats 4000000 in
theorem t_X2_tryEach_18 {X : gX} {l : Launch} {D : va_G} {cy : Nat → ClassId} {nm : String} {V : gV} {rc : Int32 → Int32 → Int32 → gI → gL → (Int64 → gL → Prop) → Prop} {f0 l0 : Nat} (hJG : gModJG V) (hCV : gModCV V) (hrc : ∀ (b0 : Int32) (b1 : Int32) (b2 : Int32) (I0 : gI) (J0 : gL) (Q0 : Int64 → gL → Prop), rc b0 b1 b2 I0 J0 Q0 → gMet l D cy yX2_solve cX2_solve 9 (some .long) { frames := f0, cells := 0, slots := 0, locals := l0 } V [.ref (V.2.1 94), .int b0, .int b1, .int b2] I0 J0 (gPl V (fun x I' J' => I0 = I' ∧ Q0 x J'))) (C : gC X cX2_tryEach RX2 (some .long) 15 (rm_X2_tryEach f0 l0)) (hX : gIs X l D cy nm) {I : gI} {J : gL} {Po : Int64 → gL → Prop} (hR : gR X (gPl V (fun x I' J' => I = I' ∧ Po x J'))) {v1 : Int32} {v2 : Int32} {v3 : Int32} {v4 : Int32} {v5 : Int64} {v7 : Int32} {v8 : Int32} (h : w_X2_tryEach_18 rc Po v1 v2 v3 v4 v5 v7 v8 I J) : gJ X V 0 0 18 [(0, .ref (V.2.1 94)), (1, .int v1), (2, .int v2), (3, .int v3), (4, .int v4), (5, .long v5), (7, .int v7), (8, .int v8)] [] I J := by
  unfold w_X2_tryEach_18 at h
  obtain ⟨Inv, mu, h0, hs⟩ := h
  have key : ∀ (n : Nat) (v5 : Int64) (v7 : Int32) (v8 : Int32) (J : gL), Inv v5 v7 v8 J → mu v5 v7 v8 J < n → gJ X V 0 0 18 [(0, .ref (V.2.1 94)), (1, .int v1), (2, .int v2), (3, .int v3), (4, .int v4), (5, .long v5), (7, .int v7), (8, .int v8)] [] I J := by
    intro n
    induction n with
    | zero => intro v5 v7 v8 J hi hn; exact absurd hn (Nat.not_lt_zero _)
    | succ n ih =>
      intro v5 v7 v8 J hi hn
      exact t_X2_tryEach_18b hJG hCV hrc C hX hR   (fun u5 u7 u8 J1 hk => ih u5 u7 u8 J1 hk.1 (Nat.lt_of_lt_of_le hk.2 (Nat.le_of_lt_succ hn))) (hs v5 v7 v8 J hi)
  exact key _ v5 v7 v8 J h0 (Nat.lt_succ_self _)
set_option maxRecDepth 100000 in
set_option maxHeartbeats 4000000 in
theorem m_X2_tryEach {l : Launch} {D : va_G} {cy : Nat → ClassId} {V : gV} {rc : Int32 → Int32 → Int32 → gI → gL → (Int64 → gL → Prop) → Prop} {f0 l0 : Nat} (hJG : gModJG V) (hCV : gModCV V) (hrc : ∀ (b0 : Int32) (b1 : Int32) (b2 : Int32) (I0 : gI) (J0 : gL) (Q0 : Int64 → gL → Prop), rc b0 b1 b2 I0 J0 Q0 → gMet l D cy yX2_solve cX2_solve 9 (some .long) { frames := f0, cells := 0, slots := 0, locals := l0 } V [.ref (V.2.1 94), .int b0, .int b1, .int b2] I0 J0 (gPl V (fun x I' J' => I0 = I' ∧ Q0 x J'))) {a1 : Int32} {a2 : Int32} {a3 : Int32} {I : gI} {J : gL} {Po : Int64 → gL → Prop} (h : wp_X2_tryEach rc a1 a2 a3 I J Po) : gMet l D cy yX2_tryEach cX2_tryEach 15 (some .long) (rm_X2_tryEach f0 l0) V [.ref (V.2.1 94), .int a1, .int a2, .int a3] I J (gPl V (fun x I' J' => I = I' ∧ Po x J')) := by
  refine gMet.of (by decide) (Nat.le_of_ble_eq_true rfl) (fun X hX C hR => ?_)
  have C : gC X cX2_tryEach RX2 (some .long) 15 (rm_X2_tryEach f0 l0) := C
  show gJ X V 0 0 0 [(0, .ref (V.2.1 94)), (1, .int a1), (2, .int a2), (3, .int a3)] [] I J
  unfold wp_X2_tryEach at h
  refine j_iload_n (pc := 0) C dX2_tryEach_0 rfl 1 rfl ?_
  refine j_iconst (pc := 1) (v := (-1)) C dX2_tryEach_1 (by decide) ?_
  refine j_ixor (pc := 2) C dX2_tryEach_2 ?_
  refine j_callS (pc := 3) (As := [.int (a1 ^^^ (-1 : Int32))]) (st := []) C hX (m_J6_numberOfTrailingZeros_0f7a4   h) ok_J6_numberOfTrailingZeros_0f7a4 wd_657 wd_595 ⟨show 0 + 1 ≤ f0 + 1 by omega, show 8 + (2 + 11) + (0) ≤ l0 + 28 by omega⟩ rfl rfl (Nat.le_of_ble_eq_true rfl) ⟨Nat.le_refl 0, Nat.le_refl 0⟩ dX2_tryEach_3 (fun r V1 I1 J1 hp => ?_)
  obtain ⟨r1, rfl, rfl, rfl, rfl, h⟩ := hp
  show gJ X V 0 0 6 _ [.int r1] _ _
  refine j_istore (pc := 6) (lv' := [(4, .int r1), (0, .ref (V.2.1 94)), (1, .int a1), (2, .int a2), (3, .int a3)]) C dX2_tryEach_6 (by decide) rfl ?_
  refine j_lconst (pc := 8) (v := 0) C dX2_tryEach_8 (by decide) ?_
  refine j_lstore (pc := 9) (lv' := [(5, .long (0 : Int64)), (4, .int r1), (0, .ref (V.2.1 94)), (1, .int a1), (2, .int a2), (3, .int a3)]) C dX2_tryEach_9 (by decide) rfl ?_
  refine j_bipush (pc := 11) (v := 31) C dX2_tryEach_11 (by decide) ?_
  refine j_istore (pc := 13) (lv' := [(7, .int (31 : Int32)), (5, .long (0 : Int64)), (4, .int r1), (0, .ref (V.2.1 94)), (1, .int a1), (2, .int a2), (3, .int a3)]) C dX2_tryEach_13 (by decide) rfl ?_
  refine j_iconst (pc := 15) (v := 0) C dX2_tryEach_15 (by decide) ?_
  refine j_istore (pc := 16) (lv' := [(8, .int (0 : Int32)), (7, .int (31 : Int32)), (5, .long (0 : Int64)), (4, .int r1), (0, .ref (V.2.1 94)), (1, .int a1), (2, .int a2), (3, .int a3)]) C dX2_tryEach_16 (by decide) rfl ?_
  refine gJ.sub [4, 5, 6, 7, 3, 2, 1, 0] rfl ?_
  exact t_X2_tryEach_18 hJG hCV hrc C hX hR   h
/-! TileRules$CoverSearch.solve(III)J -/
abbrev rm_X2_solve (f0 l0 : Nat) : Room := { frames := f0 + 2, cells := 0, slots := 0, locals := l0 + 62 }
def w_X2_solve_132 (rc : Int32 → Int32 → Int32 → gI → gL → (Int64 → gL → Prop) → Prop) (Po : Int64 → gL → Prop)  (v6 : Int32) (I : gI) (J : gL) : Prop :=
  vp_in v6 16384 ∧ Po (J 96 (v6).toNatClampNeg) J
def wb_X2_solve (rc : Int32 → Int32 → Int32 → gI → gL → (Int64 → gL → Prop) → Prop) (a1 : Int32) (a2 : Int32) (a3 : Int32) (I : gI) (J : gL) (Po : Int64 → gL → Prop) : Prop :=
  (¬ a1 = (I 94 6) → ((20 : Int32) < a3 → Po (0 : Int64) J) ∧ (¬ (20 : Int32) < a3 → wp_X2_areaFits a1 a2 I (fun r3 => (¬ r3 = 0 → ∀ n5 : Int64, n5 = (((((((I 20 4)).toInt64 * (3 : Int64)) + ((I 94 5)).toInt64) <<< (((26 : Int32)).toInt64 &&& 63)) ||| ((a2).toInt64 <<< (((20 : Int32)).toInt64 &&& 63))) ||| (a1).toInt64) → ∀ n6 : Int32, n6 = ((((n5 * (-7046029254386353131 : Int64))).toUInt64 >>> (((50 : Int32)).toInt64.toUInt64 &&& Int64.toUInt64 63)).toInt64).toInt32 → vp_in n6 16384 ∧ ((lg_cmp (J 95 (n6).toNatClampNeg) n5) = 0 → w_X2_solve_132 rc Po n6 I J) ∧ (¬ (lg_cmp (J 95 (n6).toNatClampNeg) n5) = 0 → wp_X2_tryEach rc a1 a2 a3 I J (fun r10 J11 => vp_in n6 16384 ∧ ∀ J13 : gL, J13 = gup J11 95 (n6).toNatClampNeg n5 → vp_in n6 16384 ∧ ∀ J15 : gL, J15 = gup J13 96 (n6).toNatClampNeg r10 → w_X2_solve_132 rc Po n6 I J15))) ∧ (r3 = 0 → Po (0 : Int64) J)))) ∧ (a1 = (I 94 6) → (¬ (I 94 5) = 0 → Po (32 : Int64) J) ∧ ((I 94 5) = 0 → (a2 = (I 94 7) → Po (32 : Int64) J) ∧ (¬ a2 = (I 94 7) → Po (0 : Int64) J)))
set_option maxRecDepth 100000 in
set_option maxHeartbeats 4000000 in
theorem t_X2_solve_132 {X : gX} {l : Launch} {D : va_G} {cy : Nat → ClassId} {nm : String} {V : gV} {rc : Int32 → Int32 → Int32 → gI → gL → (Int64 → gL → Prop) → Prop} {f0 l0 : Nat} (hJG : gModJG V) (hCV : gModCV V) (hrc : ∀ (b0 : Int32) (b1 : Int32) (b2 : Int32) (I0 : gI) (J0 : gL) (Q0 : Int64 → gL → Prop), rc b0 b1 b2 I0 J0 Q0 → gMet l D cy yX2_solve cX2_solve 9 (some .long) { frames := f0, cells := 0, slots := 0, locals := l0 } V [.ref (V.2.1 94), .int b0, .int b1, .int b2] I0 J0 (gPl V (fun x I' J' => I0 = I' ∧ Q0 x J'))) (C : gC X cX2_solve RX2 (some .long) 9 (rm_X2_solve f0 l0)) (hX : gIs X l D cy nm) {I : gI} {J : gL} {Po : Int64 → gL → Prop} (hR : gR X (gPl V (fun x I' J' => I = I' ∧ Po x J'))) {v6 : Int32} (h : w_X2_solve_132 rc Po v6 I J) : gJ X V 0 0 132 [(0, .ref (V.2.1 94)), (6, .int v6)] [] I J := by
  unfold w_X2_solve_132 at h
  refine j_aload_n (pc := 132) C dX2_solve_132 rfl 0 rfl ?_
  refine j_getR (pc := 133) C 94 2 96 (c_94 hCV).1 (c_94 hCV).2 rfl rfl (by decide) inw_X2 wd_617 dX2_solve_133 ?_
  refine j_iload (pc := 136) C dX2_solve_136 1 rfl ?_
  obtain ⟨g9, h⟩ := h
  refine j_lald (pc := 138) C 96 (c_96 hCV).1 (c_96 hCV).2 g9 dX2_solve_138 ?_
  exact j_lret (pc := 139) C hR (Nat.zero_le _) (Nat.zero_le _) dX2_solve_139 ⟨_, rfl, rfl, rfl, h⟩
set_option maxRecDepth 100000 in
set_option maxHeartbeats 4000000 in
theorem mb_X2_solve {l : Launch} {D : va_G} {cy : Nat → ClassId} {V : gV} {rc : Int32 → Int32 → Int32 → gI → gL → (Int64 → gL → Prop) → Prop} {f0 l0 : Nat} (hJG : gModJG V) (hCV : gModCV V) (hrc : ∀ (b0 : Int32) (b1 : Int32) (b2 : Int32) (I0 : gI) (J0 : gL) (Q0 : Int64 → gL → Prop), rc b0 b1 b2 I0 J0 Q0 → gMet l D cy yX2_solve cX2_solve 9 (some .long) { frames := f0, cells := 0, slots := 0, locals := l0 } V [.ref (V.2.1 94), .int b0, .int b1, .int b2] I0 J0 (gPl V (fun x I' J' => I0 = I' ∧ Q0 x J'))) {a1 : Int32} {a2 : Int32} {a3 : Int32} {I : gI} {J : gL} {Po : Int64 → gL → Prop} (h : wb_X2_solve rc a1 a2 a3 I J Po) : gMet l D cy yX2_solve cX2_solve 9 (some .long) (rm_X2_solve f0 l0) V [.ref (V.2.1 94), .int a1, .int a2, .int a3] I J (gPl V (fun x I' J' => I = I' ∧ Po x J')) := by
  refine gMet.of (by decide) (Nat.le_of_ble_eq_true rfl) (fun X hX C hR => ?_)
  have C : gC X cX2_solve RX2 (some .long) 9 (rm_X2_solve f0 l0) := C
  show gJ X V 0 0 0 [(0, .ref (V.2.1 94)), (1, .int a1), (2, .int a2), (3, .int a3)] [] I J
  unfold wb_X2_solve at h
  refine j_iload_n (pc := 0) C dX2_solve_0 rfl 1 rfl ?_
  refine j_aload_n (pc := 1) C dX2_solve_1 rfl 0 rfl ?_
  refine j_getI (pc := 2) C 94 6 (c_94 hCV).1 (c_94 hCV).2 rfl rfl (by decide) inw_X2 wd_621 dX2_solve_2 ?_
  refine j_icmp_ne (pc := 5) (tgt := 31) C dX2_solve_5 (by decide) (fun c1 => ?_) (fun c1 => ?_)
  · have h := h.1 c1
    refine j_iload_n (pc := 31) C dX2_solve_31 rfl 3 rfl ?_
    refine j_bipush (pc := 32) (v := 20) C dX2_solve_32 (by decide) ?_
    refine j_icmp_gt (pc := 34) (tgt := 46) C dX2_solve_34 (by decide) (fun c2 => ?_) (fun c2 => ?_)
    · have h := h.1 c2
      refine j_lconst (pc := 46) (v := 0) C dX2_solve_46 (by decide) ?_
      exact j_lret (pc := 47) C hR (Nat.zero_le _) (Nat.zero_le _) dX2_solve_47 ⟨_, rfl, rfl, rfl, h⟩
    · have h := h.2 c2
      refine j_aload_n (pc := 37) C dX2_solve_37 rfl 0 rfl ?_
      refine j_iload_n (pc := 38) C dX2_solve_38 rfl 1 rfl ?_
      refine j_iload_n (pc := 39) C dX2_solve_39 rfl 2 rfl ?_
      refine j_callV (pc := 40) (As := [.int a1, .int a2]) (st := []) C hX 94 (m_X2_areaFits hJG hCV  h) (c_94 hCV).1 (c_94 hCV).2 rfl ok_X2_areaFits wd_672 wd_674 wd_21 ⟨show 1 + 1 ≤ f0 + 2 by omega, show 8 + (5 + 11) + (20) ≤ l0 + 62 by omega⟩ rfl rfl (Nat.le_of_ble_eq_true rfl) ⟨Nat.le_refl 0, Nat.le_refl 0⟩ dX2_solve_40 (fun r V1 I1 J1 hp => ?_)
      obtain ⟨r3, rfl, rfl, rfl, rfl, h⟩ := hp
      show gJ X V 0 0 43 _ [.int r3] _ _
      refine j_if_ne (pc := 43) (tgt := 48) C dX2_solve_43 (by decide) (fun c4 => ?_) (fun c4 => ?_)
      · have h := h.1 c4
        refine j_aload_n (pc := 48) C dX2_solve_48 rfl 0 rfl ?_
        refine j_getR (pc := 49) C 94 0 20 (c_94 hCV).1 (c_94 hCV).2 rfl rfl (by decide) inw_X2 wd_615 dX2_solve_49 ?_
        refine j_getI (pc := 52) C 20 4 (c_20 hJG).1 (c_20 hJG).2 rfl rfl (by decide) inw_X4 wd_142 dX2_solve_52 ?_
        refine j_i2l (pc := 55) C dX2_solve_55 ?_
        refine j_ldc2 (pc := 56) (v := 3) C dX2_solve_56 wd_677 ?_
        refine j_lmul (pc := 59) C dX2_solve_59 ?_
        refine j_aload_n (pc := 60) C dX2_solve_60 rfl 0 rfl ?_
        refine j_getI (pc := 61) C 94 5 (c_94 hCV).1 (c_94 hCV).2 rfl rfl (by decide) inw_X2 wd_620 dX2_solve_61 ?_
        refine j_i2l (pc := 64) C dX2_solve_64 ?_
        refine j_ladd (pc := 65) C dX2_solve_65 ?_
        refine j_bipush (pc := 66) (v := 26) C dX2_solve_66 (by decide) ?_
        refine j_lshl (pc := 68) C dX2_solve_68 ?_
        refine j_iload_n (pc := 69) C dX2_solve_69 rfl 2 rfl ?_
        refine j_i2l (pc := 70) C dX2_solve_70 ?_
        refine j_bipush (pc := 71) (v := 20) C dX2_solve_71 (by decide) ?_
        refine j_lshl (pc := 73) C dX2_solve_73 ?_
        refine j_lor (pc := 74) C dX2_solve_74 ?_
        refine j_iload_n (pc := 75) C dX2_solve_75 rfl 1 rfl ?_
        refine j_i2l (pc := 76) C dX2_solve_76 ?_
        refine j_lor (pc := 77) C dX2_solve_77 ?_
        refine gJ.topl (fun n5 en5 => ?_)
        have h := h n5 en5
        refine j_lstore (pc := 78) (lv' := [(4, .long n5), (0, .ref (V.2.1 94)), (1, .int a1), (2, .int a2), (3, .int a3)]) C dX2_solve_78 (by decide) rfl ?_
        refine j_lload (pc := 80) C dX2_solve_80 0 rfl ?_
        refine j_ldc2 (pc := 82) (v := (-7046029254386353131)) C dX2_solve_82 wd_678 ?_
        refine j_lmul (pc := 85) C dX2_solve_85 ?_
        refine j_bipush (pc := 86) (v := 50) C dX2_solve_86 (by decide) ?_
        refine j_lushr (pc := 88) C dX2_solve_88 ?_
        refine j_l2i (pc := 89) C dX2_solve_89 ?_
        refine gJ.topi (fun n6 en6 => ?_)
        have h := h n6 en6
        refine j_istore (pc := 90) (lv' := [(6, .int n6), (4, .long n5), (0, .ref (V.2.1 94)), (1, .int a1), (2, .int a2), (3, .int a3)]) C dX2_solve_90 (by decide) rfl ?_
        refine j_aload_n (pc := 92) C dX2_solve_92 rfl 2 rfl ?_
        refine j_getR (pc := 93) C 94 1 95 (c_94 hCV).1 (c_94 hCV).2 rfl rfl (by decide) inw_X2 wd_616 dX2_solve_93 ?_
        refine j_iload (pc := 96) C dX2_solve_96 0 rfl ?_
        obtain ⟨g7, h⟩ := h
        refine j_lald (pc := 98) C 95 (c_95 hCV).1 (c_95 hCV).2 g7 dX2_solve_98 ?_
        refine j_lload (pc := 99) C dX2_solve_99 1 rfl ?_
        refine j_lcmp (pc := 101) C dX2_solve_101 ?_
        refine j_if_eq (pc := 102) (tgt := 132) C dX2_solve_102 (by decide) (fun c8 => ?_) (fun c8 => ?_)
        · have h := h.1 c8
          refine gJ.sub [2, 0] rfl ?_
          exact t_X2_solve_132 hJG hCV hrc C hX hR   h
        · have h := h.2 c8
          refine j_aload_n (pc := 105) C dX2_solve_105 rfl 2 rfl ?_
          refine j_iload_n (pc := 106) C dX2_solve_106 rfl 3 rfl ?_
          refine j_iload_n (pc := 107) C dX2_solve_107 rfl 4 rfl ?_
          refine j_iload_n (pc := 108) C dX2_solve_108 rfl 5 rfl ?_
          refine j_callV (pc := 109) (As := [.int a1, .int a2, .int a3]) (st := []) C hX 94 (m_X2_tryEach hJG hCV hrc h) (c_94 hCV).1 (c_94 hCV).2 rfl ok_X2_tryEach wd_679 wd_681 wd_22 ⟨show f0 + 1 + 1 ≤ f0 + 2 by omega, show 8 + (15 + 11) + (l0 + 28) ≤ l0 + 62 by omega⟩ rfl rfl (Nat.le_of_ble_eq_true rfl) ⟨Nat.le_refl 0, Nat.le_refl 0⟩ dX2_solve_109 (fun r V1 I1 J11 hp => ?_)
          obtain ⟨r10, rfl, rfl, rfl, h⟩ := hp
          show gJ X V 0 0 112 _ [.long r10] _ _
          refine j_lstore (pc := 112) (lv' := [(7, .long r10), (6, .int n6), (4, .long n5), (0, .ref (V.2.1 94)), (1, .int a1), (2, .int a2), (3, .int a3)]) C dX2_solve_112 (by decide) rfl ?_
          refine j_aload_n (pc := 114) C dX2_solve_114 rfl 3 rfl ?_
          refine j_getR (pc := 115) C 94 1 95 (c_94 hCV).1 (c_94 hCV).2 rfl rfl (by decide) inw_X2 wd_616 dX2_solve_115 ?_
          refine j_iload (pc := 118) C dX2_solve_118 1 rfl ?_
          refine j_lload (pc := 120) C dX2_solve_120 2 rfl ?_
          obtain ⟨g12, h⟩ := h
          refine j_last (pc := 122) C 95 (c_95 hCV).1 (c_95 hCV).2 g12 dX2_solve_122 ?_
          refine gJ.nmJ (fun J13 eJ13 => ?_)
          have h := h J13 eJ13
          refine j_aload_n (pc := 123) C dX2_solve_123 rfl 3 rfl ?_
          refine j_getR (pc := 124) C 94 2 96 (c_94 hCV).1 (c_94 hCV).2 rfl rfl (by decide) inw_X2 wd_617 dX2_solve_124 ?_
          refine j_iload (pc := 127) C dX2_solve_127 1 rfl ?_
          refine j_lload (pc := 129) C dX2_solve_129 0 rfl ?_
          obtain ⟨g14, h⟩ := h
          refine j_last (pc := 131) C 96 (c_96 hCV).1 (c_96 hCV).2 g14 dX2_solve_131 ?_
          refine gJ.nmJ (fun J15 eJ15 => ?_)
          have h := h J15 eJ15
          refine gJ.sub [3, 1] rfl ?_
          exact t_X2_solve_132 hJG hCV hrc C hX hR   h
      · have h := h.2 c4
        refine j_lconst (pc := 46) (v := 0) C dX2_solve_46 (by decide) ?_
        exact j_lret (pc := 47) C hR (Nat.zero_le _) (Nat.zero_le _) dX2_solve_47 ⟨_, rfl, rfl, rfl, h⟩
  · have h := h.2 c1
    refine j_aload_n (pc := 8) C dX2_solve_8 rfl 0 rfl ?_
    refine j_getI (pc := 9) C 94 5 (c_94 hCV).1 (c_94 hCV).2 rfl rfl (by decide) inw_X2 wd_620 dX2_solve_9 ?_
    refine j_if_ne (pc := 12) (tgt := 27) C dX2_solve_12 (by decide) (fun c16 => ?_) (fun c16 => ?_)
    · have h := h.1 c16
      refine j_ldc2 (pc := 27) (v := 32) C dX2_solve_27 wd_671 ?_
      exact j_lret (pc := 30) C hR (Nat.zero_le _) (Nat.zero_le _) dX2_solve_30 ⟨_, rfl, rfl, rfl, h⟩
    · have h := h.2 c16
      refine j_iload_n (pc := 15) C dX2_solve_15 rfl 2 rfl ?_
      refine j_aload_n (pc := 16) C dX2_solve_16 rfl 0 rfl ?_
      refine j_getI (pc := 17) C 94 7 (c_94 hCV).1 (c_94 hCV).2 rfl rfl (by decide) inw_X2 wd_622 dX2_solve_17 ?_
      refine j_icmp_eq (pc := 20) (tgt := 27) C dX2_solve_20 (by decide) (fun c17 => ?_) (fun c17 => ?_)
      · have h := h.1 c17
        refine j_ldc2 (pc := 27) (v := 32) C dX2_solve_27 wd_671 ?_
        exact j_lret (pc := 30) C hR (Nat.zero_le _) (Nat.zero_le _) dX2_solve_30 ⟨_, rfl, rfl, rfl, h⟩
      · have h := h.2 c17
        refine j_lconst (pc := 23) (v := 0) C dX2_solve_23 (by decide) ?_
        refine j_goto (pc := 24) (tgt := 30) C dX2_solve_24 (by decide) ?_
        exact j_lret (pc := 30) C hR (Nat.zero_le _) (Nat.zero_le _) dX2_solve_30 ⟨_, rfl, rfl, rfl, h⟩
def wp_X2_solve : Nat → Int32 → Int32 → Int32 → gI → gL → (Int64 → gL → Prop) → Prop
  | 0 => fun _ _ _ _ _ _ => False
  | n + 1 => wb_X2_solve (wp_X2_solve n) 
abbrev rmn_X2_solve (n : Nat) : Room := { frames := 2 * n, cells := 0, slots := 0, locals := 62 * n }
theorem m_X2_solve {l : Launch} {D : va_G} {cy : Nat → ClassId} {V : gV} (hJG : gModJG V) (hCV : gModCV V) : ∀ (n : Nat) (a1 : Int32) (a2 : Int32) (a3 : Int32) (I : gI) (J : gL) (Po : Int64 → gL → Prop), wp_X2_solve n a1 a2 a3 I J Po → gMet l D cy yX2_solve cX2_solve 9 (some .long) (rmn_X2_solve n) V [.ref (V.2.1 94), .int a1, .int a2, .int a3] I J (gPl V (fun x I' J' => I = I' ∧ Po x J'))
  | 0, a1, a2, a3, I, J, Po, h => absurd h id
  | n + 1, a1, a2, a3, I, J, Po, h => mb_X2_solve (f0 := 2 * n) (l0 := 62 * n) hJG hCV (fun b0 b1 b2 I0 J0 Q0 h0 => m_X2_solve hJG hCV n b0 b1 b2 I0 J0 Q0 h0) h
/-! TileRules$CoverSearch.countCovers()J -/
abbrev rm_X2_countCovers : Room := { frames := 47, cells := 0, slots := 0, locals := 1454 }
theorem ok_X2_countCovers : gOk yX2_countCovers cX2_countCovers 1 (some .long) 0 := ⟨wd_666, wd_81, by decide +kernel⟩
def wp_X2_countCovers (I : gI) (J : gL) (Po : Int64 → gL → Prop) : Prop :=
  wp_X2_solve 23 (I 20 3) (0 : Int32) (0 : Int32) I J (fun r1 J2 => Po (((r1).toUInt64 >>> (((5 : Int32)).toInt64.toUInt64 &&& Int64.toUInt64 63)).toInt64) J2)
set_option maxRecDepth 100000 in
set_option maxHeartbeats 4000000 in
theorem m_X2_countCovers {l : Launch} {D : va_G} {cy : Nat → ClassId} {V : gV} (hJG : gModJG V) (hCV : gModCV V) {I : gI} {J : gL} {Po : Int64 → gL → Prop} (h : wp_X2_countCovers I J Po) : gMet l D cy yX2_countCovers cX2_countCovers 1 (some .long) rm_X2_countCovers V [.ref (V.2.1 94)] I J (gPl V (fun x I' J' => I = I' ∧ Po x J')) := by
  refine gMet.of (by decide) (Nat.le_of_ble_eq_true rfl) (fun X hX C hR => ?_)
  have C : gC X cX2_countCovers RX2 (some .long) 1 rm_X2_countCovers := C
  show gJ X V 0 0 0 [(0, .ref (V.2.1 94))] [] I J
  unfold wp_X2_countCovers at h
  refine j_aload_n (pc := 0) C dX2_countCovers_0 rfl 0 rfl ?_
  refine j_aload_n (pc := 1) C dX2_countCovers_1 rfl 0 rfl ?_
  refine j_getR (pc := 2) C 94 0 20 (c_94 hCV).1 (c_94 hCV).2 rfl rfl (by decide) inw_X2 wd_615 dX2_countCovers_2 ?_
  refine j_getI (pc := 5) C 20 3 (c_20 hJG).1 (c_20 hJG).2 rfl rfl (by decide) inw_X4 wd_140 dX2_countCovers_5 ?_
  refine j_iconst (pc := 8) (v := 0) C dX2_countCovers_8 (by decide) ?_
  refine j_iconst (pc := 9) (v := 0) C dX2_countCovers_9 (by decide) ?_
  refine j_callV (pc := 10) (As := [.int (I 20 3), .int (0 : Int32), .int (0 : Int32)]) (st := []) C hX 94 (m_X2_solve hJG hCV 23 _ _ _ _ _ _ h) (c_94 hCV).1 (c_94 hCV).2 rfl ok_X2_solve wd_667 wd_669 wd_20 ⟨by decide, by decide⟩ rfl rfl (Nat.le_of_ble_eq_true rfl) ⟨Nat.le_refl 0, Nat.le_refl 0⟩ dX2_countCovers_10 (fun r V1 I1 J2 hp => ?_)
  obtain ⟨r1, rfl, rfl, rfl, h⟩ := hp
  show gJ X V 0 0 13 _ [.long r1] _ _
  refine j_iconst (pc := 13) (v := 5) C dX2_countCovers_13 (by decide) ?_
  refine j_lushr (pc := 14) C dX2_countCovers_14 ?_
  exact j_lret (pc := 15) C hR (Nat.zero_le _) (Nat.zero_le _) dX2_countCovers_15 ⟨_, rfl, rfl, rfl, h⟩
/-! TileRules$CoverSearch.fewestPlacements()I -/
abbrev rm_X2_fewestPlacements : Room := { frames := 47, cells := 0, slots := 0, locals := 1454 }
theorem ok_X2_fewestPlacements : gOk yX2_fewestPlacements cX2_fewestPlacements 3 (some .int) 0 := ⟨wd_716, wd_81, by decide +kernel⟩
def wp_X2_fewestPlacements (I : gI) (J : gL) (Po : Int32 → gL → Prop) : Prop :=
  wp_X2_solve 23 (I 20 3) (0 : Int32) (0 : Int32) I J (fun r1 J2 => (¬ (lg_cmp r1 (0 : Int64)) = 0 → Po (((r1 &&& (31 : Int64))).toInt32) J2) ∧ ((lg_cmp r1 (0 : Int64)) = 0 → Po (-1 : Int32) J2))
set_option maxRecDepth 100000 in
set_option maxHeartbeats 4000000 in
theorem m_X2_fewestPlacements {l : Launch} {D : va_G} {cy : Nat → ClassId} {V : gV} (hJG : gModJG V) (hCV : gModCV V) {I : gI} {J : gL} {Po : Int32 → gL → Prop} (h : wp_X2_fewestPlacements I J Po) : gMet l D cy yX2_fewestPlacements cX2_fewestPlacements 3 (some .int) rm_X2_fewestPlacements V [.ref (V.2.1 94)] I J (gPi V (fun x I' J' => I = I' ∧ Po x J')) := by
  refine gMet.of (by decide) (Nat.le_of_ble_eq_true rfl) (fun X hX C hR => ?_)
  have C : gC X cX2_fewestPlacements RX2 (some .int) 3 rm_X2_fewestPlacements := C
  show gJ X V 0 0 0 [(0, .ref (V.2.1 94))] [] I J
  unfold wp_X2_fewestPlacements at h
  refine j_aload_n (pc := 0) C dX2_fewestPlacements_0 rfl 0 rfl ?_
  refine j_aload_n (pc := 1) C dX2_fewestPlacements_1 rfl 0 rfl ?_
  refine j_getR (pc := 2) C 94 0 20 (c_94 hCV).1 (c_94 hCV).2 rfl rfl (by decide) inw_X2 wd_615 dX2_fewestPlacements_2 ?_
  refine j_getI (pc := 5) C 20 3 (c_20 hJG).1 (c_20 hJG).2 rfl rfl (by decide) inw_X4 wd_140 dX2_fewestPlacements_5 ?_
  refine j_iconst (pc := 8) (v := 0) C dX2_fewestPlacements_8 (by decide) ?_
  refine j_iconst (pc := 9) (v := 0) C dX2_fewestPlacements_9 (by decide) ?_
  refine j_callV (pc := 10) (As := [.int (I 20 3), .int (0 : Int32), .int (0 : Int32)]) (st := []) C hX 94 (m_X2_solve hJG hCV 23 _ _ _ _ _ _ h) (c_94 hCV).1 (c_94 hCV).2 rfl ok_X2_solve wd_667 wd_669 wd_20 ⟨by decide, by decide⟩ rfl rfl (Nat.le_of_ble_eq_true rfl) ⟨Nat.le_refl 0, Nat.le_refl 0⟩ dX2_fewestPlacements_10 (fun r V1 I1 J2 hp => ?_)
  obtain ⟨r1, rfl, rfl, rfl, h⟩ := hp
  show gJ X V 0 0 13 _ [.long r1] _ _
  refine j_lstore_n (pc := 13) (lv' := [(1, .long r1), (0, .ref (V.2.1 94))]) C dX2_fewestPlacements_13 rfl (by decide) rfl ?_
  refine j_lload_n (pc := 14) C dX2_fewestPlacements_14 rfl 0 rfl ?_
  refine j_lconst (pc := 15) (v := 0) C dX2_fewestPlacements_15 (by decide) ?_
  refine j_lcmp (pc := 16) C dX2_fewestPlacements_16 ?_
  refine j_if_ne (pc := 17) (tgt := 24) C dX2_fewestPlacements_17 (by decide) (fun c3 => ?_) (fun c3 => ?_)
  · have h := h.1 c3
    refine j_lload_n (pc := 24) C dX2_fewestPlacements_24 rfl 0 rfl ?_
    refine j_ldc2 (pc := 25) (v := 31) C dX2_fewestPlacements_25 wd_695 ?_
    refine j_land (pc := 28) C dX2_fewestPlacements_28 ?_
    refine j_l2i (pc := 29) C dX2_fewestPlacements_29 ?_
    exact j_iret (pc := 30) C hR (Nat.zero_le _) (Nat.zero_le _) dX2_fewestPlacements_30 ⟨_, rfl, rfl, rfl, h⟩
  · have h := h.2 c3
    refine j_iconst (pc := 20) (v := (-1)) C dX2_fewestPlacements_20 (by decide) ?_
    refine j_goto (pc := 21) (tgt := 30) C dX2_fewestPlacements_21 (by decide) ?_
    exact j_iret (pc := 30) C hR (Nat.zero_le _) (Nat.zero_le _) dX2_fewestPlacements_30 ⟨_, rfl, rfl, rfl, h⟩
/-! TileRules$CoverSearch.chooseLeast(III)Z -/
abbrev rm_X2_chooseLeast : Room := { frames := 47, cells := 0, slots := 0, locals := 1454 }
theorem ok_X2_chooseLeast : gOk yX2_chooseLeast cX2_chooseLeast 10 (some .boolean) 3 := ⟨wd_708, wd_81, by decide +kernel⟩
def w_X2_chooseLeast_128  (Po : Int32 → gI → gL → Prop) (K11 : Int32 → gL → Prop) (K52 : Int32 → gL → Prop) (v1 : Int32) (v2 : Int32) (v3 : Int32) (v4 : Int32) (v5 : Int32) (v6 : Int32) (v7 : Int32) (I : gI) (J : gL) : Prop :=
  ∀ n10 : Int32, n10 = v7 + 1 → K52 n10 J
def w_X2_chooseLeast_86  (Po : Int32 → gI → gL → Prop) (K11 : Int32 → gL → Prop) (K52 : Int32 → gL → Prop) (v1 : Int32) (v2 : Int32) (v3 : Int32) (v4 : Int32) (v5 : Int32) (v6 : Int32) (v7 : Int32) (v8 : Int32) (s0 : Int32) (I : gI) (J : gL) : Prop :=
  (s0 = 0 → w_X2_chooseLeast_128 Po K11 K52 v1 v2 v3 v4 v5 v6 v7 I J) ∧ (¬ s0 = 0 → wp_X2_usedWith v2 v5 I (fun r11 => wp_X2_solve 23 (v1 ||| v8) r11 v3 I J (fun r12 J13 => ((lg_cmp r12 (0 : Int64)) = 0 → w_X2_chooseLeast_128 Po K11 K52 v1 v2 v3 v4 v5 v6 v7 I J13) ∧ (¬ (lg_cmp r12 (0 : Int64)) = 0 → ∀ I15 : gI, I15 = gup I 94 8 v5 → ∀ I16 : gI, I16 = gup I15 94 9 v8 → Po (1 : Int32) I16 J13))))
def w_X2_chooseLeast_52b  (Po : Int32 → gI → gL → Prop) (K11 : Int32 → gL → Prop) (K52 : Int32 → gL → Prop) (v1 : Int32) (v2 : Int32) (v3 : Int32) (v4 : Int32) (v5 : Int32) (v6 : Int32) (v7 : Int32) (I : gI) (J : gL) : Prop :=
  (v6 ≤ v7 → ∀ n6 : Int32, n6 = v5 + 1 → K11 n6 J) ∧ (¬ v6 ≤ v7 → wp_X4_placementFrom v5 v4 v7 I (fun r7 => (¬ (r7 &&& v1) = 0 → w_X2_chooseLeast_86 Po K11 K52 v1 v2 v3 v4 v5 v6 v7 r7 (0 : Int32) I J) ∧ ((r7 &&& v1) = 0 → w_X2_chooseLeast_86 Po K11 K52 v1 v2 v3 v4 v5 v6 v7 r7 (1 : Int32) I J)))
def w_X2_chooseLeast_52  (Po : Int32 → gI → gL → Prop) (K11 : Int32 → gL → Prop) (v1 : Int32) (v2 : Int32) (v3 : Int32) (v4 : Int32) (v5 : Int32) (v6 : Int32) (v7 : Int32) (I : gI) (J : gL) : Prop :=
  ∃ (Inv : Int32 → gL → Prop) (mu : Int32 → gL → Nat), Inv v7 J ∧ ∀ (v7 : Int32) (J : gL), Inv v7 J → w_X2_chooseLeast_52b  Po K11 (fun u7 J1 => Inv u7 J1 ∧ mu u7 J1 < mu v7 J) v1 v2 v3 v4 v5 v6 v7 I J
def w_X2_chooseLeast_47  (Po : Int32 → gI → gL → Prop) (K11 : Int32 → gL → Prop) (v1 : Int32) (v2 : Int32) (v3 : Int32) (v4 : Int32) (v5 : Int32) (s0 : Int32) (I : gI) (J : gL) : Prop :=
  w_X2_chooseLeast_52 Po K11 v1 v2 v3 v4 v5 s0 (0 : Int32) I J
def w_X2_chooseLeast_11b  (Po : Int32 → gI → gL → Prop) (K11 : Int32 → gL → Prop) (v1 : Int32) (v2 : Int32) (v3 : Int32) (v4 : Int32) (v5 : Int32) (I : gI) (J : gL) : Prop :=
  ((I 20 0) ≤ v5 → Po (0 : Int32) I J) ∧ (¬ (I 20 0) ≤ v5 → (((v2 >>> (v5 &&& 31)) &&& (1 : Int32)) = 0 → wp_X4_countPlacementsFrom v5 v4 I (fun r4 => w_X2_chooseLeast_47 Po K11 v1 v2 v3 v4 v5 r4 I J)) ∧ (¬ ((v2 >>> (v5 &&& 31)) &&& (1 : Int32)) = 0 → w_X2_chooseLeast_47 Po K11 v1 v2 v3 v4 v5 (0 : Int32) I J))
def w_X2_chooseLeast_11  (Po : Int32 → gI → gL → Prop)  (v1 : Int32) (v2 : Int32) (v3 : Int32) (v4 : Int32) (v5 : Int32) (I : gI) (J : gL) : Prop :=
  ∃ (Inv : Int32 → gL → Prop) (mu : Int32 → gL → Nat), Inv v5 J ∧ ∀ (v5 : Int32) (J : gL), Inv v5 J → w_X2_chooseLeast_11b  Po  (fun u5 J1 => Inv u5 J1 ∧ mu u5 J1 < mu v5 J) v1 v2 v3 v4 v5 I J
def wp_X2_chooseLeast (a1 : Int32) (a2 : Int32) (a3 : Int32) (I : gI) (J : gL) (Po : Int32 → gI → gL → Prop) : Prop :=
  wp_J6_numberOfTrailingZeros_0f7a4 (a1 ^^^ (-1 : Int32)) (fun r1 => w_X2_chooseLeast_11 Po a1 a2 a3 r1 (0 : Int32) I J)
set_option maxRecDepth 100000 in
set_option maxHeartbeats 4000000 in
theorem t_X2_chooseLeast_128 {X : gX} {l : Launch} {D : va_G} {cy : Nat → ClassId} {nm : String} {V : gV} (hJG : gModJG V) (hCV : gModCV V) (C : gC X cX2_chooseLeast RX2 (some .boolean) 10 rm_X2_chooseLeast) (hX : gIs X l D cy nm) {I : gI} {J : gL} {Po : Int32 → gI → gL → Prop} (hR : gR X (gPi V (fun x I' J' => Po x I' J'))) {v1 : Int32} {v2 : Int32} {v3 : Int32} {v4 : Int32} {v5 : Int32} {v6 : Int32} {v7 : Int32} {K11 : Int32 → gL → Prop} {K52 : Int32 → gL → Prop} (hK11 : ∀ (y5 : Int32) (J1 : gL), K11 y5 J1 → gJ X V 0 0 11 [(0, .ref (V.2.1 94)), (1, .int v1), (2, .int v2), (3, .int v3), (4, .int v4), (5, .int y5)] [] I J1) (hK52 : ∀ (y7 : Int32) (J1 : gL), K52 y7 J1 → gJ X V 0 0 52 [(0, .ref (V.2.1 94)), (1, .int v1), (2, .int v2), (3, .int v3), (4, .int v4), (5, .int v5), (6, .int v6), (7, .int y7)] [] I J1) (h : w_X2_chooseLeast_128 Po K11 K52 v1 v2 v3 v4 v5 v6 v7 I J) : gJ X V 0 0 128 [(0, .ref (V.2.1 94)), (1, .int v1), (2, .int v2), (3, .int v3), (4, .int v4), (5, .int v5), (6, .int v6), (7, .int v7)] [] I J := by
  unfold w_X2_chooseLeast_128 at h
  obtain ⟨n10, en10⟩ : ∃ z : Int32, z = v7 + 1 := ⟨_, rfl⟩
  have h := h n10 en10
  refine j_iinc (pc := 128) (v := n10) (lv' := [(7, .int n10), (0, .ref (V.2.1 94)), (1, .int v1), (2, .int v2), (3, .int v3), (4, .int v4), (5, .int v5), (6, .int v6)]) C dX2_chooseLeast_128 7 rfl (by rw [en10]; rfl) (by decide) rfl ?_
  refine j_goto (pc := 131) (tgt := 52) C dX2_chooseLeast_131 (by decide) ?_
  refine gJ.sub [1, 2, 3, 4, 5, 6, 7, 0] rfl ?_
  exact hK52 _ _ h
set_option maxRecDepth 100000 in
set_option maxHeartbeats 4000000 in
theorem t_X2_chooseLeast_86 {X : gX} {l : Launch} {D : va_G} {cy : Nat → ClassId} {nm : String} {V : gV} (hJG : gModJG V) (hCV : gModCV V) (C : gC X cX2_chooseLeast RX2 (some .boolean) 10 rm_X2_chooseLeast) (hX : gIs X l D cy nm) {I : gI} {J : gL} {Po : Int32 → gI → gL → Prop} (hR : gR X (gPi V (fun x I' J' => Po x I' J'))) {v1 : Int32} {v2 : Int32} {v3 : Int32} {v4 : Int32} {v5 : Int32} {v6 : Int32} {v7 : Int32} {v8 : Int32} {s0 : Int32} {K11 : Int32 → gL → Prop} {K52 : Int32 → gL → Prop} (hK11 : ∀ (y5 : Int32) (J1 : gL), K11 y5 J1 → gJ X V 0 0 11 [(0, .ref (V.2.1 94)), (1, .int v1), (2, .int v2), (3, .int v3), (4, .int v4), (5, .int y5)] [] I J1) (hK52 : ∀ (y7 : Int32) (J1 : gL), K52 y7 J1 → gJ X V 0 0 52 [(0, .ref (V.2.1 94)), (1, .int v1), (2, .int v2), (3, .int v3), (4, .int v4), (5, .int v5), (6, .int v6), (7, .int y7)] [] I J1) (h : w_X2_chooseLeast_86 Po K11 K52 v1 v2 v3 v4 v5 v6 v7 v8 s0 I J) : gJ X V 0 0 86 [(0, .ref (V.2.1 94)), (1, .int v1), (2, .int v2), (3, .int v3), (4, .int v4), (5, .int v5), (6, .int v6), (7, .int v7), (8, .int v8)] [.int s0] I J := by
  unfold w_X2_chooseLeast_86 at h
  refine j_istore (pc := 86) (lv' := [(9, .int s0), (0, .ref (V.2.1 94)), (1, .int v1), (2, .int v2), (3, .int v3), (4, .int v4), (5, .int v5), (6, .int v6), (7, .int v7), (8, .int v8)]) C dX2_chooseLeast_86 (by decide) rfl ?_
  refine j_iload (pc := 88) C dX2_chooseLeast_88 0 rfl ?_
  refine j_if_eq (pc := 90) (tgt := 128) C dX2_chooseLeast_90 (by decide) (fun c9 => ?_) (fun c9 => ?_)
  · have h := h.1 c9
    refine gJ.sub [1, 2, 3, 4, 5, 6, 7, 8] rfl ?_
    exact t_X2_chooseLeast_128 hJG hCV C hX hR  hK11 hK52 h
  · have h := h.2 c9
    refine j_aload_n (pc := 93) C dX2_chooseLeast_93 rfl 1 rfl ?_
    refine j_iload_n (pc := 94) C dX2_chooseLeast_94 rfl 2 rfl ?_
    refine j_iload (pc := 95) C dX2_chooseLeast_95 9 rfl ?_
    refine j_ior (pc := 97) C dX2_chooseLeast_97 ?_
    refine j_aload_n (pc := 98) C dX2_chooseLeast_98 rfl 1 rfl ?_
    refine j_iload_n (pc := 99) C dX2_chooseLeast_99 rfl 3 rfl ?_
    refine j_iload (pc := 100) C dX2_chooseLeast_100 6 rfl ?_
    refine j_callV (pc := 102) (As := [.int v2, .int v5]) (st := [.int (v1 ||| v8), .ref (V.2.1 94)]) C hX 94 (m_X2_usedWith hJG hCV  h) (c_94 hCV).1 (c_94 hCV).2 rfl ok_X2_usedWith wd_691 wd_693 wd_23 ⟨by decide, by decide⟩ rfl rfl (Nat.le_of_ble_eq_true rfl) ⟨Nat.le_refl 0, Nat.le_refl 0⟩ dX2_chooseLeast_102 (fun r V1 I1 J1 hp => ?_)
    obtain ⟨r11, rfl, rfl, rfl, rfl, h⟩ := hp
    show gJ X V 0 0 105 _ [.int r11, .int (v1 ||| v8), .ref (V.2.1 94)] _ _
    refine j_iload_n (pc := 105) C dX2_chooseLeast_105 rfl 4 rfl ?_
    refine j_callV (pc := 106) (As := [.int (v1 ||| v8), .int r11, .int v3]) (st := []) C hX 94 (m_X2_solve hJG hCV 23 _ _ _ _ _ _ h) (c_94 hCV).1 (c_94 hCV).2 rfl ok_X2_solve wd_667 wd_669 wd_20 ⟨by decide, by decide⟩ rfl rfl (Nat.le_of_ble_eq_true rfl) ⟨Nat.le_refl 0, Nat.le_refl 0⟩ dX2_chooseLeast_106 (fun r V1 I1 J13 hp => ?_)
    obtain ⟨r12, rfl, rfl, rfl, h⟩ := hp
    show gJ X V 0 0 109 _ [.long r12] _ _
    refine j_lconst (pc := 109) (v := 0) C dX2_chooseLeast_109 (by decide) ?_
    refine j_lcmp (pc := 110) C dX2_chooseLeast_110 ?_
    refine j_if_eq (pc := 111) (tgt := 128) C dX2_chooseLeast_111 (by decide) (fun c14 => ?_) (fun c14 => ?_)
    · have h := h.1 c14
      refine gJ.sub [1, 2, 3, 4, 5, 6, 7, 8] rfl ?_
      exact t_X2_chooseLeast_128 hJG hCV C hX hR  hK11 hK52 h
    · have h := h.2 c14
      refine j_aload_n (pc := 114) C dX2_chooseLeast_114 rfl 1 rfl ?_
      refine j_iload (pc := 115) C dX2_chooseLeast_115 6 rfl ?_
      refine j_putI (pc := 117) (ft := .int) C tyX2 tyX2_ok nmX2 94 8 (c_94 hCV).1 (c_94 hCV).2 rfl rfl (by decide) inw_X2 wd_623 rfl (by decide +kernel) rfl rfl dX2_chooseLeast_117 ?_
      refine gJ.nmI (fun I15 eI15 => ?_)
      have h := h I15 eI15
      refine j_aload_n (pc := 120) C dX2_chooseLeast_120 rfl 1 rfl ?_
      refine j_iload (pc := 121) C dX2_chooseLeast_121 9 rfl ?_
      refine j_putI (pc := 123) (ft := .int) C tyX2 tyX2_ok nmX2 94 9 (c_94 hCV).1 (c_94 hCV).2 rfl rfl (by decide) inw_X2 wd_625 rfl (by decide +kernel) rfl rfl dX2_chooseLeast_123 ?_
      refine gJ.nmI (fun I16 eI16 => ?_)
      have h := h I16 eI16
      refine j_iconst (pc := 126) (v := 1) C dX2_chooseLeast_126 (by decide) ?_
      exact j_zret (pc := 127) C hR (Or.inr rfl) (Nat.zero_le _) (Nat.zero_le _) dX2_chooseLeast_127 ⟨_, rfl, rfl, h⟩
set_option maxRecDepth 100000 in
set_option maxHeartbeats 4000000 in
theorem t_X2_chooseLeast_52b {X : gX} {l : Launch} {D : va_G} {cy : Nat → ClassId} {nm : String} {V : gV} (hJG : gModJG V) (hCV : gModCV V) (C : gC X cX2_chooseLeast RX2 (some .boolean) 10 rm_X2_chooseLeast) (hX : gIs X l D cy nm) {I : gI} {J : gL} {Po : Int32 → gI → gL → Prop} (hR : gR X (gPi V (fun x I' J' => Po x I' J'))) {v1 : Int32} {v2 : Int32} {v3 : Int32} {v4 : Int32} {v5 : Int32} {v6 : Int32} {v7 : Int32} {K11 : Int32 → gL → Prop} {K52 : Int32 → gL → Prop} (hK11 : ∀ (y5 : Int32) (J1 : gL), K11 y5 J1 → gJ X V 0 0 11 [(0, .ref (V.2.1 94)), (1, .int v1), (2, .int v2), (3, .int v3), (4, .int v4), (5, .int y5)] [] I J1) (hK52 : ∀ (y7 : Int32) (J1 : gL), K52 y7 J1 → gJ X V 0 0 52 [(0, .ref (V.2.1 94)), (1, .int v1), (2, .int v2), (3, .int v3), (4, .int v4), (5, .int v5), (6, .int v6), (7, .int y7)] [] I J1) (h : w_X2_chooseLeast_52b Po K11 K52 v1 v2 v3 v4 v5 v6 v7 I J) : gJ X V 0 0 52 [(0, .ref (V.2.1 94)), (1, .int v1), (2, .int v2), (3, .int v3), (4, .int v4), (5, .int v5), (6, .int v6), (7, .int v7)] [] I J := by
  unfold w_X2_chooseLeast_52b at h
  refine j_iload (pc := 52) C dX2_chooseLeast_52 7 rfl ?_
  refine j_iload (pc := 54) C dX2_chooseLeast_54 6 rfl ?_
  refine j_icmp_ge (pc := 56) (tgt := 134) C dX2_chooseLeast_56 (by decide) (fun c5 => ?_) (fun c5 => ?_)
  · have h := h.1 c5
    obtain ⟨n6, en6⟩ : ∃ z : Int32, z = v5 + 1 := ⟨_, rfl⟩
    have h := h n6 en6
    refine j_iinc (pc := 134) (v := n6) (lv' := [(5, .int n6), (0, .ref (V.2.1 94)), (1, .int v1), (2, .int v2), (3, .int v3), (4, .int v4), (6, .int v6), (7, .int v7)]) C dX2_chooseLeast_134 5 rfl (by rw [en6]; rfl) (by decide) rfl ?_
    refine j_goto (pc := 137) (tgt := 11) C dX2_chooseLeast_137 (by decide) ?_
    refine gJ.sub [1, 2, 3, 4, 5, 0] rfl ?_
    exact hK11 _ _ h
  · have h := h.2 c5
    refine j_aload_n (pc := 59) C dX2_chooseLeast_59 rfl 0 rfl ?_
    refine j_getR (pc := 60) C 94 0 20 (c_94 hCV).1 (c_94 hCV).2 rfl rfl (by decide) inw_X2 wd_615 dX2_chooseLeast_60 ?_
    refine j_iload (pc := 63) C dX2_chooseLeast_63 5 rfl ?_
    refine j_iload (pc := 65) C dX2_chooseLeast_65 4 rfl ?_
    refine j_iload (pc := 67) C dX2_chooseLeast_67 7 rfl ?_
    refine j_callV (pc := 69) (As := [.int v5, .int v4, .int v7]) (st := []) C hX 20 (m_X4_placementFrom hJG  h) (c_20 hJG).1 (c_20 hJG).2 rfl ok_X4_placementFrom wd_687 wd_688 wd_689 ⟨by decide, by decide⟩ rfl rfl (Nat.le_of_ble_eq_true rfl) ⟨Nat.le_refl 0, Nat.le_refl 0⟩ dX2_chooseLeast_69 (fun r V1 I1 J1 hp => ?_)
    obtain ⟨r7, rfl, rfl, rfl, rfl, h⟩ := hp
    show gJ X V 0 0 72 _ [.int r7] _ _
    refine j_istore (pc := 72) (lv' := [(8, .int r7), (0, .ref (V.2.1 94)), (1, .int v1), (2, .int v2), (3, .int v3), (4, .int v4), (5, .int v5), (6, .int v6), (7, .int v7)]) C dX2_chooseLeast_72 (by decide) rfl ?_
    refine j_iload (pc := 74) C dX2_chooseLeast_74 0 rfl ?_
    refine j_iload_n (pc := 76) C dX2_chooseLeast_76 rfl 2 rfl ?_
    refine j_iand (pc := 77) C dX2_chooseLeast_77 ?_
    refine j_if_ne (pc := 78) (tgt := 85) C dX2_chooseLeast_78 (by decide) (fun c8 => ?_) (fun c8 => ?_)
    · have h := h.1 c8
      refine j_iconst (pc := 85) (v := 0) C dX2_chooseLeast_85 (by decide) ?_
      refine gJ.sub [1, 2, 3, 4, 5, 6, 7, 8, 0] rfl ?_
      exact t_X2_chooseLeast_86 hJG hCV C hX hR  hK11 hK52 h
    · have h := h.2 c8
      refine j_iconst (pc := 81) (v := 1) C dX2_chooseLeast_81 (by decide) ?_
      refine j_goto (pc := 82) (tgt := 86) C dX2_chooseLeast_82 (by decide) ?_
      refine gJ.sub [1, 2, 3, 4, 5, 6, 7, 8, 0] rfl ?_
      exact t_X2_chooseLeast_86 hJG hCV C hX hR  hK11 hK52 h
set_option maxRecDepth 100000 in
set_option maxHeartbeats 4000000 in
theorem t_X2_chooseLeast_52 {X : gX} {l : Launch} {D : va_G} {cy : Nat → ClassId} {nm : String} {V : gV} (hJG : gModJG V) (hCV : gModCV V) (C : gC X cX2_chooseLeast RX2 (some .boolean) 10 rm_X2_chooseLeast) (hX : gIs X l D cy nm) {I : gI} {J : gL} {Po : Int32 → gI → gL → Prop} (hR : gR X (gPi V (fun x I' J' => Po x I' J'))) {v1 : Int32} {v2 : Int32} {v3 : Int32} {v4 : Int32} {v5 : Int32} {v6 : Int32} {v7 : Int32} {K11 : Int32 → gL → Prop} (hK11 : ∀ (y5 : Int32) (J1 : gL), K11 y5 J1 → gJ X V 0 0 11 [(0, .ref (V.2.1 94)), (1, .int v1), (2, .int v2), (3, .int v3), (4, .int v4), (5, .int y5)] [] I J1) (h : w_X2_chooseLeast_52 Po K11 v1 v2 v3 v4 v5 v6 v7 I J) : gJ X V 0 0 52 [(0, .ref (V.2.1 94)), (1, .int v1), (2, .int v2), (3, .int v3), (4, .int v4), (5, .int v5), (6, .int v6), (7, .int v7)] [] I J := by
  unfold w_X2_chooseLeast_52 at h
  obtain ⟨Inv, mu, h0, hs⟩ := h
  have key : ∀ (n : Nat) (v7 : Int32) (J : gL), Inv v7 J → mu v7 J < n → gJ X V 0 0 52 [(0, .ref (V.2.1 94)), (1, .int v1), (2, .int v2), (3, .int v3), (4, .int v4), (5, .int v5), (6, .int v6), (7, .int v7)] [] I J := by
    intro n
    induction n with
    | zero => intro v7 J hi hn; exact absurd hn (Nat.not_lt_zero _)
    | succ n ih =>
      intro v7 J hi hn
      exact t_X2_chooseLeast_52b hJG hCV C hX hR  hK11 (fun u7 J1 hk => ih u7 J1 hk.1 (Nat.lt_of_lt_of_le hk.2 (Nat.le_of_lt_succ hn))) (hs v7 J hi)
  exact key _ v7 J h0 (Nat.lt_succ_self _)
set_option maxRecDepth 100000 in
set_option maxHeartbeats 4000000 in
theorem t_X2_chooseLeast_47 {X : gX} {l : Launch} {D : va_G} {cy : Nat → ClassId} {nm : String} {V : gV} (hJG : gModJG V) (hCV : gModCV V) (C : gC X cX2_chooseLeast RX2 (some .boolean) 10 rm_X2_chooseLeast) (hX : gIs X l D cy nm) {I : gI} {J : gL} {Po : Int32 → gI → gL → Prop} (hR : gR X (gPi V (fun x I' J' => Po x I' J'))) {v1 : Int32} {v2 : Int32} {v3 : Int32} {v4 : Int32} {v5 : Int32} {s0 : Int32} {K11 : Int32 → gL → Prop} (hK11 : ∀ (y5 : Int32) (J1 : gL), K11 y5 J1 → gJ X V 0 0 11 [(0, .ref (V.2.1 94)), (1, .int v1), (2, .int v2), (3, .int v3), (4, .int v4), (5, .int y5)] [] I J1) (h : w_X2_chooseLeast_47 Po K11 v1 v2 v3 v4 v5 s0 I J) : gJ X V 0 0 47 [(0, .ref (V.2.1 94)), (1, .int v1), (2, .int v2), (3, .int v3), (4, .int v4), (5, .int v5)] [.int s0] I J := by
  unfold w_X2_chooseLeast_47 at h
  refine j_istore (pc := 47) (lv' := [(6, .int s0), (0, .ref (V.2.1 94)), (1, .int v1), (2, .int v2), (3, .int v3), (4, .int v4), (5, .int v5)]) C dX2_chooseLeast_47 (by decide) rfl ?_
  refine j_iconst (pc := 49) (v := 0) C dX2_chooseLeast_49 (by decide) ?_
  refine j_istore (pc := 50) (lv' := [(7, .int (0 : Int32)), (6, .int s0), (0, .ref (V.2.1 94)), (1, .int v1), (2, .int v2), (3, .int v3), (4, .int v4), (5, .int v5)]) C dX2_chooseLeast_50 (by decide) rfl ?_
  refine gJ.sub [2, 3, 4, 5, 6, 7, 1, 0] rfl ?_
  exact t_X2_chooseLeast_52 hJG hCV C hX hR  hK11 h
set_option maxRecDepth 100000 in
set_option maxHeartbeats 4000000 in
theorem t_X2_chooseLeast_11b {X : gX} {l : Launch} {D : va_G} {cy : Nat → ClassId} {nm : String} {V : gV} (hJG : gModJG V) (hCV : gModCV V) (C : gC X cX2_chooseLeast RX2 (some .boolean) 10 rm_X2_chooseLeast) (hX : gIs X l D cy nm) {I : gI} {J : gL} {Po : Int32 → gI → gL → Prop} (hR : gR X (gPi V (fun x I' J' => Po x I' J'))) {v1 : Int32} {v2 : Int32} {v3 : Int32} {v4 : Int32} {v5 : Int32} {K11 : Int32 → gL → Prop} (hK11 : ∀ (y5 : Int32) (J1 : gL), K11 y5 J1 → gJ X V 0 0 11 [(0, .ref (V.2.1 94)), (1, .int v1), (2, .int v2), (3, .int v3), (4, .int v4), (5, .int y5)] [] I J1) (h : w_X2_chooseLeast_11b Po K11 v1 v2 v3 v4 v5 I J) : gJ X V 0 0 11 [(0, .ref (V.2.1 94)), (1, .int v1), (2, .int v2), (3, .int v3), (4, .int v4), (5, .int v5)] [] I J := by
  unfold w_X2_chooseLeast_11b at h
  refine j_iload (pc := 11) C dX2_chooseLeast_11 5 rfl ?_
  refine j_aload_n (pc := 13) C dX2_chooseLeast_13 rfl 0 rfl ?_
  refine j_getR (pc := 14) C 94 0 20 (c_94 hCV).1 (c_94 hCV).2 rfl rfl (by decide) inw_X2 wd_615 dX2_chooseLeast_14 ?_
  refine j_getI (pc := 17) C 20 0 (c_20 hJG).1 (c_20 hJG).2 rfl rfl (by decide) inw_X4 wd_131 dX2_chooseLeast_17 ?_
  refine j_icmp_ge (pc := 20) (tgt := 140) C dX2_chooseLeast_20 (by decide) (fun c2 => ?_) (fun c2 => ?_)
  · have h := h.1 c2
    refine j_iconst (pc := 140) (v := 0) C dX2_chooseLeast_140 (by decide) ?_
    exact j_zret (pc := 141) C hR (Or.inl rfl) (Nat.zero_le _) (Nat.zero_le _) dX2_chooseLeast_141 ⟨_, rfl, rfl, h⟩
  · have h := h.2 c2
    refine j_iload_n (pc := 23) C dX2_chooseLeast_23 rfl 2 rfl ?_
    refine j_iload (pc := 24) C dX2_chooseLeast_24 5 rfl ?_
    refine j_ishr (pc := 26) C dX2_chooseLeast_26 ?_
    refine j_iconst (pc := 27) (v := 1) C dX2_chooseLeast_27 (by decide) ?_
    refine j_iand (pc := 28) C dX2_chooseLeast_28 ?_
    refine j_if_eq (pc := 29) (tgt := 36) C dX2_chooseLeast_29 (by decide) (fun c3 => ?_) (fun c3 => ?_)
    · have h := h.1 c3
      refine j_aload_n (pc := 36) C dX2_chooseLeast_36 rfl 0 rfl ?_
      refine j_getR (pc := 37) C 94 0 20 (c_94 hCV).1 (c_94 hCV).2 rfl rfl (by decide) inw_X2 wd_615 dX2_chooseLeast_37 ?_
      refine j_iload (pc := 40) C dX2_chooseLeast_40 5 rfl ?_
      refine j_iload (pc := 42) C dX2_chooseLeast_42 4 rfl ?_
      refine j_callV (pc := 44) (As := [.int v5, .int v4]) (st := []) C hX 20 (m_X4_countPlacementsFrom hJG  h) (c_20 hJG).1 (c_20 hJG).2 rfl ok_X4_countPlacementsFrom wd_683 wd_684 wd_685 ⟨by decide, by decide⟩ rfl rfl (Nat.le_of_ble_eq_true rfl) ⟨Nat.le_refl 0, Nat.le_refl 0⟩ dX2_chooseLeast_44 (fun r V1 I1 J1 hp => ?_)
      obtain ⟨r4, rfl, rfl, rfl, rfl, h⟩ := hp
      show gJ X V 0 0 47 _ [.int r4] _ _
      refine gJ.sub [0, 1, 2, 3, 4, 5] rfl ?_
      exact t_X2_chooseLeast_47 hJG hCV C hX hR  hK11 h
    · have h := h.2 c3
      refine j_iconst (pc := 32) (v := 0) C dX2_chooseLeast_32 (by decide) ?_
      refine j_goto (pc := 33) (tgt := 47) C dX2_chooseLeast_33 (by decide) ?_
      refine gJ.sub [0, 1, 2, 3, 4, 5] rfl ?_
      exact t_X2_chooseLeast_47 hJG hCV C hX hR  hK11 h
set_option maxRecDepth 100000 in
set_option maxHeartbeats 4000000 in
theorem t_X2_chooseLeast_11 {X : gX} {l : Launch} {D : va_G} {cy : Nat → ClassId} {nm : String} {V : gV} (hJG : gModJG V) (hCV : gModCV V) (C : gC X cX2_chooseLeast RX2 (some .boolean) 10 rm_X2_chooseLeast) (hX : gIs X l D cy nm) {I : gI} {J : gL} {Po : Int32 → gI → gL → Prop} (hR : gR X (gPi V (fun x I' J' => Po x I' J'))) {v1 : Int32} {v2 : Int32} {v3 : Int32} {v4 : Int32} {v5 : Int32} (h : w_X2_chooseLeast_11 Po v1 v2 v3 v4 v5 I J) : gJ X V 0 0 11 [(0, .ref (V.2.1 94)), (1, .int v1), (2, .int v2), (3, .int v3), (4, .int v4), (5, .int v5)] [] I J := by
  unfold w_X2_chooseLeast_11 at h
  obtain ⟨Inv, mu, h0, hs⟩ := h
  have key : ∀ (n : Nat) (v5 : Int32) (J : gL), Inv v5 J → mu v5 J < n → gJ X V 0 0 11 [(0, .ref (V.2.1 94)), (1, .int v1), (2, .int v2), (3, .int v3), (4, .int v4), (5, .int v5)] [] I J := by
    intro n
    induction n with
    | zero => intro v5 J hi hn; exact absurd hn (Nat.not_lt_zero _)
    | succ n ih =>
      intro v5 J hi hn
      exact t_X2_chooseLeast_11b hJG hCV C hX hR   (fun u5 J1 hk => ih u5 J1 hk.1 (Nat.lt_of_lt_of_le hk.2 (Nat.le_of_lt_succ hn))) (hs v5 J hi)
  exact key _ v5 J h0 (Nat.lt_succ_self _)
set_option maxRecDepth 100000 in
set_option maxHeartbeats 4000000 in
theorem m_X2_chooseLeast {l : Launch} {D : va_G} {cy : Nat → ClassId} {V : gV} (hJG : gModJG V) (hCV : gModCV V) {a1 : Int32} {a2 : Int32} {a3 : Int32} {I : gI} {J : gL} {Po : Int32 → gI → gL → Prop} (h : wp_X2_chooseLeast a1 a2 a3 I J Po) : gMet l D cy yX2_chooseLeast cX2_chooseLeast 10 (some .boolean) rm_X2_chooseLeast V [.ref (V.2.1 94), .int a1, .int a2, .int a3] I J (gPi V (fun x I' J' => Po x I' J')) := by
  refine gMet.of (by decide) (Nat.le_of_ble_eq_true rfl) (fun X hX C hR => ?_)
  have C : gC X cX2_chooseLeast RX2 (some .boolean) 10 rm_X2_chooseLeast := C
  show gJ X V 0 0 0 [(0, .ref (V.2.1 94)), (1, .int a1), (2, .int a2), (3, .int a3)] [] I J
  unfold wp_X2_chooseLeast at h
  refine j_iload_n (pc := 0) C dX2_chooseLeast_0 rfl 1 rfl ?_
  refine j_iconst (pc := 1) (v := (-1)) C dX2_chooseLeast_1 (by decide) ?_
  refine j_ixor (pc := 2) C dX2_chooseLeast_2 ?_
  refine j_callS (pc := 3) (As := [.int (a1 ^^^ (-1 : Int32))]) (st := []) C hX (m_J6_numberOfTrailingZeros_0f7a4   h) ok_J6_numberOfTrailingZeros_0f7a4 wd_657 wd_595 ⟨by decide, by decide⟩ rfl rfl (Nat.le_of_ble_eq_true rfl) ⟨Nat.le_refl 0, Nat.le_refl 0⟩ dX2_chooseLeast_3 (fun r V1 I1 J1 hp => ?_)
  obtain ⟨r1, rfl, rfl, rfl, rfl, h⟩ := hp
  show gJ X V 0 0 6 _ [.int r1] _ _
  refine j_istore (pc := 6) (lv' := [(4, .int r1), (0, .ref (V.2.1 94)), (1, .int a1), (2, .int a2), (3, .int a3)]) C dX2_chooseLeast_6 (by decide) rfl ?_
  refine j_iconst (pc := 8) (v := 0) C dX2_chooseLeast_8 (by decide) ?_
  refine j_istore (pc := 9) (lv' := [(5, .int (0 : Int32)), (4, .int r1), (0, .ref (V.2.1 94)), (1, .int a1), (2, .int a2), (3, .int a3)]) C dX2_chooseLeast_9 (by decide) rfl ?_
  refine gJ.sub [2, 3, 4, 5, 1, 0] rfl ?_
  exact t_X2_chooseLeast_11 hJG hCV C hX hR   h
/-! TileRules$CoverSearch.findLeastOn(I)Z -/
abbrev rm_X2_findLeastOn : Room := { frames := 48, cells := 0, slots := 0, locals := 1483 }
theorem ok_X2_findLeastOn : gOk yX2_findLeastOn cX2_findLeastOn 5 (some .boolean) 1 := ⟨wd_704, wd_81, by decide +kernel⟩
def w_X2_findLeastOn_23b  (Po : Int32 → gI → gL → Prop) (K23 : Int32 → Int32 → Int32 → gI → gL → Prop) (v1 : Int32) (v2 : Int32) (v3 : Int32) (v4 : Int32) (I : gI) (J : gL) : Prop :=
  ((20 : Int32) < v4 → Po (1 : Int32) I J) ∧ (¬ (20 : Int32) < v4 → (¬ ((v2 >>> (v1 &&& 31)) &&& (1 : Int32)) = 0 → Po (1 : Int32) I J) ∧ (((v2 >>> (v1 &&& 31)) &&& (1 : Int32)) = 0 → wp_X2_chooseLeast v2 v3 v4 I J (fun r5 I6 J7 => (¬ r5 = 0 → ∀ n9 : Int32, n9 = (v2 ||| (I6 94 9)) → wp_X2_usedWith v3 (I6 94 8) I6 (fun r10 => ∀ n11 : Int32, n11 = v4 + 1 → K23 n9 r10 n11 I6 J7)) ∧ (r5 = 0 → Po (0 : Int32) I6 J7))))
def w_X2_findLeastOn_23  (Po : Int32 → gI → gL → Prop)  (v1 : Int32) (v2 : Int32) (v3 : Int32) (v4 : Int32) (I : gI) (J : gL) : Prop :=
  ∃ (Inv : Int32 → Int32 → Int32 → gI → gL → Prop) (mu : Int32 → Int32 → Int32 → gI → gL → Nat), Inv v2 v3 v4 I J ∧ ∀ (v2 : Int32) (v3 : Int32) (v4 : Int32) (I : gI) (J : gL), Inv v2 v3 v4 I J → w_X2_findLeastOn_23b  Po  (fun u2 u3 u4 I1 J1 => Inv u2 u3 u4 I1 J1 ∧ mu u2 u3 u4 I1 J1 < mu v2 v3 v4 I J) v1 v2 v3 v4 I J
def wp_X2_findLeastOn (a1 : Int32) (I : gI) (J : gL) (Po : Int32 → gI → gL → Prop) : Prop :=
  ∀ n1 : Int32, n1 = (I 20 3) → (((n1 >>> (a1 &&& 31)) &&& (1 : Int32)) = 0 → w_X2_findLeastOn_23 Po a1 n1 (0 : Int32) (1 : Int32) I J) ∧ (¬ ((n1 >>> (a1 &&& 31)) &&& (1 : Int32)) = 0 → Po (0 : Int32) I J)
set_option maxRecDepth 100000 in
set_option maxHeartbeats 4000000 in
theorem t_X2_findLeastOn_23b {X : gX} {l : Launch} {D : va_G} {cy : Nat → ClassId} {nm : String} {V : gV} (hJG : gModJG V) (hCV : gModCV V) (C : gC X cX2_findLeastOn RX2 (some .boolean) 5 rm_X2_findLeastOn) (hX : gIs X l D cy nm) {I : gI} {J : gL} {Po : Int32 → gI → gL → Prop} (hR : gR X (gPi V (fun x I' J' => Po x I' J'))) {v1 : Int32} {v2 : Int32} {v3 : Int32} {v4 : Int32} {K23 : Int32 → Int32 → Int32 → gI → gL → Prop} (hK23 : ∀ (y2 : Int32) (y3 : Int32) (y4 : Int32) (I1 : gI) (J1 : gL), K23 y2 y3 y4 I1 J1 → gJ X V 0 0 23 [(0, .ref (V.2.1 94)), (1, .int v1), (2, .int y2), (3, .int y3), (4, .int y4)] [] I1 J1) (h : w_X2_findLeastOn_23b Po K23 v1 v2 v3 v4 I J) : gJ X V 0 0 23 [(0, .ref (V.2.1 94)), (1, .int v1), (2, .int v2), (3, .int v3), (4, .int v4)] [] I J := by
  unfold w_X2_findLeastOn_23b at h
  refine j_iload (pc := 23) C dX2_findLeastOn_23 4 rfl ?_
  refine j_bipush (pc := 25) (v := 20) C dX2_findLeastOn_25 (by decide) ?_
  refine j_icmp_gt (pc := 27) (tgt := 74) C dX2_findLeastOn_27 (by decide) (fun c3 => ?_) (fun c3 => ?_)
  · have h := h.1 c3
    refine j_iconst (pc := 74) (v := 1) C dX2_findLeastOn_74 (by decide) ?_
    exact j_zret (pc := 75) C hR (Or.inr rfl) (Nat.zero_le _) (Nat.zero_le _) dX2_findLeastOn_75 ⟨_, rfl, rfl, h⟩
  · have h := h.2 c3
    refine j_iload_n (pc := 30) C dX2_findLeastOn_30 rfl 2 rfl ?_
    refine j_iload_n (pc := 31) C dX2_findLeastOn_31 rfl 1 rfl ?_
    refine j_ishr (pc := 32) C dX2_findLeastOn_32 ?_
    refine j_iconst (pc := 33) (v := 1) C dX2_findLeastOn_33 (by decide) ?_
    refine j_iand (pc := 34) C dX2_findLeastOn_34 ?_
    refine j_if_ne (pc := 35) (tgt := 74) C dX2_findLeastOn_35 (by decide) (fun c4 => ?_) (fun c4 => ?_)
    · have h := h.1 c4
      refine j_iconst (pc := 74) (v := 1) C dX2_findLeastOn_74 (by decide) ?_
      exact j_zret (pc := 75) C hR (Or.inr rfl) (Nat.zero_le _) (Nat.zero_le _) dX2_findLeastOn_75 ⟨_, rfl, rfl, h⟩
    · have h := h.2 c4
      refine j_aload_n (pc := 38) C dX2_findLeastOn_38 rfl 0 rfl ?_
      refine j_iload_n (pc := 39) C dX2_findLeastOn_39 rfl 2 rfl ?_
      refine j_iload_n (pc := 40) C dX2_findLeastOn_40 rfl 3 rfl ?_
      refine j_iload (pc := 41) C dX2_findLeastOn_41 4 rfl ?_
      refine j_callV (pc := 43) (As := [.int v2, .int v3, .int v4]) (st := []) C hX 94 (m_X2_chooseLeast hJG hCV  h) (c_94 hCV).1 (c_94 hCV).2 rfl ok_X2_chooseLeast wd_705 wd_707 wd_24 ⟨by decide, by decide⟩ rfl rfl (Nat.le_of_ble_eq_true rfl) ⟨Nat.le_refl 0, Nat.le_refl 0⟩ dX2_findLeastOn_43 (fun r V1 I6 J7 hp => ?_)
      obtain ⟨r5, rfl, rfl, h⟩ := hp
      show gJ X V 0 0 46 _ [.int r5] _ _
      refine j_if_ne (pc := 46) (tgt := 51) C dX2_findLeastOn_46 (by decide) (fun c8 => ?_) (fun c8 => ?_)
      · have h := h.1 c8
        refine j_iload_n (pc := 51) C dX2_findLeastOn_51 rfl 2 rfl ?_
        refine j_aload_n (pc := 52) C dX2_findLeastOn_52 rfl 0 rfl ?_
        refine j_getI (pc := 53) C 94 9 (c_94 hCV).1 (c_94 hCV).2 rfl rfl (by decide) inw_X2 wd_625 dX2_findLeastOn_53 ?_
        refine j_ior (pc := 56) C dX2_findLeastOn_56 ?_
        refine gJ.topi (fun n9 en9 => ?_)
        have h := h n9 en9
        refine j_istore_n (pc := 57) (lv' := [(2, .int n9), (0, .ref (V.2.1 94)), (1, .int v1), (3, .int v3), (4, .int v4)]) C dX2_findLeastOn_57 rfl (by decide) rfl ?_
        refine j_aload_n (pc := 58) C dX2_findLeastOn_58 rfl 1 rfl ?_
        refine j_iload_n (pc := 59) C dX2_findLeastOn_59 rfl 3 rfl ?_
        refine j_aload_n (pc := 60) C dX2_findLeastOn_60 rfl 1 rfl ?_
        refine j_getI (pc := 61) C 94 8 (c_94 hCV).1 (c_94 hCV).2 rfl rfl (by decide) inw_X2 wd_623 dX2_findLeastOn_61 ?_
        refine j_callV (pc := 64) (As := [.int v3, .int (I6 94 8)]) (st := []) C hX 94 (m_X2_usedWith hJG hCV  h) (c_94 hCV).1 (c_94 hCV).2 rfl ok_X2_usedWith wd_691 wd_693 wd_23 ⟨by decide, by decide⟩ rfl rfl (Nat.le_of_ble_eq_true rfl) ⟨Nat.le_refl 0, Nat.le_refl 0⟩ dX2_findLeastOn_64 (fun r V1 I1 J1 hp => ?_)
        obtain ⟨r10, rfl, rfl, rfl, rfl, h⟩ := hp
        show gJ X V 0 0 67 _ [.int r10] _ _
        refine j_istore_n (pc := 67) (lv' := [(3, .int r10), (2, .int n9), (0, .ref (V.2.1 94)), (1, .int v1), (4, .int v4)]) C dX2_findLeastOn_67 rfl (by decide) rfl ?_
        obtain ⟨n11, en11⟩ : ∃ z : Int32, z = v4 + 1 := ⟨_, rfl⟩
        have h := h n11 en11
        refine j_iinc (pc := 68) (v := n11) (lv' := [(4, .int n11), (3, .int r10), (2, .int n9), (0, .ref (V.2.1 94)), (1, .int v1)]) C dX2_findLeastOn_68 4 rfl (by rw [en11]; rfl) (by decide) rfl ?_
        refine j_goto (pc := 71) (tgt := 23) C dX2_findLeastOn_71 (by decide) ?_
        refine gJ.sub [3, 4, 2, 1, 0] rfl ?_
        exact hK23 _ _ _ _ _ h
      · have h := h.2 c8
        refine j_iconst (pc := 49) (v := 0) C dX2_findLeastOn_49 (by decide) ?_
        exact j_zret (pc := 50) C hR (Or.inl rfl) (Nat.zero_le _) (Nat.zero_le _) dX2_findLeastOn_50 ⟨_, rfl, rfl, h⟩
set_option maxRecDepth 100000 in
set_option maxHeartbeats 4000000 in
theorem t_X2_findLeastOn_23 {X : gX} {l : Launch} {D : va_G} {cy : Nat → ClassId} {nm : String} {V : gV} (hJG : gModJG V) (hCV : gModCV V) (C : gC X cX2_findLeastOn RX2 (some .boolean) 5 rm_X2_findLeastOn) (hX : gIs X l D cy nm) {I : gI} {J : gL} {Po : Int32 → gI → gL → Prop} (hR : gR X (gPi V (fun x I' J' => Po x I' J'))) {v1 : Int32} {v2 : Int32} {v3 : Int32} {v4 : Int32} (h : w_X2_findLeastOn_23 Po v1 v2 v3 v4 I J) : gJ X V 0 0 23 [(0, .ref (V.2.1 94)), (1, .int v1), (2, .int v2), (3, .int v3), (4, .int v4)] [] I J := by
  unfold w_X2_findLeastOn_23 at h
  obtain ⟨Inv, mu, h0, hs⟩ := h
  have key : ∀ (n : Nat) (v2 : Int32) (v3 : Int32) (v4 : Int32) (I : gI) (J : gL), Inv v2 v3 v4 I J → mu v2 v3 v4 I J < n → gJ X V 0 0 23 [(0, .ref (V.2.1 94)), (1, .int v1), (2, .int v2), (3, .int v3), (4, .int v4)] [] I J := by
    intro n
    induction n with
    | zero => intro v2 v3 v4 I J hi hn; exact absurd hn (Nat.not_lt_zero _)
    | succ n ih =>
      intro v2 v3 v4 I J hi hn
      exact t_X2_findLeastOn_23b hJG hCV C hX hR   (fun u2 u3 u4 I1 J1 hk => ih u2 u3 u4 I1 J1 hk.1 (Nat.lt_of_lt_of_le hk.2 (Nat.le_of_lt_succ hn))) (hs v2 v3 v4 I J hi)
  exact key _ v2 v3 v4 I J h0 (Nat.lt_succ_self _)
set_option maxRecDepth 100000 in
set_option maxHeartbeats 4000000 in
theorem m_X2_findLeastOn {l : Launch} {D : va_G} {cy : Nat → ClassId} {V : gV} (hJG : gModJG V) (hCV : gModCV V) {a1 : Int32} {I : gI} {J : gL} {Po : Int32 → gI → gL → Prop} (h : wp_X2_findLeastOn a1 I J Po) : gMet l D cy yX2_findLeastOn cX2_findLeastOn 5 (some .boolean) rm_X2_findLeastOn V [.ref (V.2.1 94), .int a1] I J (gPi V (fun x I' J' => Po x I' J')) := by
  refine gMet.of (by decide) (Nat.le_of_ble_eq_true rfl) (fun X hX C hR => ?_)
  have C : gC X cX2_findLeastOn RX2 (some .boolean) 5 rm_X2_findLeastOn := C
  show gJ X V 0 0 0 [(0, .ref (V.2.1 94)), (1, .int a1)] [] I J
  unfold wp_X2_findLeastOn at h
  refine j_aload_n (pc := 0) C dX2_findLeastOn_0 rfl 0 rfl ?_
  refine j_getR (pc := 1) C 94 0 20 (c_94 hCV).1 (c_94 hCV).2 rfl rfl (by decide) inw_X2 wd_615 dX2_findLeastOn_1 ?_
  refine j_getI (pc := 4) C 20 3 (c_20 hJG).1 (c_20 hJG).2 rfl rfl (by decide) inw_X4 wd_140 dX2_findLeastOn_4 ?_
  refine gJ.topi (fun n1 en1 => ?_)
  have h := h n1 en1
  refine j_istore_n (pc := 7) (lv' := [(2, .int n1), (0, .ref (V.2.1 94)), (1, .int a1)]) C dX2_findLeastOn_7 rfl (by decide) rfl ?_
  refine j_iconst (pc := 8) (v := 0) C dX2_findLeastOn_8 (by decide) ?_
  refine j_istore_n (pc := 9) (lv' := [(3, .int (0 : Int32)), (2, .int n1), (0, .ref (V.2.1 94)), (1, .int a1)]) C dX2_findLeastOn_9 rfl (by decide) rfl ?_
  refine j_iload_n (pc := 10) C dX2_findLeastOn_10 rfl 1 rfl ?_
  refine j_iload_n (pc := 11) C dX2_findLeastOn_11 rfl 3 rfl ?_
  refine j_ishr (pc := 12) C dX2_findLeastOn_12 ?_
  refine j_iconst (pc := 13) (v := 1) C dX2_findLeastOn_13 (by decide) ?_
  refine j_iand (pc := 14) C dX2_findLeastOn_14 ?_
  refine j_if_eq (pc := 15) (tgt := 20) C dX2_findLeastOn_15 (by decide) (fun c2 => ?_) (fun c2 => ?_)
  · have h := h.1 c2
    refine j_iconst (pc := 20) (v := 1) C dX2_findLeastOn_20 (by decide) ?_
    refine j_istore (pc := 21) (lv' := [(4, .int (1 : Int32)), (3, .int (0 : Int32)), (2, .int n1), (0, .ref (V.2.1 94)), (1, .int a1)]) C dX2_findLeastOn_21 (by decide) rfl ?_
    refine gJ.sub [3, 4, 2, 1, 0] rfl ?_
    exact t_X2_findLeastOn_23 hJG hCV C hX hR   h
  · have h := h.2 c2
    refine j_iconst (pc := 18) (v := 0) C dX2_findLeastOn_18 (by decide) ?_
    exact j_zret (pc := 19) C hR (Or.inl rfl) (Nat.zero_le _) (Nat.zero_le _) dX2_findLeastOn_19 ⟨_, rfl, rfl, h⟩
/-! TileRules$Growth.begin(I)V -/
abbrev rm_X3_begin : Room := { frames := 1, cells := 0, slots := 0, locals := 24 }
theorem ok_X3_begin : gOk yX3_begin cX3_begin 2 none 1 := ⟨wd_801, wd_83, by decide +kernel⟩
def wp_X3_begin (a1 : Int32) (I : gI) (J : gL) (Po : gI → gL → Prop) : Prop :=
  ∀ I1 : gI, I1 = gup I 99 1 ((1 : Int32) <<< (a1 &&& 31)) → ∀ J2 : gL, J2 = gup J 99 2 (0 : Int64) → ∀ J3 : gL, J3 = gup J2 99 3 (0 : Int64) → wp_J7_fill_d0a16 102 21 (0 : Int64) J3 (fun J4 => Po I1 J4)
set_option maxRecDepth 100000 in
set_option maxHeartbeats 4000000 in
theorem m_X3_begin {l : Launch} {D : va_G} {cy : Nat → ClassId} {V : gV} (hBL : gModBL V) (hGR : gModGR V) {a1 : Int32} {I : gI} {J : gL} {Po : gI → gL → Prop} (h : wp_X3_begin a1 I J Po) : gMet l D cy yX3_begin cX3_begin 2 none rm_X3_begin V [.ref (V.2.1 99), .int a1] I J (gPv V (fun I' J' => Po I' J')) := by
  refine gMet.of (by decide) (Nat.le_of_ble_eq_true rfl) (fun X hX C hR => ?_)
  have C : gC X cX3_begin RX3 none 2 rm_X3_begin := C
  show gJ X V 0 0 0 [(0, .ref (V.2.1 99)), (1, .int a1)] [] I J
  unfold wp_X3_begin at h
  refine j_aload_n (pc := 0) C dX3_begin_0 rfl 0 rfl ?_
  refine j_iconst (pc := 1) (v := 1) C dX3_begin_1 (by decide) ?_
  refine j_iload_n (pc := 2) C dX3_begin_2 rfl 1 rfl ?_
  refine j_ishl (pc := 3) C dX3_begin_3 ?_
  refine j_putI (pc := 4) (ft := .int) C tyX3 tyX3_ok nmX3 99 1 (c_99 hGR).1 (c_99 hGR).2 rfl rfl (by decide) inw_X3 wd_780 rfl (by decide +kernel) rfl rfl dX3_begin_4 ?_
  refine gJ.nmI (fun I1 eI1 => ?_)
  have h := h I1 eI1
  refine j_aload_n (pc := 7) C dX3_begin_7 rfl 0 rfl ?_
  refine j_lconst (pc := 8) (v := 0) C dX3_begin_8 (by decide) ?_
  refine j_putL (pc := 9) (ft := .long) C tyX3 tyX3_ok nmX3 99 2 (c_99 hGR).1 (c_99 hGR).2 rfl rfl (by decide) inw_X3 wd_781 rfl (by decide +kernel) rfl rfl dX3_begin_9 ?_
  refine gJ.nmJ (fun J2 eJ2 => ?_)
  have h := h J2 eJ2
  refine j_aload_n (pc := 12) C dX3_begin_12 rfl 0 rfl ?_
  refine j_lconst (pc := 13) (v := 0) C dX3_begin_13 (by decide) ?_
  refine j_putL (pc := 14) (ft := .long) C tyX3 tyX3_ok nmX3 99 3 (c_99 hGR).1 (c_99 hGR).2 rfl rfl (by decide) inw_X3 wd_782 rfl (by decide +kernel) rfl rfl dX3_begin_14 ?_
  refine gJ.nmJ (fun J3 eJ3 => ?_)
  have h := h J3 eJ3
  refine j_aload_n (pc := 17) C dX3_begin_17 rfl 0 rfl ?_
  refine j_getR (pc := 18) C 99 4 102 (c_99 hGR).1 (c_99 hGR).2 rfl rfl (by decide) inw_X3 wd_783 dX3_begin_18 ?_
  refine j_lconst (pc := 21) (v := 0) C dX3_begin_21 (by decide) ?_
  refine j_callS (pc := 22) (As := [.ref (V.2.1 102), .long (0 : Int64)]) (st := []) C hX (m_J7_fill_d0a16  (c_102 hGR).1 (c_102 hGR).2 h) ok_J7_fill_d0a16 wd_802 wd_760 ⟨by decide, by decide⟩ rfl rfl (Nat.le_of_ble_eq_true rfl) ⟨Nat.le_refl 0, Nat.le_refl 0⟩ dX3_begin_22 (fun r V1 I1 J4 hp => ?_)
  obtain ⟨rfl, rfl, rfl, h⟩ := hp
  show gJ X V 0 0 25 _ [] _ _
  exact j_vret (pc := 25) C hR (Nat.zero_le _) (Nat.zero_le _) dX3_begin_25 ⟨rfl, rfl, h⟩
/-! TileRules$Growth.pair(II)J -/
abbrev rm_X3_pair : Room := { frames := 0, cells := 0, slots := 0, locals := 0 }
theorem ok_X3_pair : gOk yX3_pair cX3_pair 2 (some .long) 2 := ⟨wd_822, wd_83, by decide +kernel⟩
def wp_X3_pair (a0 : Int32) (a1 : Int32) (Po : Int64 → Prop) : Prop :=
  Po ((1 : Int64) <<< (((((6 : Int32) * a0) + a1)).toInt64 &&& 63))
set_option maxRecDepth 100000 in
set_option maxHeartbeats 4000000 in
theorem m_X3_pair {l : Launch} {D : va_G} {cy : Nat → ClassId} {V : gV} {a0 : Int32} {a1 : Int32} {I : gI} {J : gL} {Po : Int64 → Prop} (h : wp_X3_pair a0 a1 Po) : gMet l D cy yX3_pair cX3_pair 2 (some .long) rm_X3_pair V [.int a0, .int a1] I J (gPl V (fun x I' J' => I = I' ∧ J = J' ∧ Po x)) := by
  refine gMet.of (by decide) (Nat.le_of_ble_eq_true rfl) (fun X hX C hR => ?_)
  have C : gC X cX3_pair RX3 (some .long) 2 rm_X3_pair := C
  show gJ X V 0 0 0 [(0, .int a0), (1, .int a1)] [] I J
  unfold wp_X3_pair at h
  refine j_lconst (pc := 0) (v := 1) C dX3_pair_0 (by decide) ?_
  refine j_bipush (pc := 1) (v := 6) C dX3_pair_1 (by decide) ?_
  refine j_iload_n (pc := 3) C dX3_pair_3 rfl 0 rfl ?_
  refine j_imul (pc := 4) C dX3_pair_4 ?_
  refine j_iload_n (pc := 5) C dX3_pair_5 rfl 1 rfl ?_
  refine j_iadd (pc := 6) C dX3_pair_6 ?_
  refine j_lshl (pc := 7) C dX3_pair_7 ?_
  exact j_lret (pc := 8) C hR (Nat.zero_le _) (Nat.zero_le _) dX3_pair_8 ⟨_, rfl, rfl, rfl, rfl, h⟩
/-! TileRules$Growth.eastAcross(II)J -/
abbrev rm_X3_eastAcross : Room := { frames := 1, cells := 0, slots := 0, locals := 23 }
theorem ok_X3_eastAcross : gOk yX3_eastAcross cX3_eastAcross 6 (some .long) 2 := ⟨wd_830, wd_83, by decide +kernel⟩
def w_X3_eastAcross_5b  (Po : Int64 → Prop) (K5 : Int64 → Int32 → Prop) (v1 : Int32) (v2 : Int32) (v3 : Int64) (v5 : Int32) (I : gI) : Prop :=
  ((I 40 1) ≤ v5 → Po v3) ∧ (¬ (I 40 1) ≤ v5 → wp_X0_at v1 ((I 40 1) - (1 : Int32)) v5 I (fun r2 => wp_X0_at v2 (0 : Int32) v5 I (fun r3 => wp_X3_pair r2 r3 (fun r4 => ∀ n5 : Int64, n5 = (v3 ||| r4) → ∀ n6 : Int32, n6 = v5 + 1 → K5 n5 n6))))
def w_X3_eastAcross_5  (Po : Int64 → Prop)  (v1 : Int32) (v2 : Int32) (v3 : Int64) (v5 : Int32) (I : gI) : Prop :=
  ∃ (Inv : Int64 → Int32 → Prop) (mu : Int64 → Int32 → Nat), Inv v3 v5 ∧ ∀ (v3 : Int64) (v5 : Int32), Inv v3 v5 → w_X3_eastAcross_5b  Po  (fun u3 u5 => Inv u3 u5 ∧ mu u3 u5 < mu v3 v5) v1 v2 v3 v5 I
def wp_X3_eastAcross (a1 : Int32) (a2 : Int32) (I : gI) (Po : Int64 → Prop) : Prop :=
  w_X3_eastAcross_5 Po a1 a2 (0 : Int64) (0 : Int32) I
set_option maxRecDepth 100000 in
set_option maxHeartbeats 4000000 in
theorem t_X3_eastAcross_5b {X : gX} {l : Launch} {D : va_G} {cy : Nat → ClassId} {nm : String} {V : gV} (hBL : gModBL V) (hGR : gModGR V) (C : gC X cX3_eastAcross RX3 (some .long) 6 rm_X3_eastAcross) (hX : gIs X l D cy nm) {I : gI} {J : gL} {Po : Int64 → Prop} (hR : gR X (gPl V (fun x I' J' => I = I' ∧ J = J' ∧ Po x))) {v1 : Int32} {v2 : Int32} {v3 : Int64} {v5 : Int32} {K5 : Int64 → Int32 → Prop} (hK5 : ∀ (y3 : Int64) (y5 : Int32), K5 y3 y5 → gJ X V 0 0 5 [(0, .ref (V.2.1 99)), (1, .int v1), (2, .int v2), (3, .long y3), (5, .int y5)] [] I J) (h : w_X3_eastAcross_5b Po K5 v1 v2 v3 v5 I) : gJ X V 0 0 5 [(0, .ref (V.2.1 99)), (1, .int v1), (2, .int v2), (3, .long v3), (5, .int v5)] [] I J := by
  unfold w_X3_eastAcross_5b at h
  refine j_iload (pc := 5) C dX3_eastAcross_5 4 rfl ?_
  refine j_aload_n (pc := 7) C dX3_eastAcross_7 rfl 0 rfl ?_
  refine j_getR (pc := 8) C 99 0 40 (c_99 hGR).1 (c_99 hGR).2 rfl rfl (by decide) inw_X3 wd_779 dX3_eastAcross_8 ?_
  refine j_getI (pc := 11) C 40 1 (c_40 hBL).1 (c_40 hBL).2 rfl rfl (by decide) inw_X0 wd_189 dX3_eastAcross_11 ?_
  refine j_icmp_ge (pc := 14) (tgt := 59) C dX3_eastAcross_14 (by decide) (fun c1 => ?_) (fun c1 => ?_)
  · have h := h.1 c1
    refine j_lload_n (pc := 59) C dX3_eastAcross_59 rfl 3 rfl ?_
    exact j_lret (pc := 60) C hR (Nat.zero_le _) (Nat.zero_le _) dX3_eastAcross_60 ⟨_, rfl, rfl, rfl, rfl, h⟩
  · have h := h.2 c1
    refine j_lload_n (pc := 17) C dX3_eastAcross_17 rfl 3 rfl ?_
    refine j_aload_n (pc := 18) C dX3_eastAcross_18 rfl 0 rfl ?_
    refine j_getR (pc := 19) C 99 0 40 (c_99 hGR).1 (c_99 hGR).2 rfl rfl (by decide) inw_X3 wd_779 dX3_eastAcross_19 ?_
    refine j_iload_n (pc := 22) C dX3_eastAcross_22 rfl 1 rfl ?_
    refine j_aload_n (pc := 23) C dX3_eastAcross_23 rfl 0 rfl ?_
    refine j_getR (pc := 24) C 99 0 40 (c_99 hGR).1 (c_99 hGR).2 rfl rfl (by decide) inw_X3 wd_779 dX3_eastAcross_24 ?_
    refine j_getI (pc := 27) C 40 1 (c_40 hBL).1 (c_40 hBL).2 rfl rfl (by decide) inw_X0 wd_189 dX3_eastAcross_27 ?_
    refine j_iconst (pc := 30) (v := 1) C dX3_eastAcross_30 (by decide) ?_
    refine j_isub (pc := 31) C dX3_eastAcross_31 ?_
    refine j_iload (pc := 32) C dX3_eastAcross_32 4 rfl ?_
    refine j_callV (pc := 34) (As := [.int v1, .int ((I 40 1) - (1 : Int32)), .int v5]) (st := [.long v3]) C hX 40 (m_X0_at hBL  h) (c_40 hBL).1 (c_40 hBL).2 rfl ok_X0_at wd_819 wd_739 wd_740 ⟨by decide, by decide⟩ rfl rfl (Nat.le_of_ble_eq_true rfl) ⟨Nat.le_refl 0, Nat.le_refl 0⟩ dX3_eastAcross_34 (fun r V1 I1 J1 hp => ?_)
    obtain ⟨r2, rfl, rfl, rfl, rfl, h⟩ := hp
    show gJ X V 0 0 37 _ [.int r2, .long v3] _ _
    refine j_aload_n (pc := 37) C dX3_eastAcross_37 rfl 0 rfl ?_
    refine j_getR (pc := 38) C 99 0 40 (c_99 hGR).1 (c_99 hGR).2 rfl rfl (by decide) inw_X3 wd_779 dX3_eastAcross_38 ?_
    refine j_iload_n (pc := 41) C dX3_eastAcross_41 rfl 2 rfl ?_
    refine j_iconst (pc := 42) (v := 0) C dX3_eastAcross_42 (by decide) ?_
    refine j_iload (pc := 43) C dX3_eastAcross_43 4 rfl ?_
    refine j_callV (pc := 45) (As := [.int v2, .int (0 : Int32), .int v5]) (st := [.int r2, .long v3]) C hX 40 (m_X0_at hBL  h) (c_40 hBL).1 (c_40 hBL).2 rfl ok_X0_at wd_819 wd_739 wd_740 ⟨by decide, by decide⟩ rfl rfl (Nat.le_of_ble_eq_true rfl) ⟨Nat.le_refl 0, Nat.le_refl 0⟩ dX3_eastAcross_45 (fun r V1 I1 J1 hp => ?_)
    obtain ⟨r3, rfl, rfl, rfl, rfl, h⟩ := hp
    show gJ X V 0 0 48 _ [.int r3, .int r2, .long v3] _ _
    refine j_callS (pc := 48) (As := [.int r2, .int r3]) (st := [.long v3]) C hX (m_X3_pair   h) ok_X3_pair wd_820 wd_821 ⟨by decide, by decide⟩ rfl rfl (Nat.le_of_ble_eq_true rfl) ⟨Nat.le_refl 0, Nat.le_refl 0⟩ dX3_eastAcross_48 (fun r V1 I1 J1 hp => ?_)
    obtain ⟨r4, rfl, rfl, rfl, rfl, h⟩ := hp
    show gJ X V 0 0 51 _ [.long r4, .long v3] _ _
    refine j_lor (pc := 51) C dX3_eastAcross_51 ?_
    refine gJ.topl (fun n5 en5 => ?_)
    have h := h n5 en5
    refine j_lstore_n (pc := 52) (lv' := [(3, .long n5), (0, .ref (V.2.1 99)), (1, .int v1), (2, .int v2), (5, .int v5)]) C dX3_eastAcross_52 rfl (by decide) rfl ?_
    obtain ⟨n6, en6⟩ : ∃ z : Int32, z = v5 + 1 := ⟨_, rfl⟩
    have h := h n6 en6
    refine j_iinc (pc := 53) (v := n6) (lv' := [(5, .int n6), (3, .long n5), (0, .ref (V.2.1 99)), (1, .int v1), (2, .int v2)]) C dX3_eastAcross_53 4 rfl (by rw [en6]; rfl) (by decide) rfl ?_
    refine j_goto (pc := 56) (tgt := 5) C dX3_eastAcross_56 (by decide) ?_
    refine gJ.sub [2, 3, 4, 1, 0] rfl ?_
    exact hK5 _ _ h
set_option maxRecDepth 100000 in
set_option maxHeartbeats 4000000 in
theorem t_X3_eastAcross_5 {X : gX} {l : Launch} {D : va_G} {cy : Nat → ClassId} {nm : String} {V : gV} (hBL : gModBL V) (hGR : gModGR V) (C : gC X cX3_eastAcross RX3 (some .long) 6 rm_X3_eastAcross) (hX : gIs X l D cy nm) {I : gI} {J : gL} {Po : Int64 → Prop} (hR : gR X (gPl V (fun x I' J' => I = I' ∧ J = J' ∧ Po x))) {v1 : Int32} {v2 : Int32} {v3 : Int64} {v5 : Int32} (h : w_X3_eastAcross_5 Po v1 v2 v3 v5 I) : gJ X V 0 0 5 [(0, .ref (V.2.1 99)), (1, .int v1), (2, .int v2), (3, .long v3), (5, .int v5)] [] I J := by
  unfold w_X3_eastAcross_5 at h
  obtain ⟨Inv, mu, h0, hs⟩ := h
  have key : ∀ (n : Nat) (v3 : Int64) (v5 : Int32), Inv v3 v5 → mu v3 v5 < n → gJ X V 0 0 5 [(0, .ref (V.2.1 99)), (1, .int v1), (2, .int v2), (3, .long v3), (5, .int v5)] [] I J := by
    intro n
    induction n with
    | zero => intro v3 v5 hi hn; exact absurd hn (Nat.not_lt_zero _)
    | succ n ih =>
      intro v3 v5 hi hn
      exact t_X3_eastAcross_5b hBL hGR C hX hR   (fun u3 u5 hk => ih u3 u5 hk.1 (Nat.lt_of_lt_of_le hk.2 (Nat.le_of_lt_succ hn))) (hs v3 v5 hi)
  exact key _ v3 v5 h0 (Nat.lt_succ_self _)
set_option maxRecDepth 100000 in
set_option maxHeartbeats 4000000 in
theorem m_X3_eastAcross {l : Launch} {D : va_G} {cy : Nat → ClassId} {V : gV} (hBL : gModBL V) (hGR : gModGR V) {a1 : Int32} {a2 : Int32} {I : gI} {J : gL} {Po : Int64 → Prop} (h : wp_X3_eastAcross a1 a2 I Po) : gMet l D cy yX3_eastAcross cX3_eastAcross 6 (some .long) rm_X3_eastAcross V [.ref (V.2.1 99), .int a1, .int a2] I J (gPl V (fun x I' J' => I = I' ∧ J = J' ∧ Po x)) := by
  refine gMet.of (by decide) (Nat.le_of_ble_eq_true rfl) (fun X hX C hR => ?_)
  have C : gC X cX3_eastAcross RX3 (some .long) 6 rm_X3_eastAcross := C
  show gJ X V 0 0 0 [(0, .ref (V.2.1 99)), (1, .int a1), (2, .int a2)] [] I J
  unfold wp_X3_eastAcross at h
  refine j_lconst (pc := 0) (v := 0) C dX3_eastAcross_0 (by decide) ?_
  refine j_lstore_n (pc := 1) (lv' := [(3, .long (0 : Int64)), (0, .ref (V.2.1 99)), (1, .int a1), (2, .int a2)]) C dX3_eastAcross_1 rfl (by decide) rfl ?_
  refine j_iconst (pc := 2) (v := 0) C dX3_eastAcross_2 (by decide) ?_
  refine j_istore (pc := 3) (lv' := [(5, .int (0 : Int32)), (3, .long (0 : Int64)), (0, .ref (V.2.1 99)), (1, .int a1), (2, .int a2)]) C dX3_eastAcross_3 (by decide) rfl ?_
  refine gJ.sub [2, 3, 4, 1, 0] rfl ?_
  exact t_X3_eastAcross_5 hBL hGR C hX hR   h
/-! TileRules$Growth.eastInside(I)J -/
abbrev rm_X3_eastInside : Room := { frames := 1, cells := 0, slots := 0, locals := 23 }
theorem ok_X3_eastInside : gOk yX3_eastInside cX3_eastInside 6 (some .long) 1 := ⟨wd_818, wd_83, by decide +kernel⟩
def w_X3_eastInside_20b  (Po : Int64 → Prop) (K5 : Int64 → Int32 → Prop) (K20 : Int64 → Int32 → Prop) (v1 : Int32) (v2 : Int64) (v4 : Int32) (v5 : Int32) (I : gI) : Prop :=
  ((I 40 1) ≤ v5 → ∀ n3 : Int32, n3 = v4 + 1 → K5 v2 n3) ∧ (¬ (I 40 1) ≤ v5 → wp_X0_at v1 (v5 - (1 : Int32)) v4 I (fun r4 => wp_X0_at v1 v5 v4 I (fun r5 => wp_X3_pair r4 r5 (fun r6 => ∀ n7 : Int64, n7 = (v2 ||| r6) → ∀ n8 : Int32, n8 = v5 + 1 → K20 n7 n8))))
def w_X3_eastInside_20  (Po : Int64 → Prop) (K5 : Int64 → Int32 → Prop) (v1 : Int32) (v2 : Int64) (v4 : Int32) (v5 : Int32) (I : gI) : Prop :=
  ∃ (Inv : Int64 → Int32 → Prop) (mu : Int64 → Int32 → Nat), Inv v2 v5 ∧ ∀ (v2 : Int64) (v5 : Int32), Inv v2 v5 → w_X3_eastInside_20b  Po K5 (fun u2 u5 => Inv u2 u5 ∧ mu u2 u5 < mu v2 v5) v1 v2 v4 v5 I
def w_X3_eastInside_5b  (Po : Int64 → Prop) (K5 : Int64 → Int32 → Prop) (v1 : Int32) (v2 : Int64) (v4 : Int32) (I : gI) : Prop :=
  ((I 40 1) ≤ v4 → Po v2) ∧ (¬ (I 40 1) ≤ v4 → w_X3_eastInside_20 Po K5 v1 v2 v4 (1 : Int32) I)
def w_X3_eastInside_5  (Po : Int64 → Prop)  (v1 : Int32) (v2 : Int64) (v4 : Int32) (I : gI) : Prop :=
  ∃ (Inv : Int64 → Int32 → Prop) (mu : Int64 → Int32 → Nat), Inv v2 v4 ∧ ∀ (v2 : Int64) (v4 : Int32), Inv v2 v4 → w_X3_eastInside_5b  Po  (fun u2 u4 => Inv u2 u4 ∧ mu u2 u4 < mu v2 v4) v1 v2 v4 I
def wp_X3_eastInside (a1 : Int32) (I : gI) (Po : Int64 → Prop) : Prop :=
  w_X3_eastInside_5 Po a1 (0 : Int64) (0 : Int32) I
set_option maxRecDepth 100000 in
set_option maxHeartbeats 4000000 in
theorem t_X3_eastInside_20b {X : gX} {l : Launch} {D : va_G} {cy : Nat → ClassId} {nm : String} {V : gV} (hBL : gModBL V) (hGR : gModGR V) (C : gC X cX3_eastInside RX3 (some .long) 6 rm_X3_eastInside) (hX : gIs X l D cy nm) {I : gI} {J : gL} {Po : Int64 → Prop} (hR : gR X (gPl V (fun x I' J' => I = I' ∧ J = J' ∧ Po x))) {v1 : Int32} {v2 : Int64} {v4 : Int32} {v5 : Int32} {K5 : Int64 → Int32 → Prop} {K20 : Int64 → Int32 → Prop} (hK5 : ∀ (y2 : Int64) (y4 : Int32), K5 y2 y4 → gJ X V 0 0 5 [(0, .ref (V.2.1 99)), (1, .int v1), (2, .long y2), (4, .int y4)] [] I J) (hK20 : ∀ (y2 : Int64) (y5 : Int32), K20 y2 y5 → gJ X V 0 0 20 [(0, .ref (V.2.1 99)), (1, .int v1), (2, .long y2), (4, .int v4), (5, .int y5)] [] I J) (h : w_X3_eastInside_20b Po K5 K20 v1 v2 v4 v5 I) : gJ X V 0 0 20 [(0, .ref (V.2.1 99)), (1, .int v1), (2, .long v2), (4, .int v4), (5, .int v5)] [] I J := by
  unfold w_X3_eastInside_20b at h
  refine j_iload (pc := 20) C dX3_eastInside_20 4 rfl ?_
  refine j_aload_n (pc := 22) C dX3_eastInside_22 rfl 0 rfl ?_
  refine j_getR (pc := 23) C 99 0 40 (c_99 hGR).1 (c_99 hGR).2 rfl rfl (by decide) inw_X3 wd_779 dX3_eastInside_23 ?_
  refine j_getI (pc := 26) C 40 1 (c_40 hBL).1 (c_40 hBL).2 rfl rfl (by decide) inw_X0 wd_189 dX3_eastInside_26 ?_
  refine j_icmp_ge (pc := 29) (tgt := 70) C dX3_eastInside_29 (by decide) (fun c2 => ?_) (fun c2 => ?_)
  · have h := h.1 c2
    obtain ⟨n3, en3⟩ : ∃ z : Int32, z = v4 + 1 := ⟨_, rfl⟩
    have h := h n3 en3
    refine j_iinc (pc := 70) (v := n3) (lv' := [(4, .int n3), (0, .ref (V.2.1 99)), (1, .int v1), (2, .long v2), (5, .int v5)]) C dX3_eastInside_70 3 rfl (by rw [en3]; rfl) (by decide) rfl ?_
    refine j_goto (pc := 73) (tgt := 5) C dX3_eastInside_73 (by decide) ?_
    refine gJ.sub [1, 2, 3, 0] rfl ?_
    exact hK5 _ _ h
  · have h := h.2 c2
    refine j_lload_n (pc := 32) C dX3_eastInside_32 rfl 2 rfl ?_
    refine j_aload_n (pc := 33) C dX3_eastInside_33 rfl 0 rfl ?_
    refine j_getR (pc := 34) C 99 0 40 (c_99 hGR).1 (c_99 hGR).2 rfl rfl (by decide) inw_X3 wd_779 dX3_eastInside_34 ?_
    refine j_iload_n (pc := 37) C dX3_eastInside_37 rfl 1 rfl ?_
    refine j_iload (pc := 38) C dX3_eastInside_38 4 rfl ?_
    refine j_iconst (pc := 40) (v := 1) C dX3_eastInside_40 (by decide) ?_
    refine j_isub (pc := 41) C dX3_eastInside_41 ?_
    refine j_iload (pc := 42) C dX3_eastInside_42 3 rfl ?_
    refine j_callV (pc := 44) (As := [.int v1, .int (v5 - (1 : Int32)), .int v4]) (st := [.long v2]) C hX 40 (m_X0_at hBL  h) (c_40 hBL).1 (c_40 hBL).2 rfl ok_X0_at wd_819 wd_739 wd_740 ⟨by decide, by decide⟩ rfl rfl (Nat.le_of_ble_eq_true rfl) ⟨Nat.le_refl 0, Nat.le_refl 0⟩ dX3_eastInside_44 (fun r V1 I1 J1 hp => ?_)
    obtain ⟨r4, rfl, rfl, rfl, rfl, h⟩ := hp
    show gJ X V 0 0 47 _ [.int r4, .long v2] _ _
    refine j_aload_n (pc := 47) C dX3_eastInside_47 rfl 0 rfl ?_
    refine j_getR (pc := 48) C 99 0 40 (c_99 hGR).1 (c_99 hGR).2 rfl rfl (by decide) inw_X3 wd_779 dX3_eastInside_48 ?_
    refine j_iload_n (pc := 51) C dX3_eastInside_51 rfl 1 rfl ?_
    refine j_iload (pc := 52) C dX3_eastInside_52 4 rfl ?_
    refine j_iload (pc := 54) C dX3_eastInside_54 3 rfl ?_
    refine j_callV (pc := 56) (As := [.int v1, .int v5, .int v4]) (st := [.int r4, .long v2]) C hX 40 (m_X0_at hBL  h) (c_40 hBL).1 (c_40 hBL).2 rfl ok_X0_at wd_819 wd_739 wd_740 ⟨by decide, by decide⟩ rfl rfl (Nat.le_of_ble_eq_true rfl) ⟨Nat.le_refl 0, Nat.le_refl 0⟩ dX3_eastInside_56 (fun r V1 I1 J1 hp => ?_)
    obtain ⟨r5, rfl, rfl, rfl, rfl, h⟩ := hp
    show gJ X V 0 0 59 _ [.int r5, .int r4, .long v2] _ _
    refine j_callS (pc := 59) (As := [.int r4, .int r5]) (st := [.long v2]) C hX (m_X3_pair   h) ok_X3_pair wd_820 wd_821 ⟨by decide, by decide⟩ rfl rfl (Nat.le_of_ble_eq_true rfl) ⟨Nat.le_refl 0, Nat.le_refl 0⟩ dX3_eastInside_59 (fun r V1 I1 J1 hp => ?_)
    obtain ⟨r6, rfl, rfl, rfl, rfl, h⟩ := hp
    show gJ X V 0 0 62 _ [.long r6, .long v2] _ _
    refine j_lor (pc := 62) C dX3_eastInside_62 ?_
    refine gJ.topl (fun n7 en7 => ?_)
    have h := h n7 en7
    refine j_lstore_n (pc := 63) (lv' := [(2, .long n7), (0, .ref (V.2.1 99)), (1, .int v1), (4, .int v4), (5, .int v5)]) C dX3_eastInside_63 rfl (by decide) rfl ?_
    obtain ⟨n8, en8⟩ : ∃ z : Int32, z = v5 + 1 := ⟨_, rfl⟩
    have h := h n8 en8
    refine j_iinc (pc := 64) (v := n8) (lv' := [(5, .int n8), (2, .long n7), (0, .ref (V.2.1 99)), (1, .int v1), (4, .int v4)]) C dX3_eastInside_64 4 rfl (by rw [en8]; rfl) (by decide) rfl ?_
    refine j_goto (pc := 67) (tgt := 20) C dX3_eastInside_67 (by decide) ?_
    refine gJ.sub [2, 3, 1, 4, 0] rfl ?_
    exact hK20 _ _ h
set_option maxRecDepth 100000 in
set_option maxHeartbeats 4000000 in
theorem t_X3_eastInside_20 {X : gX} {l : Launch} {D : va_G} {cy : Nat → ClassId} {nm : String} {V : gV} (hBL : gModBL V) (hGR : gModGR V) (C : gC X cX3_eastInside RX3 (some .long) 6 rm_X3_eastInside) (hX : gIs X l D cy nm) {I : gI} {J : gL} {Po : Int64 → Prop} (hR : gR X (gPl V (fun x I' J' => I = I' ∧ J = J' ∧ Po x))) {v1 : Int32} {v2 : Int64} {v4 : Int32} {v5 : Int32} {K5 : Int64 → Int32 → Prop} (hK5 : ∀ (y2 : Int64) (y4 : Int32), K5 y2 y4 → gJ X V 0 0 5 [(0, .ref (V.2.1 99)), (1, .int v1), (2, .long y2), (4, .int y4)] [] I J) (h : w_X3_eastInside_20 Po K5 v1 v2 v4 v5 I) : gJ X V 0 0 20 [(0, .ref (V.2.1 99)), (1, .int v1), (2, .long v2), (4, .int v4), (5, .int v5)] [] I J := by
  unfold w_X3_eastInside_20 at h
  obtain ⟨Inv, mu, h0, hs⟩ := h
  have key : ∀ (n : Nat) (v2 : Int64) (v5 : Int32), Inv v2 v5 → mu v2 v5 < n → gJ X V 0 0 20 [(0, .ref (V.2.1 99)), (1, .int v1), (2, .long v2), (4, .int v4), (5, .int v5)] [] I J := by
    intro n
    induction n with
    | zero => intro v2 v5 hi hn; exact absurd hn (Nat.not_lt_zero _)
    | succ n ih =>
      intro v2 v5 hi hn
      exact t_X3_eastInside_20b hBL hGR C hX hR  hK5 (fun u2 u5 hk => ih u2 u5 hk.1 (Nat.lt_of_lt_of_le hk.2 (Nat.le_of_lt_succ hn))) (hs v2 v5 hi)
  exact key _ v2 v5 h0 (Nat.lt_succ_self _)
set_option maxRecDepth 100000 in
set_option maxHeartbeats 4000000 in
theorem t_X3_eastInside_5b {X : gX} {l : Launch} {D : va_G} {cy : Nat → ClassId} {nm : String} {V : gV} (hBL : gModBL V) (hGR : gModGR V) (C : gC X cX3_eastInside RX3 (some .long) 6 rm_X3_eastInside) (hX : gIs X l D cy nm) {I : gI} {J : gL} {Po : Int64 → Prop} (hR : gR X (gPl V (fun x I' J' => I = I' ∧ J = J' ∧ Po x))) {v1 : Int32} {v2 : Int64} {v4 : Int32} {K5 : Int64 → Int32 → Prop} (hK5 : ∀ (y2 : Int64) (y4 : Int32), K5 y2 y4 → gJ X V 0 0 5 [(0, .ref (V.2.1 99)), (1, .int v1), (2, .long y2), (4, .int y4)] [] I J) (h : w_X3_eastInside_5b Po K5 v1 v2 v4 I) : gJ X V 0 0 5 [(0, .ref (V.2.1 99)), (1, .int v1), (2, .long v2), (4, .int v4)] [] I J := by
  unfold w_X3_eastInside_5b at h
  refine j_iload (pc := 5) C dX3_eastInside_5 3 rfl ?_
  refine j_aload_n (pc := 7) C dX3_eastInside_7 rfl 0 rfl ?_
  refine j_getR (pc := 8) C 99 0 40 (c_99 hGR).1 (c_99 hGR).2 rfl rfl (by decide) inw_X3 wd_779 dX3_eastInside_8 ?_
  refine j_getI (pc := 11) C 40 1 (c_40 hBL).1 (c_40 hBL).2 rfl rfl (by decide) inw_X0 wd_189 dX3_eastInside_11 ?_
  refine j_icmp_ge (pc := 14) (tgt := 76) C dX3_eastInside_14 (by decide) (fun c1 => ?_) (fun c1 => ?_)
  · have h := h.1 c1
    refine j_lload_n (pc := 76) C dX3_eastInside_76 rfl 2 rfl ?_
    exact j_lret (pc := 77) C hR (Nat.zero_le _) (Nat.zero_le _) dX3_eastInside_77 ⟨_, rfl, rfl, rfl, rfl, h⟩
  · have h := h.2 c1
    refine j_iconst (pc := 17) (v := 1) C dX3_eastInside_17 (by decide) ?_
    refine j_istore (pc := 18) (lv' := [(5, .int (1 : Int32)), (0, .ref (V.2.1 99)), (1, .int v1), (2, .long v2), (4, .int v4)]) C dX3_eastInside_18 (by decide) rfl ?_
    refine gJ.sub [1, 2, 3, 4, 0] rfl ?_
    exact t_X3_eastInside_20 hBL hGR C hX hR  hK5 h
set_option maxRecDepth 100000 in
set_option maxHeartbeats 4000000 in
theorem t_X3_eastInside_5 {X : gX} {l : Launch} {D : va_G} {cy : Nat → ClassId} {nm : String} {V : gV} (hBL : gModBL V) (hGR : gModGR V) (C : gC X cX3_eastInside RX3 (some .long) 6 rm_X3_eastInside) (hX : gIs X l D cy nm) {I : gI} {J : gL} {Po : Int64 → Prop} (hR : gR X (gPl V (fun x I' J' => I = I' ∧ J = J' ∧ Po x))) {v1 : Int32} {v2 : Int64} {v4 : Int32} (h : w_X3_eastInside_5 Po v1 v2 v4 I) : gJ X V 0 0 5 [(0, .ref (V.2.1 99)), (1, .int v1), (2, .long v2), (4, .int v4)] [] I J := by
  unfold w_X3_eastInside_5 at h
  obtain ⟨Inv, mu, h0, hs⟩ := h
  have key : ∀ (n : Nat) (v2 : Int64) (v4 : Int32), Inv v2 v4 → mu v2 v4 < n → gJ X V 0 0 5 [(0, .ref (V.2.1 99)), (1, .int v1), (2, .long v2), (4, .int v4)] [] I J := by
    intro n
    induction n with
    | zero => intro v2 v4 hi hn; exact absurd hn (Nat.not_lt_zero _)
    | succ n ih =>
      intro v2 v4 hi hn
      exact t_X3_eastInside_5b hBL hGR C hX hR   (fun u2 u4 hk => ih u2 u4 hk.1 (Nat.lt_of_lt_of_le hk.2 (Nat.le_of_lt_succ hn))) (hs v2 v4 hi)
  exact key _ v2 v4 h0 (Nat.lt_succ_self _)
set_option maxRecDepth 100000 in
set_option maxHeartbeats 4000000 in
theorem m_X3_eastInside {l : Launch} {D : va_G} {cy : Nat → ClassId} {V : gV} (hBL : gModBL V) (hGR : gModGR V) {a1 : Int32} {I : gI} {J : gL} {Po : Int64 → Prop} (h : wp_X3_eastInside a1 I Po) : gMet l D cy yX3_eastInside cX3_eastInside 6 (some .long) rm_X3_eastInside V [.ref (V.2.1 99), .int a1] I J (gPl V (fun x I' J' => I = I' ∧ J = J' ∧ Po x)) := by
  refine gMet.of (by decide) (Nat.le_of_ble_eq_true rfl) (fun X hX C hR => ?_)
  have C : gC X cX3_eastInside RX3 (some .long) 6 rm_X3_eastInside := C
  show gJ X V 0 0 0 [(0, .ref (V.2.1 99)), (1, .int a1)] [] I J
  unfold wp_X3_eastInside at h
  refine j_lconst (pc := 0) (v := 0) C dX3_eastInside_0 (by decide) ?_
  refine j_lstore_n (pc := 1) (lv' := [(2, .long (0 : Int64)), (0, .ref (V.2.1 99)), (1, .int a1)]) C dX3_eastInside_1 rfl (by decide) rfl ?_
  refine j_iconst (pc := 2) (v := 0) C dX3_eastInside_2 (by decide) ?_
  refine j_istore (pc := 3) (lv' := [(4, .int (0 : Int32)), (2, .long (0 : Int64)), (0, .ref (V.2.1 99)), (1, .int a1)]) C dX3_eastInside_3 (by decide) rfl ?_
  refine gJ.sub [2, 3, 1, 0] rfl ?_
  exact t_X3_eastInside_5 hBL hGR C hX hR   h
/-! TileRules$Growth.southAcross(II)J -/
abbrev rm_X3_southAcross : Room := { frames := 1, cells := 0, slots := 0, locals := 23 }
theorem ok_X3_southAcross : gOk yX3_southAcross cX3_southAcross 6 (some .long) 2 := ⟨wd_834, wd_83, by decide +kernel⟩
def w_X3_southAcross_5b  (Po : Int64 → Prop) (K5 : Int64 → Int32 → Prop) (v1 : Int32) (v2 : Int32) (v3 : Int64) (v5 : Int32) (I : gI) : Prop :=
  ((I 40 1) ≤ v5 → Po v3) ∧ (¬ (I 40 1) ≤ v5 → wp_X0_at v1 v5 ((I 40 1) - (1 : Int32)) I (fun r2 => wp_X0_at v2 v5 (0 : Int32) I (fun r3 => wp_X3_pair r2 r3 (fun r4 => ∀ n5 : Int64, n5 = (v3 ||| r4) → ∀ n6 : Int32, n6 = v5 + 1 → K5 n5 n6))))
def w_X3_southAcross_5  (Po : Int64 → Prop)  (v1 : Int32) (v2 : Int32) (v3 : Int64) (v5 : Int32) (I : gI) : Prop :=
  ∃ (Inv : Int64 → Int32 → Prop) (mu : Int64 → Int32 → Nat), Inv v3 v5 ∧ ∀ (v3 : Int64) (v5 : Int32), Inv v3 v5 → w_X3_southAcross_5b  Po  (fun u3 u5 => Inv u3 u5 ∧ mu u3 u5 < mu v3 v5) v1 v2 v3 v5 I
def wp_X3_southAcross (a1 : Int32) (a2 : Int32) (I : gI) (Po : Int64 → Prop) : Prop :=
  w_X3_southAcross_5 Po a1 a2 (0 : Int64) (0 : Int32) I
set_option maxRecDepth 100000 in
set_option maxHeartbeats 4000000 in
theorem t_X3_southAcross_5b {X : gX} {l : Launch} {D : va_G} {cy : Nat → ClassId} {nm : String} {V : gV} (hBL : gModBL V) (hGR : gModGR V) (C : gC X cX3_southAcross RX3 (some .long) 6 rm_X3_southAcross) (hX : gIs X l D cy nm) {I : gI} {J : gL} {Po : Int64 → Prop} (hR : gR X (gPl V (fun x I' J' => I = I' ∧ J = J' ∧ Po x))) {v1 : Int32} {v2 : Int32} {v3 : Int64} {v5 : Int32} {K5 : Int64 → Int32 → Prop} (hK5 : ∀ (y3 : Int64) (y5 : Int32), K5 y3 y5 → gJ X V 0 0 5 [(0, .ref (V.2.1 99)), (1, .int v1), (2, .int v2), (3, .long y3), (5, .int y5)] [] I J) (h : w_X3_southAcross_5b Po K5 v1 v2 v3 v5 I) : gJ X V 0 0 5 [(0, .ref (V.2.1 99)), (1, .int v1), (2, .int v2), (3, .long v3), (5, .int v5)] [] I J := by
  unfold w_X3_southAcross_5b at h
  refine j_iload (pc := 5) C dX3_southAcross_5 4 rfl ?_
  refine j_aload_n (pc := 7) C dX3_southAcross_7 rfl 0 rfl ?_
  refine j_getR (pc := 8) C 99 0 40 (c_99 hGR).1 (c_99 hGR).2 rfl rfl (by decide) inw_X3 wd_779 dX3_southAcross_8 ?_
  refine j_getI (pc := 11) C 40 1 (c_40 hBL).1 (c_40 hBL).2 rfl rfl (by decide) inw_X0 wd_189 dX3_southAcross_11 ?_
  refine j_icmp_ge (pc := 14) (tgt := 59) C dX3_southAcross_14 (by decide) (fun c1 => ?_) (fun c1 => ?_)
  · have h := h.1 c1
    refine j_lload_n (pc := 59) C dX3_southAcross_59 rfl 3 rfl ?_
    exact j_lret (pc := 60) C hR (Nat.zero_le _) (Nat.zero_le _) dX3_southAcross_60 ⟨_, rfl, rfl, rfl, rfl, h⟩
  · have h := h.2 c1
    refine j_lload_n (pc := 17) C dX3_southAcross_17 rfl 3 rfl ?_
    refine j_aload_n (pc := 18) C dX3_southAcross_18 rfl 0 rfl ?_
    refine j_getR (pc := 19) C 99 0 40 (c_99 hGR).1 (c_99 hGR).2 rfl rfl (by decide) inw_X3 wd_779 dX3_southAcross_19 ?_
    refine j_iload_n (pc := 22) C dX3_southAcross_22 rfl 1 rfl ?_
    refine j_iload (pc := 23) C dX3_southAcross_23 4 rfl ?_
    refine j_aload_n (pc := 25) C dX3_southAcross_25 rfl 0 rfl ?_
    refine j_getR (pc := 26) C 99 0 40 (c_99 hGR).1 (c_99 hGR).2 rfl rfl (by decide) inw_X3 wd_779 dX3_southAcross_26 ?_
    refine j_getI (pc := 29) C 40 1 (c_40 hBL).1 (c_40 hBL).2 rfl rfl (by decide) inw_X0 wd_189 dX3_southAcross_29 ?_
    refine j_iconst (pc := 32) (v := 1) C dX3_southAcross_32 (by decide) ?_
    refine j_isub (pc := 33) C dX3_southAcross_33 ?_
    refine j_callV (pc := 34) (As := [.int v1, .int v5, .int ((I 40 1) - (1 : Int32))]) (st := [.long v3]) C hX 40 (m_X0_at hBL  h) (c_40 hBL).1 (c_40 hBL).2 rfl ok_X0_at wd_819 wd_739 wd_740 ⟨by decide, by decide⟩ rfl rfl (Nat.le_of_ble_eq_true rfl) ⟨Nat.le_refl 0, Nat.le_refl 0⟩ dX3_southAcross_34 (fun r V1 I1 J1 hp => ?_)
    obtain ⟨r2, rfl, rfl, rfl, rfl, h⟩ := hp
    show gJ X V 0 0 37 _ [.int r2, .long v3] _ _
    refine j_aload_n (pc := 37) C dX3_southAcross_37 rfl 0 rfl ?_
    refine j_getR (pc := 38) C 99 0 40 (c_99 hGR).1 (c_99 hGR).2 rfl rfl (by decide) inw_X3 wd_779 dX3_southAcross_38 ?_
    refine j_iload_n (pc := 41) C dX3_southAcross_41 rfl 2 rfl ?_
    refine j_iload (pc := 42) C dX3_southAcross_42 4 rfl ?_
    refine j_iconst (pc := 44) (v := 0) C dX3_southAcross_44 (by decide) ?_
    refine j_callV (pc := 45) (As := [.int v2, .int v5, .int (0 : Int32)]) (st := [.int r2, .long v3]) C hX 40 (m_X0_at hBL  h) (c_40 hBL).1 (c_40 hBL).2 rfl ok_X0_at wd_819 wd_739 wd_740 ⟨by decide, by decide⟩ rfl rfl (Nat.le_of_ble_eq_true rfl) ⟨Nat.le_refl 0, Nat.le_refl 0⟩ dX3_southAcross_45 (fun r V1 I1 J1 hp => ?_)
    obtain ⟨r3, rfl, rfl, rfl, rfl, h⟩ := hp
    show gJ X V 0 0 48 _ [.int r3, .int r2, .long v3] _ _
    refine j_callS (pc := 48) (As := [.int r2, .int r3]) (st := [.long v3]) C hX (m_X3_pair   h) ok_X3_pair wd_820 wd_821 ⟨by decide, by decide⟩ rfl rfl (Nat.le_of_ble_eq_true rfl) ⟨Nat.le_refl 0, Nat.le_refl 0⟩ dX3_southAcross_48 (fun r V1 I1 J1 hp => ?_)
    obtain ⟨r4, rfl, rfl, rfl, rfl, h⟩ := hp
    show gJ X V 0 0 51 _ [.long r4, .long v3] _ _
    refine j_lor (pc := 51) C dX3_southAcross_51 ?_
    refine gJ.topl (fun n5 en5 => ?_)
    have h := h n5 en5
    refine j_lstore_n (pc := 52) (lv' := [(3, .long n5), (0, .ref (V.2.1 99)), (1, .int v1), (2, .int v2), (5, .int v5)]) C dX3_southAcross_52 rfl (by decide) rfl ?_
    obtain ⟨n6, en6⟩ : ∃ z : Int32, z = v5 + 1 := ⟨_, rfl⟩
    have h := h n6 en6
    refine j_iinc (pc := 53) (v := n6) (lv' := [(5, .int n6), (3, .long n5), (0, .ref (V.2.1 99)), (1, .int v1), (2, .int v2)]) C dX3_southAcross_53 4 rfl (by rw [en6]; rfl) (by decide) rfl ?_
    refine j_goto (pc := 56) (tgt := 5) C dX3_southAcross_56 (by decide) ?_
    refine gJ.sub [2, 3, 4, 1, 0] rfl ?_
    exact hK5 _ _ h
set_option maxRecDepth 100000 in
set_option maxHeartbeats 4000000 in
theorem t_X3_southAcross_5 {X : gX} {l : Launch} {D : va_G} {cy : Nat → ClassId} {nm : String} {V : gV} (hBL : gModBL V) (hGR : gModGR V) (C : gC X cX3_southAcross RX3 (some .long) 6 rm_X3_southAcross) (hX : gIs X l D cy nm) {I : gI} {J : gL} {Po : Int64 → Prop} (hR : gR X (gPl V (fun x I' J' => I = I' ∧ J = J' ∧ Po x))) {v1 : Int32} {v2 : Int32} {v3 : Int64} {v5 : Int32} (h : w_X3_southAcross_5 Po v1 v2 v3 v5 I) : gJ X V 0 0 5 [(0, .ref (V.2.1 99)), (1, .int v1), (2, .int v2), (3, .long v3), (5, .int v5)] [] I J := by
  unfold w_X3_southAcross_5 at h
  obtain ⟨Inv, mu, h0, hs⟩ := h
  have key : ∀ (n : Nat) (v3 : Int64) (v5 : Int32), Inv v3 v5 → mu v3 v5 < n → gJ X V 0 0 5 [(0, .ref (V.2.1 99)), (1, .int v1), (2, .int v2), (3, .long v3), (5, .int v5)] [] I J := by
    intro n
    induction n with
    | zero => intro v3 v5 hi hn; exact absurd hn (Nat.not_lt_zero _)
    | succ n ih =>
      intro v3 v5 hi hn
      exact t_X3_southAcross_5b hBL hGR C hX hR   (fun u3 u5 hk => ih u3 u5 hk.1 (Nat.lt_of_lt_of_le hk.2 (Nat.le_of_lt_succ hn))) (hs v3 v5 hi)
  exact key _ v3 v5 h0 (Nat.lt_succ_self _)
set_option maxRecDepth 100000 in
set_option maxHeartbeats 4000000 in
theorem m_X3_southAcross {l : Launch} {D : va_G} {cy : Nat → ClassId} {V : gV} (hBL : gModBL V) (hGR : gModGR V) {a1 : Int32} {a2 : Int32} {I : gI} {J : gL} {Po : Int64 → Prop} (h : wp_X3_southAcross a1 a2 I Po) : gMet l D cy yX3_southAcross cX3_southAcross 6 (some .long) rm_X3_southAcross V [.ref (V.2.1 99), .int a1, .int a2] I J (gPl V (fun x I' J' => I = I' ∧ J = J' ∧ Po x)) := by
  refine gMet.of (by decide) (Nat.le_of_ble_eq_true rfl) (fun X hX C hR => ?_)
  have C : gC X cX3_southAcross RX3 (some .long) 6 rm_X3_southAcross := C
  show gJ X V 0 0 0 [(0, .ref (V.2.1 99)), (1, .int a1), (2, .int a2)] [] I J
  unfold wp_X3_southAcross at h
  refine j_lconst (pc := 0) (v := 0) C dX3_southAcross_0 (by decide) ?_
  refine j_lstore_n (pc := 1) (lv' := [(3, .long (0 : Int64)), (0, .ref (V.2.1 99)), (1, .int a1), (2, .int a2)]) C dX3_southAcross_1 rfl (by decide) rfl ?_
  refine j_iconst (pc := 2) (v := 0) C dX3_southAcross_2 (by decide) ?_
  refine j_istore (pc := 3) (lv' := [(5, .int (0 : Int32)), (3, .long (0 : Int64)), (0, .ref (V.2.1 99)), (1, .int a1), (2, .int a2)]) C dX3_southAcross_3 (by decide) rfl ?_
  refine gJ.sub [2, 3, 4, 1, 0] rfl ?_
  exact t_X3_southAcross_5 hBL hGR C hX hR   h
/-! TileRules$Growth.southInside(I)J -/
abbrev rm_X3_southInside : Room := { frames := 1, cells := 0, slots := 0, locals := 23 }
theorem ok_X3_southInside : gOk yX3_southInside cX3_southInside 6 (some .long) 1 := ⟨wd_826, wd_83, by decide +kernel⟩
def w_X3_southInside_20b  (Po : Int64 → Prop) (K5 : Int64 → Int32 → Prop) (K20 : Int64 → Int32 → Prop) (v1 : Int32) (v2 : Int64) (v4 : Int32) (v5 : Int32) (I : gI) : Prop :=
  ((I 40 1) ≤ v5 → ∀ n3 : Int32, n3 = v4 + 1 → K5 v2 n3) ∧ (¬ (I 40 1) ≤ v5 → wp_X0_at v1 v5 (v4 - (1 : Int32)) I (fun r4 => wp_X0_at v1 v5 v4 I (fun r5 => wp_X3_pair r4 r5 (fun r6 => ∀ n7 : Int64, n7 = (v2 ||| r6) → ∀ n8 : Int32, n8 = v5 + 1 → K20 n7 n8))))
def w_X3_southInside_20  (Po : Int64 → Prop) (K5 : Int64 → Int32 → Prop) (v1 : Int32) (v2 : Int64) (v4 : Int32) (v5 : Int32) (I : gI) : Prop :=
  ∃ (Inv : Int64 → Int32 → Prop) (mu : Int64 → Int32 → Nat), Inv v2 v5 ∧ ∀ (v2 : Int64) (v5 : Int32), Inv v2 v5 → w_X3_southInside_20b  Po K5 (fun u2 u5 => Inv u2 u5 ∧ mu u2 u5 < mu v2 v5) v1 v2 v4 v5 I
def w_X3_southInside_5b  (Po : Int64 → Prop) (K5 : Int64 → Int32 → Prop) (v1 : Int32) (v2 : Int64) (v4 : Int32) (I : gI) : Prop :=
  ((I 40 1) ≤ v4 → Po v2) ∧ (¬ (I 40 1) ≤ v4 → w_X3_southInside_20 Po K5 v1 v2 v4 (0 : Int32) I)
def w_X3_southInside_5  (Po : Int64 → Prop)  (v1 : Int32) (v2 : Int64) (v4 : Int32) (I : gI) : Prop :=
  ∃ (Inv : Int64 → Int32 → Prop) (mu : Int64 → Int32 → Nat), Inv v2 v4 ∧ ∀ (v2 : Int64) (v4 : Int32), Inv v2 v4 → w_X3_southInside_5b  Po  (fun u2 u4 => Inv u2 u4 ∧ mu u2 u4 < mu v2 v4) v1 v2 v4 I
def wp_X3_southInside (a1 : Int32) (I : gI) (Po : Int64 → Prop) : Prop :=
  w_X3_southInside_5 Po a1 (0 : Int64) (1 : Int32) I
set_option maxRecDepth 100000 in
set_option maxHeartbeats 4000000 in
theorem t_X3_southInside_20b {X : gX} {l : Launch} {D : va_G} {cy : Nat → ClassId} {nm : String} {V : gV} (hBL : gModBL V) (hGR : gModGR V) (C : gC X cX3_southInside RX3 (some .long) 6 rm_X3_southInside) (hX : gIs X l D cy nm) {I : gI} {J : gL} {Po : Int64 → Prop} (hR : gR X (gPl V (fun x I' J' => I = I' ∧ J = J' ∧ Po x))) {v1 : Int32} {v2 : Int64} {v4 : Int32} {v5 : Int32} {K5 : Int64 → Int32 → Prop} {K20 : Int64 → Int32 → Prop} (hK5 : ∀ (y2 : Int64) (y4 : Int32), K5 y2 y4 → gJ X V 0 0 5 [(0, .ref (V.2.1 99)), (1, .int v1), (2, .long y2), (4, .int y4)] [] I J) (hK20 : ∀ (y2 : Int64) (y5 : Int32), K20 y2 y5 → gJ X V 0 0 20 [(0, .ref (V.2.1 99)), (1, .int v1), (2, .long y2), (4, .int v4), (5, .int y5)] [] I J) (h : w_X3_southInside_20b Po K5 K20 v1 v2 v4 v5 I) : gJ X V 0 0 20 [(0, .ref (V.2.1 99)), (1, .int v1), (2, .long v2), (4, .int v4), (5, .int v5)] [] I J := by
  unfold w_X3_southInside_20b at h
  refine j_iload (pc := 20) C dX3_southInside_20 4 rfl ?_
  refine j_aload_n (pc := 22) C dX3_southInside_22 rfl 0 rfl ?_
  refine j_getR (pc := 23) C 99 0 40 (c_99 hGR).1 (c_99 hGR).2 rfl rfl (by decide) inw_X3 wd_779 dX3_southInside_23 ?_
  refine j_getI (pc := 26) C 40 1 (c_40 hBL).1 (c_40 hBL).2 rfl rfl (by decide) inw_X0 wd_189 dX3_southInside_26 ?_
  refine j_icmp_ge (pc := 29) (tgt := 70) C dX3_southInside_29 (by decide) (fun c2 => ?_) (fun c2 => ?_)
  · have h := h.1 c2
    obtain ⟨n3, en3⟩ : ∃ z : Int32, z = v4 + 1 := ⟨_, rfl⟩
    have h := h n3 en3
    refine j_iinc (pc := 70) (v := n3) (lv' := [(4, .int n3), (0, .ref (V.2.1 99)), (1, .int v1), (2, .long v2), (5, .int v5)]) C dX3_southInside_70 3 rfl (by rw [en3]; rfl) (by decide) rfl ?_
    refine j_goto (pc := 73) (tgt := 5) C dX3_southInside_73 (by decide) ?_
    refine gJ.sub [1, 2, 3, 0] rfl ?_
    exact hK5 _ _ h
  · have h := h.2 c2
    refine j_lload_n (pc := 32) C dX3_southInside_32 rfl 2 rfl ?_
    refine j_aload_n (pc := 33) C dX3_southInside_33 rfl 0 rfl ?_
    refine j_getR (pc := 34) C 99 0 40 (c_99 hGR).1 (c_99 hGR).2 rfl rfl (by decide) inw_X3 wd_779 dX3_southInside_34 ?_
    refine j_iload_n (pc := 37) C dX3_southInside_37 rfl 1 rfl ?_
    refine j_iload (pc := 38) C dX3_southInside_38 4 rfl ?_
    refine j_iload (pc := 40) C dX3_southInside_40 3 rfl ?_
    refine j_iconst (pc := 42) (v := 1) C dX3_southInside_42 (by decide) ?_
    refine j_isub (pc := 43) C dX3_southInside_43 ?_
    refine j_callV (pc := 44) (As := [.int v1, .int v5, .int (v4 - (1 : Int32))]) (st := [.long v2]) C hX 40 (m_X0_at hBL  h) (c_40 hBL).1 (c_40 hBL).2 rfl ok_X0_at wd_819 wd_739 wd_740 ⟨by decide, by decide⟩ rfl rfl (Nat.le_of_ble_eq_true rfl) ⟨Nat.le_refl 0, Nat.le_refl 0⟩ dX3_southInside_44 (fun r V1 I1 J1 hp => ?_)
    obtain ⟨r4, rfl, rfl, rfl, rfl, h⟩ := hp
    show gJ X V 0 0 47 _ [.int r4, .long v2] _ _
    refine j_aload_n (pc := 47) C dX3_southInside_47 rfl 0 rfl ?_
    refine j_getR (pc := 48) C 99 0 40 (c_99 hGR).1 (c_99 hGR).2 rfl rfl (by decide) inw_X3 wd_779 dX3_southInside_48 ?_
    refine j_iload_n (pc := 51) C dX3_southInside_51 rfl 1 rfl ?_
    refine j_iload (pc := 52) C dX3_southInside_52 4 rfl ?_
    refine j_iload (pc := 54) C dX3_southInside_54 3 rfl ?_
    refine j_callV (pc := 56) (As := [.int v1, .int v5, .int v4]) (st := [.int r4, .long v2]) C hX 40 (m_X0_at hBL  h) (c_40 hBL).1 (c_40 hBL).2 rfl ok_X0_at wd_819 wd_739 wd_740 ⟨by decide, by decide⟩ rfl rfl (Nat.le_of_ble_eq_true rfl) ⟨Nat.le_refl 0, Nat.le_refl 0⟩ dX3_southInside_56 (fun r V1 I1 J1 hp => ?_)
    obtain ⟨r5, rfl, rfl, rfl, rfl, h⟩ := hp
    show gJ X V 0 0 59 _ [.int r5, .int r4, .long v2] _ _
    refine j_callS (pc := 59) (As := [.int r4, .int r5]) (st := [.long v2]) C hX (m_X3_pair   h) ok_X3_pair wd_820 wd_821 ⟨by decide, by decide⟩ rfl rfl (Nat.le_of_ble_eq_true rfl) ⟨Nat.le_refl 0, Nat.le_refl 0⟩ dX3_southInside_59 (fun r V1 I1 J1 hp => ?_)
    obtain ⟨r6, rfl, rfl, rfl, rfl, h⟩ := hp
    show gJ X V 0 0 62 _ [.long r6, .long v2] _ _
    refine j_lor (pc := 62) C dX3_southInside_62 ?_
    refine gJ.topl (fun n7 en7 => ?_)
    have h := h n7 en7
    refine j_lstore_n (pc := 63) (lv' := [(2, .long n7), (0, .ref (V.2.1 99)), (1, .int v1), (4, .int v4), (5, .int v5)]) C dX3_southInside_63 rfl (by decide) rfl ?_
    obtain ⟨n8, en8⟩ : ∃ z : Int32, z = v5 + 1 := ⟨_, rfl⟩
    have h := h n8 en8
    refine j_iinc (pc := 64) (v := n8) (lv' := [(5, .int n8), (2, .long n7), (0, .ref (V.2.1 99)), (1, .int v1), (4, .int v4)]) C dX3_southInside_64 4 rfl (by rw [en8]; rfl) (by decide) rfl ?_
    refine j_goto (pc := 67) (tgt := 20) C dX3_southInside_67 (by decide) ?_
    refine gJ.sub [2, 3, 1, 4, 0] rfl ?_
    exact hK20 _ _ h
set_option maxRecDepth 100000 in
set_option maxHeartbeats 4000000 in
theorem t_X3_southInside_20 {X : gX} {l : Launch} {D : va_G} {cy : Nat → ClassId} {nm : String} {V : gV} (hBL : gModBL V) (hGR : gModGR V) (C : gC X cX3_southInside RX3 (some .long) 6 rm_X3_southInside) (hX : gIs X l D cy nm) {I : gI} {J : gL} {Po : Int64 → Prop} (hR : gR X (gPl V (fun x I' J' => I = I' ∧ J = J' ∧ Po x))) {v1 : Int32} {v2 : Int64} {v4 : Int32} {v5 : Int32} {K5 : Int64 → Int32 → Prop} (hK5 : ∀ (y2 : Int64) (y4 : Int32), K5 y2 y4 → gJ X V 0 0 5 [(0, .ref (V.2.1 99)), (1, .int v1), (2, .long y2), (4, .int y4)] [] I J) (h : w_X3_southInside_20 Po K5 v1 v2 v4 v5 I) : gJ X V 0 0 20 [(0, .ref (V.2.1 99)), (1, .int v1), (2, .long v2), (4, .int v4), (5, .int v5)] [] I J := by
  unfold w_X3_southInside_20 at h
  obtain ⟨Inv, mu, h0, hs⟩ := h
  have key : ∀ (n : Nat) (v2 : Int64) (v5 : Int32), Inv v2 v5 → mu v2 v5 < n → gJ X V 0 0 20 [(0, .ref (V.2.1 99)), (1, .int v1), (2, .long v2), (4, .int v4), (5, .int v5)] [] I J := by
    intro n
    induction n with
    | zero => intro v2 v5 hi hn; exact absurd hn (Nat.not_lt_zero _)
    | succ n ih =>
      intro v2 v5 hi hn
      exact t_X3_southInside_20b hBL hGR C hX hR  hK5 (fun u2 u5 hk => ih u2 u5 hk.1 (Nat.lt_of_lt_of_le hk.2 (Nat.le_of_lt_succ hn))) (hs v2 v5 hi)
  exact key _ v2 v5 h0 (Nat.lt_succ_self _)
set_option maxRecDepth 100000 in
set_option maxHeartbeats 4000000 in
theorem t_X3_southInside_5b {X : gX} {l : Launch} {D : va_G} {cy : Nat → ClassId} {nm : String} {V : gV} (hBL : gModBL V) (hGR : gModGR V) (C : gC X cX3_southInside RX3 (some .long) 6 rm_X3_southInside) (hX : gIs X l D cy nm) {I : gI} {J : gL} {Po : Int64 → Prop} (hR : gR X (gPl V (fun x I' J' => I = I' ∧ J = J' ∧ Po x))) {v1 : Int32} {v2 : Int64} {v4 : Int32} {K5 : Int64 → Int32 → Prop} (hK5 : ∀ (y2 : Int64) (y4 : Int32), K5 y2 y4 → gJ X V 0 0 5 [(0, .ref (V.2.1 99)), (1, .int v1), (2, .long y2), (4, .int y4)] [] I J) (h : w_X3_southInside_5b Po K5 v1 v2 v4 I) : gJ X V 0 0 5 [(0, .ref (V.2.1 99)), (1, .int v1), (2, .long v2), (4, .int v4)] [] I J := by
  unfold w_X3_southInside_5b at h
  refine j_iload (pc := 5) C dX3_southInside_5 3 rfl ?_
  refine j_aload_n (pc := 7) C dX3_southInside_7 rfl 0 rfl ?_
  refine j_getR (pc := 8) C 99 0 40 (c_99 hGR).1 (c_99 hGR).2 rfl rfl (by decide) inw_X3 wd_779 dX3_southInside_8 ?_
  refine j_getI (pc := 11) C 40 1 (c_40 hBL).1 (c_40 hBL).2 rfl rfl (by decide) inw_X0 wd_189 dX3_southInside_11 ?_
  refine j_icmp_ge (pc := 14) (tgt := 76) C dX3_southInside_14 (by decide) (fun c1 => ?_) (fun c1 => ?_)
  · have h := h.1 c1
    refine j_lload_n (pc := 76) C dX3_southInside_76 rfl 2 rfl ?_
    exact j_lret (pc := 77) C hR (Nat.zero_le _) (Nat.zero_le _) dX3_southInside_77 ⟨_, rfl, rfl, rfl, rfl, h⟩
  · have h := h.2 c1
    refine j_iconst (pc := 17) (v := 0) C dX3_southInside_17 (by decide) ?_
    refine j_istore (pc := 18) (lv' := [(5, .int (0 : Int32)), (0, .ref (V.2.1 99)), (1, .int v1), (2, .long v2), (4, .int v4)]) C dX3_southInside_18 (by decide) rfl ?_
    refine gJ.sub [1, 2, 3, 4, 0] rfl ?_
    exact t_X3_southInside_20 hBL hGR C hX hR  hK5 h
set_option maxRecDepth 100000 in
set_option maxHeartbeats 4000000 in
theorem t_X3_southInside_5 {X : gX} {l : Launch} {D : va_G} {cy : Nat → ClassId} {nm : String} {V : gV} (hBL : gModBL V) (hGR : gModGR V) (C : gC X cX3_southInside RX3 (some .long) 6 rm_X3_southInside) (hX : gIs X l D cy nm) {I : gI} {J : gL} {Po : Int64 → Prop} (hR : gR X (gPl V (fun x I' J' => I = I' ∧ J = J' ∧ Po x))) {v1 : Int32} {v2 : Int64} {v4 : Int32} (h : w_X3_southInside_5 Po v1 v2 v4 I) : gJ X V 0 0 5 [(0, .ref (V.2.1 99)), (1, .int v1), (2, .long v2), (4, .int v4)] [] I J := by
  unfold w_X3_southInside_5 at h
  obtain ⟨Inv, mu, h0, hs⟩ := h
  have key : ∀ (n : Nat) (v2 : Int64) (v4 : Int32), Inv v2 v4 → mu v2 v4 < n → gJ X V 0 0 5 [(0, .ref (V.2.1 99)), (1, .int v1), (2, .long v2), (4, .int v4)] [] I J := by
    intro n
    induction n with
    | zero => intro v2 v4 hi hn; exact absurd hn (Nat.not_lt_zero _)
    | succ n ih =>
      intro v2 v4 hi hn
      exact t_X3_southInside_5b hBL hGR C hX hR   (fun u2 u4 hk => ih u2 u4 hk.1 (Nat.lt_of_lt_of_le hk.2 (Nat.le_of_lt_succ hn))) (hs v2 v4 hi)
  exact key _ v2 v4 h0 (Nat.lt_succ_self _)
set_option maxRecDepth 100000 in
set_option maxHeartbeats 4000000 in
theorem m_X3_southInside {l : Launch} {D : va_G} {cy : Nat → ClassId} {V : gV} (hBL : gModBL V) (hGR : gModGR V) {a1 : Int32} {I : gI} {J : gL} {Po : Int64 → Prop} (h : wp_X3_southInside a1 I Po) : gMet l D cy yX3_southInside cX3_southInside 6 (some .long) rm_X3_southInside V [.ref (V.2.1 99), .int a1] I J (gPl V (fun x I' J' => I = I' ∧ J = J' ∧ Po x)) := by
  refine gMet.of (by decide) (Nat.le_of_ble_eq_true rfl) (fun X hX C hR => ?_)
  have C : gC X cX3_southInside RX3 (some .long) 6 rm_X3_southInside := C
  show gJ X V 0 0 0 [(0, .ref (V.2.1 99)), (1, .int a1)] [] I J
  unfold wp_X3_southInside at h
  refine j_lconst (pc := 0) (v := 0) C dX3_southInside_0 (by decide) ?_
  refine j_lstore_n (pc := 1) (lv' := [(2, .long (0 : Int64)), (0, .ref (V.2.1 99)), (1, .int a1)]) C dX3_southInside_1 rfl (by decide) rfl ?_
  refine j_iconst (pc := 2) (v := 1) C dX3_southInside_2 (by decide) ?_
  refine j_istore (pc := 3) (lv' := [(4, .int (1 : Int32)), (2, .long (0 : Int64)), (0, .ref (V.2.1 99)), (1, .int a1)]) C dX3_southInside_3 (by decide) rfl ?_
  refine gJ.sub [2, 3, 1, 0] rfl ?_
  exact t_X3_southInside_5 hBL hGR C hX hR   h
/-! TileRules$Growth.growPairs()V -/
abbrev rm_X3_growPairs : Room := { frames := 2, cells := 0, slots := 0, locals := 48 }
theorem ok_X3_growPairs : gOk yX3_growPairs cX3_growPairs 8 none 0 := ⟨wd_810, wd_83, by decide +kernel⟩
def w_X3_growPairs_144  (Po : gI → gL → Prop) (K10 : Int32 → Int64 → Int64 → Int32 → Prop) (K69 : Int64 → Int64 → Int32 → Prop) (v1 : Int32) (v2 : Int64) (v6 : Int32) (v7 : Int32) (s0 : Int64) (s1 : Int64) (I : gI) (J : gL) : Prop :=
  ∀ n13 : Int64, n13 = (s1 ||| s0) → ∀ n14 : Int32, n14 = v7 + 1 → K69 v2 n13 n14
def w_X3_growPairs_111  (Po : gI → gL → Prop) (K10 : Int32 → Int64 → Int64 → Int32 → Prop) (K69 : Int64 → Int64 → Int32 → Prop) (v1 : Int32) (v4 : Int64) (v6 : Int32) (v7 : Int32) (s0 : Int64) (s1 : Int64) (I : gI) (J : gL) : Prop :=
  ∀ n10 : Int64, n10 = (s1 ||| s0) → wp_X3_pair v6 v7 (fun r11 => ((lg_cmp ((J 99 3) &&& r11) (0 : Int64)) = 0 → w_X3_growPairs_144 Po K10 K69 v1 n10 v6 v7 (0 : Int64) v4 I J) ∧ (¬ (lg_cmp ((J 99 3) &&& r11) (0 : Int64)) = 0 → wp_X3_southAcross v6 v7 I (fun r15 => w_X3_growPairs_144 Po K10 K69 v1 n10 v6 v7 r15 v4 I J)))
def w_X3_growPairs_69b  (Po : gI → gL → Prop) (K10 : Int32 → Int64 → Int64 → Int32 → Prop) (K69 : Int64 → Int64 → Int32 → Prop) (v1 : Int32) (v2 : Int64) (v4 : Int64) (v6 : Int32) (v7 : Int32) (I : gI) (J : gL) : Prop :=
  ((I 40 0) ≤ v7 → ∀ n7 : Int32, n7 = v6 + 1 → K10 v1 v2 v4 n7) ∧ (¬ (I 40 0) ≤ v7 → wp_X3_pair v6 v7 (fun r8 => ((lg_cmp ((J 99 2) &&& r8) (0 : Int64)) = 0 → w_X3_growPairs_111 Po K10 K69 v1 v4 v6 v7 (0 : Int64) v2 I J) ∧ (¬ (lg_cmp ((J 99 2) &&& r8) (0 : Int64)) = 0 → wp_X3_eastAcross v6 v7 I (fun r16 => w_X3_growPairs_111 Po K10 K69 v1 v4 v6 v7 r16 v2 I J))))
def w_X3_growPairs_69  (Po : gI → gL → Prop) (K10 : Int32 → Int64 → Int64 → Int32 → Prop) (v1 : Int32) (v2 : Int64) (v4 : Int64) (v6 : Int32) (v7 : Int32) (I : gI) (J : gL) : Prop :=
  ∃ (Inv : Int64 → Int64 → Int32 → Prop) (mu : Int64 → Int64 → Int32 → Nat), Inv v2 v4 v7 ∧ ∀ (v2 : Int64) (v4 : Int64) (v7 : Int32), Inv v2 v4 v7 → w_X3_growPairs_69b  Po K10 (fun u2 u4 u7 => Inv u2 u4 u7 ∧ mu u2 u4 u7 < mu v2 v4 v7) v1 v2 v4 v6 v7 I J
def w_X3_growPairs_66  (Po : gI → gL → Prop) (K10 : Int32 → Int64 → Int64 → Int32 → Prop) (v1 : Int32) (v2 : Int64) (v4 : Int64) (v6 : Int32) (I : gI) (J : gL) : Prop :=
  w_X3_growPairs_69 Po K10 v1 v2 v4 v6 (0 : Int32) I J
def w_X3_growPairs_10b  (Po : gI → gL → Prop) (K10 : Int32 → Int64 → Int64 → Int32 → Prop) (v1 : Int32) (v2 : Int64) (v4 : Int64) (v6 : Int32) (I : gI) (J : gL) : Prop :=
  ((I 40 0) ≤ v6 → ∀ I2 : gI, I2 = gup I 99 1 v1 → ∀ J3 : gL, J3 = gup J 99 2 v2 → ∀ J4 : gL, J4 = gup J3 99 3 v4 → Po I2 J4) ∧ (¬ (I 40 0) ≤ v6 → ((((I 99 1) >>> (v6 &&& 31)) &&& (1 : Int32)) = 0 → w_X3_growPairs_66 Po K10 v1 v2 v4 v6 I J) ∧ (¬ (((I 99 1) >>> (v6 &&& 31)) &&& (1 : Int32)) = 0 → wp_X0_lettersIn v6 I (fun r17 => ∀ n18 : Int32, n18 = (v1 ||| r17) → wp_X3_eastInside v6 I (fun r19 => ∀ n20 : Int64, n20 = (v2 ||| r19) → wp_X3_southInside v6 I (fun r21 => ∀ n22 : Int64, n22 = (v4 ||| r21) → w_X3_growPairs_66 Po K10 n18 n20 n22 v6 I J)))))
def w_X3_growPairs_10  (Po : gI → gL → Prop)  (v1 : Int32) (v2 : Int64) (v4 : Int64) (v6 : Int32) (I : gI) (J : gL) : Prop :=
  ∃ (Inv : Int32 → Int64 → Int64 → Int32 → Prop) (mu : Int32 → Int64 → Int64 → Int32 → Nat), Inv v1 v2 v4 v6 ∧ ∀ (v1 : Int32) (v2 : Int64) (v4 : Int64) (v6 : Int32), Inv v1 v2 v4 v6 → w_X3_growPairs_10b  Po  (fun u1 u2 u4 u6 => Inv u1 u2 u4 u6 ∧ mu u1 u2 u4 u6 < mu v1 v2 v4 v6) v1 v2 v4 v6 I J
def wp_X3_growPairs (I : gI) (J : gL) (Po : gI → gL → Prop) : Prop :=
  w_X3_growPairs_10 Po (0 : Int32) (0 : Int64) (0 : Int64) (0 : Int32) I J
set_option maxRecDepth 100000 in
set_option maxHeartbeats 4000000 in
theorem t_X3_growPairs_144 {X : gX} {l : Launch} {D : va_G} {cy : Nat → ClassId} {nm : String} {V : gV} (hBL : gModBL V) (hGR : gModGR V) (C : gC X cX3_growPairs RX3 none 8 rm_X3_growPairs) (hX : gIs X l D cy nm) {I : gI} {J : gL} {Po : gI → gL → Prop} (hR : gR X (gPv V (fun I' J' => Po I' J'))) {v1 : Int32} {v2 : Int64} {v6 : Int32} {v7 : Int32} {s0 : Int64} {s1 : Int64} {K10 : Int32 → Int64 → Int64 → Int32 → Prop} {K69 : Int64 → Int64 → Int32 → Prop} (hK10 : ∀ (y1 : Int32) (y2 : Int64) (y4 : Int64) (y6 : Int32), K10 y1 y2 y4 y6 → gJ X V 0 0 10 [(0, .ref (V.2.1 99)), (1, .int y1), (2, .long y2), (4, .long y4), (6, .int y6)] [] I J) (hK69 : ∀ (y2 : Int64) (y4 : Int64) (y7 : Int32), K69 y2 y4 y7 → gJ X V 0 0 69 [(0, .ref (V.2.1 99)), (1, .int v1), (2, .long y2), (4, .long y4), (6, .int v6), (7, .int y7)] [] I J) (h : w_X3_growPairs_144 Po K10 K69 v1 v2 v6 v7 s0 s1 I J) : gJ X V 0 0 144 [(0, .ref (V.2.1 99)), (1, .int v1), (2, .long v2), (6, .int v6), (7, .int v7)] [.long s0, .long s1] I J := by
  unfold w_X3_growPairs_144 at h
  refine j_lor (pc := 144) C dX3_growPairs_144 ?_
  refine gJ.topl (fun n13 en13 => ?_)
  have h := h n13 en13
  refine j_lstore (pc := 145) (lv' := [(4, .long n13), (0, .ref (V.2.1 99)), (1, .int v1), (2, .long v2), (6, .int v6), (7, .int v7)]) C dX3_growPairs_145 (by decide) rfl ?_
  obtain ⟨n14, en14⟩ : ∃ z : Int32, z = v7 + 1 := ⟨_, rfl⟩
  have h := h n14 en14
  refine j_iinc (pc := 147) (v := n14) (lv' := [(7, .int n14), (4, .long n13), (0, .ref (V.2.1 99)), (1, .int v1), (2, .long v2), (6, .int v6)]) C dX3_growPairs_147 5 rfl (by rw [en14]; rfl) (by decide) rfl ?_
  refine j_goto (pc := 150) (tgt := 69) C dX3_growPairs_150 (by decide) ?_
  refine gJ.sub [2, 3, 4, 1, 5, 0] rfl ?_
  exact hK69 _ _ _ h
set_option maxRecDepth 100000 in
set_option maxHeartbeats 4000000 in
theorem t_X3_growPairs_111 {X : gX} {l : Launch} {D : va_G} {cy : Nat → ClassId} {nm : String} {V : gV} (hBL : gModBL V) (hGR : gModGR V) (C : gC X cX3_growPairs RX3 none 8 rm_X3_growPairs) (hX : gIs X l D cy nm) {I : gI} {J : gL} {Po : gI → gL → Prop} (hR : gR X (gPv V (fun I' J' => Po I' J'))) {v1 : Int32} {v4 : Int64} {v6 : Int32} {v7 : Int32} {s0 : Int64} {s1 : Int64} {K10 : Int32 → Int64 → Int64 → Int32 → Prop} {K69 : Int64 → Int64 → Int32 → Prop} (hK10 : ∀ (y1 : Int32) (y2 : Int64) (y4 : Int64) (y6 : Int32), K10 y1 y2 y4 y6 → gJ X V 0 0 10 [(0, .ref (V.2.1 99)), (1, .int y1), (2, .long y2), (4, .long y4), (6, .int y6)] [] I J) (hK69 : ∀ (y2 : Int64) (y4 : Int64) (y7 : Int32), K69 y2 y4 y7 → gJ X V 0 0 69 [(0, .ref (V.2.1 99)), (1, .int v1), (2, .long y2), (4, .long y4), (6, .int v6), (7, .int y7)] [] I J) (h : w_X3_growPairs_111 Po K10 K69 v1 v4 v6 v7 s0 s1 I J) : gJ X V 0 0 111 [(0, .ref (V.2.1 99)), (1, .int v1), (4, .long v4), (6, .int v6), (7, .int v7)] [.long s0, .long s1] I J := by
  unfold w_X3_growPairs_111 at h
  refine j_lor (pc := 111) C dX3_growPairs_111 ?_
  refine gJ.topl (fun n10 en10 => ?_)
  have h := h n10 en10
  refine j_lstore_n (pc := 112) (lv' := [(2, .long n10), (0, .ref (V.2.1 99)), (1, .int v1), (4, .long v4), (6, .int v6), (7, .int v7)]) C dX3_growPairs_112 rfl (by decide) rfl ?_
  refine j_lload (pc := 113) C dX3_growPairs_113 3 rfl ?_
  refine j_aload_n (pc := 115) C dX3_growPairs_115 rfl 1 rfl ?_
  refine j_getL (pc := 116) C 99 3 (c_99 hGR).1 (c_99 hGR).2 rfl rfl (by decide) inw_X3 wd_782 dX3_growPairs_116 ?_
  refine j_iload (pc := 119) C dX3_growPairs_119 4 rfl ?_
  refine j_iload (pc := 121) C dX3_growPairs_121 5 rfl ?_
  refine j_callS (pc := 123) (As := [.int v6, .int v7]) (st := [.long (J 99 3), .long v4]) C hX (m_X3_pair   h) ok_X3_pair wd_820 wd_821 ⟨by decide, by decide⟩ rfl rfl (Nat.le_of_ble_eq_true rfl) ⟨Nat.le_refl 0, Nat.le_refl 0⟩ dX3_growPairs_123 (fun r V1 I1 J1 hp => ?_)
  obtain ⟨r11, rfl, rfl, rfl, rfl, h⟩ := hp
  show gJ X V 0 0 126 _ [.long r11, .long (J 99 3), .long v4] _ _
  refine j_land (pc := 126) C dX3_growPairs_126 ?_
  refine j_lconst (pc := 127) (v := 0) C dX3_growPairs_127 (by decide) ?_
  refine j_lcmp (pc := 128) C dX3_growPairs_128 ?_
  refine j_if_eq (pc := 129) (tgt := 143) C dX3_growPairs_129 (by decide) (fun c12 => ?_) (fun c12 => ?_)
  · have h := h.1 c12
    refine j_lconst (pc := 143) (v := 0) C dX3_growPairs_143 (by decide) ?_
    refine gJ.sub [1, 2, 0, 4, 5] rfl ?_
    exact t_X3_growPairs_144 hBL hGR C hX hR  hK10 hK69 h
  · have h := h.2 c12
    refine j_aload_n (pc := 132) C dX3_growPairs_132 rfl 1 rfl ?_
    refine j_iload (pc := 133) C dX3_growPairs_133 4 rfl ?_
    refine j_iload (pc := 135) C dX3_growPairs_135 5 rfl ?_
    refine j_callV (pc := 137) (As := [.int v6, .int v7]) (st := [.long v4]) C hX 99 (m_X3_southAcross hBL hGR  h) (c_99 hGR).1 (c_99 hGR).2 rfl ok_X3_southAcross wd_831 wd_833 wd_31 ⟨by decide, by decide⟩ rfl rfl (Nat.le_of_ble_eq_true rfl) ⟨Nat.le_refl 0, Nat.le_refl 0⟩ dX3_growPairs_137 (fun r V1 I1 J1 hp => ?_)
    obtain ⟨r15, rfl, rfl, rfl, rfl, h⟩ := hp
    show gJ X V 0 0 140 _ [.long r15, .long v4] _ _
    refine j_goto (pc := 140) (tgt := 144) C dX3_growPairs_140 (by decide) ?_
    refine gJ.sub [1, 2, 0, 4, 5] rfl ?_
    exact t_X3_growPairs_144 hBL hGR C hX hR  hK10 hK69 h
set_option maxRecDepth 100000 in
set_option maxHeartbeats 4000000 in
theorem t_X3_growPairs_69b {X : gX} {l : Launch} {D : va_G} {cy : Nat → ClassId} {nm : String} {V : gV} (hBL : gModBL V) (hGR : gModGR V) (C : gC X cX3_growPairs RX3 none 8 rm_X3_growPairs) (hX : gIs X l D cy nm) {I : gI} {J : gL} {Po : gI → gL → Prop} (hR : gR X (gPv V (fun I' J' => Po I' J'))) {v1 : Int32} {v2 : Int64} {v4 : Int64} {v6 : Int32} {v7 : Int32} {K10 : Int32 → Int64 → Int64 → Int32 → Prop} {K69 : Int64 → Int64 → Int32 → Prop} (hK10 : ∀ (y1 : Int32) (y2 : Int64) (y4 : Int64) (y6 : Int32), K10 y1 y2 y4 y6 → gJ X V 0 0 10 [(0, .ref (V.2.1 99)), (1, .int y1), (2, .long y2), (4, .long y4), (6, .int y6)] [] I J) (hK69 : ∀ (y2 : Int64) (y4 : Int64) (y7 : Int32), K69 y2 y4 y7 → gJ X V 0 0 69 [(0, .ref (V.2.1 99)), (1, .int v1), (2, .long y2), (4, .long y4), (6, .int v6), (7, .int y7)] [] I J) (h : w_X3_growPairs_69b Po K10 K69 v1 v2 v4 v6 v7 I J) : gJ X V 0 0 69 [(0, .ref (V.2.1 99)), (1, .int v1), (2, .long v2), (4, .long v4), (6, .int v6), (7, .int v7)] [] I J := by
  unfold w_X3_growPairs_69b at h
  refine j_iload (pc := 69) C dX3_growPairs_69 5 rfl ?_
  refine j_aload_n (pc := 71) C dX3_growPairs_71 rfl 0 rfl ?_
  refine j_getR (pc := 72) C 99 0 40 (c_99 hGR).1 (c_99 hGR).2 rfl rfl (by decide) inw_X3 wd_779 dX3_growPairs_72 ?_
  refine j_getI (pc := 75) C 40 0 (c_40 hBL).1 (c_40 hBL).2 rfl rfl (by decide) inw_X0 wd_186 dX3_growPairs_75 ?_
  refine j_icmp_ge (pc := 78) (tgt := 153) C dX3_growPairs_78 (by decide) (fun c6 => ?_) (fun c6 => ?_)
  · have h := h.1 c6
    obtain ⟨n7, en7⟩ : ∃ z : Int32, z = v6 + 1 := ⟨_, rfl⟩
    have h := h n7 en7
    refine j_iinc (pc := 153) (v := n7) (lv' := [(6, .int n7), (0, .ref (V.2.1 99)), (1, .int v1), (2, .long v2), (4, .long v4), (7, .int v7)]) C dX3_growPairs_153 4 rfl (by rw [en7]; rfl) (by decide) rfl ?_
    refine j_goto (pc := 156) (tgt := 10) C dX3_growPairs_156 (by decide) ?_
    refine gJ.sub [1, 2, 3, 4, 0] rfl ?_
    exact hK10 _ _ _ _ h
  · have h := h.2 c6
    refine j_lload_n (pc := 81) C dX3_growPairs_81 rfl 2 rfl ?_
    refine j_aload_n (pc := 82) C dX3_growPairs_82 rfl 0 rfl ?_
    refine j_getL (pc := 83) C 99 2 (c_99 hGR).1 (c_99 hGR).2 rfl rfl (by decide) inw_X3 wd_781 dX3_growPairs_83 ?_
    refine j_iload (pc := 86) C dX3_growPairs_86 4 rfl ?_
    refine j_iload (pc := 88) C dX3_growPairs_88 5 rfl ?_
    refine j_callS (pc := 90) (As := [.int v6, .int v7]) (st := [.long (J 99 2), .long v2]) C hX (m_X3_pair   h) ok_X3_pair wd_820 wd_821 ⟨by decide, by decide⟩ rfl rfl (Nat.le_of_ble_eq_true rfl) ⟨Nat.le_refl 0, Nat.le_refl 0⟩ dX3_growPairs_90 (fun r V1 I1 J1 hp => ?_)
    obtain ⟨r8, rfl, rfl, rfl, rfl, h⟩ := hp
    show gJ X V 0 0 93 _ [.long r8, .long (J 99 2), .long v2] _ _
    refine j_land (pc := 93) C dX3_growPairs_93 ?_
    refine j_lconst (pc := 94) (v := 0) C dX3_growPairs_94 (by decide) ?_
    refine j_lcmp (pc := 95) C dX3_growPairs_95 ?_
    refine j_if_eq (pc := 96) (tgt := 110) C dX3_growPairs_96 (by decide) (fun c9 => ?_) (fun c9 => ?_)
    · have h := h.1 c9
      refine j_lconst (pc := 110) (v := 0) C dX3_growPairs_110 (by decide) ?_
      refine gJ.sub [0, 1, 3, 4, 5] rfl ?_
      exact t_X3_growPairs_111 hBL hGR C hX hR  hK10 hK69 h
    · have h := h.2 c9
      refine j_aload_n (pc := 99) C dX3_growPairs_99 rfl 0 rfl ?_
      refine j_iload (pc := 100) C dX3_growPairs_100 4 rfl ?_
      refine j_iload (pc := 102) C dX3_growPairs_102 5 rfl ?_
      refine j_callV (pc := 104) (As := [.int v6, .int v7]) (st := [.long v2]) C hX 99 (m_X3_eastAcross hBL hGR  h) (c_99 hGR).1 (c_99 hGR).2 rfl ok_X3_eastAcross wd_827 wd_829 wd_30 ⟨by decide, by decide⟩ rfl rfl (Nat.le_of_ble_eq_true rfl) ⟨Nat.le_refl 0, Nat.le_refl 0⟩ dX3_growPairs_104 (fun r V1 I1 J1 hp => ?_)
      obtain ⟨r16, rfl, rfl, rfl, rfl, h⟩ := hp
      show gJ X V 0 0 107 _ [.long r16, .long v2] _ _
      refine j_goto (pc := 107) (tgt := 111) C dX3_growPairs_107 (by decide) ?_
      refine gJ.sub [0, 1, 3, 4, 5] rfl ?_
      exact t_X3_growPairs_111 hBL hGR C hX hR  hK10 hK69 h
set_option maxRecDepth 100000 in
set_option maxHeartbeats 4000000 in
theorem t_X3_growPairs_69 {X : gX} {l : Launch} {D : va_G} {cy : Nat → ClassId} {nm : String} {V : gV} (hBL : gModBL V) (hGR : gModGR V) (C : gC X cX3_growPairs RX3 none 8 rm_X3_growPairs) (hX : gIs X l D cy nm) {I : gI} {J : gL} {Po : gI → gL → Prop} (hR : gR X (gPv V (fun I' J' => Po I' J'))) {v1 : Int32} {v2 : Int64} {v4 : Int64} {v6 : Int32} {v7 : Int32} {K10 : Int32 → Int64 → Int64 → Int32 → Prop} (hK10 : ∀ (y1 : Int32) (y2 : Int64) (y4 : Int64) (y6 : Int32), K10 y1 y2 y4 y6 → gJ X V 0 0 10 [(0, .ref (V.2.1 99)), (1, .int y1), (2, .long y2), (4, .long y4), (6, .int y6)] [] I J) (h : w_X3_growPairs_69 Po K10 v1 v2 v4 v6 v7 I J) : gJ X V 0 0 69 [(0, .ref (V.2.1 99)), (1, .int v1), (2, .long v2), (4, .long v4), (6, .int v6), (7, .int v7)] [] I J := by
  unfold w_X3_growPairs_69 at h
  obtain ⟨Inv, mu, h0, hs⟩ := h
  have key : ∀ (n : Nat) (v2 : Int64) (v4 : Int64) (v7 : Int32), Inv v2 v4 v7 → mu v2 v4 v7 < n → gJ X V 0 0 69 [(0, .ref (V.2.1 99)), (1, .int v1), (2, .long v2), (4, .long v4), (6, .int v6), (7, .int v7)] [] I J := by
    intro n
    induction n with
    | zero => intro v2 v4 v7 hi hn; exact absurd hn (Nat.not_lt_zero _)
    | succ n ih =>
      intro v2 v4 v7 hi hn
      exact t_X3_growPairs_69b hBL hGR C hX hR  hK10 (fun u2 u4 u7 hk => ih u2 u4 u7 hk.1 (Nat.lt_of_lt_of_le hk.2 (Nat.le_of_lt_succ hn))) (hs v2 v4 v7 hi)
  exact key _ v2 v4 v7 h0 (Nat.lt_succ_self _)
set_option maxRecDepth 100000 in
set_option maxHeartbeats 4000000 in
theorem t_X3_growPairs_66 {X : gX} {l : Launch} {D : va_G} {cy : Nat → ClassId} {nm : String} {V : gV} (hBL : gModBL V) (hGR : gModGR V) (C : gC X cX3_growPairs RX3 none 8 rm_X3_growPairs) (hX : gIs X l D cy nm) {I : gI} {J : gL} {Po : gI → gL → Prop} (hR : gR X (gPv V (fun I' J' => Po I' J'))) {v1 : Int32} {v2 : Int64} {v4 : Int64} {v6 : Int32} {K10 : Int32 → Int64 → Int64 → Int32 → Prop} (hK10 : ∀ (y1 : Int32) (y2 : Int64) (y4 : Int64) (y6 : Int32), K10 y1 y2 y4 y6 → gJ X V 0 0 10 [(0, .ref (V.2.1 99)), (1, .int y1), (2, .long y2), (4, .long y4), (6, .int y6)] [] I J) (h : w_X3_growPairs_66 Po K10 v1 v2 v4 v6 I J) : gJ X V 0 0 66 [(0, .ref (V.2.1 99)), (1, .int v1), (2, .long v2), (4, .long v4), (6, .int v6)] [] I J := by
  unfold w_X3_growPairs_66 at h
  refine j_iconst (pc := 66) (v := 0) C dX3_growPairs_66 (by decide) ?_
  refine j_istore (pc := 67) (lv' := [(7, .int (0 : Int32)), (0, .ref (V.2.1 99)), (1, .int v1), (2, .long v2), (4, .long v4), (6, .int v6)]) C dX3_growPairs_67 (by decide) rfl ?_
  refine gJ.sub [1, 2, 3, 4, 5, 0] rfl ?_
  exact t_X3_growPairs_69 hBL hGR C hX hR  hK10 h
set_option maxRecDepth 100000 in
set_option maxHeartbeats 4000000 in
theorem t_X3_growPairs_10b {X : gX} {l : Launch} {D : va_G} {cy : Nat → ClassId} {nm : String} {V : gV} (hBL : gModBL V) (hGR : gModGR V) (C : gC X cX3_growPairs RX3 none 8 rm_X3_growPairs) (hX : gIs X l D cy nm) {I : gI} {J : gL} {Po : gI → gL → Prop} (hR : gR X (gPv V (fun I' J' => Po I' J'))) {v1 : Int32} {v2 : Int64} {v4 : Int64} {v6 : Int32} {K10 : Int32 → Int64 → Int64 → Int32 → Prop} (hK10 : ∀ (y1 : Int32) (y2 : Int64) (y4 : Int64) (y6 : Int32), K10 y1 y2 y4 y6 → gJ X V 0 0 10 [(0, .ref (V.2.1 99)), (1, .int y1), (2, .long y2), (4, .long y4), (6, .int y6)] [] I J) (h : w_X3_growPairs_10b Po K10 v1 v2 v4 v6 I J) : gJ X V 0 0 10 [(0, .ref (V.2.1 99)), (1, .int v1), (2, .long v2), (4, .long v4), (6, .int v6)] [] I J := by
  unfold w_X3_growPairs_10b at h
  refine j_iload (pc := 10) C dX3_growPairs_10 4 rfl ?_
  refine j_aload_n (pc := 12) C dX3_growPairs_12 rfl 0 rfl ?_
  refine j_getR (pc := 13) C 99 0 40 (c_99 hGR).1 (c_99 hGR).2 rfl rfl (by decide) inw_X3 wd_779 dX3_growPairs_13 ?_
  refine j_getI (pc := 16) C 40 0 (c_40 hBL).1 (c_40 hBL).2 rfl rfl (by decide) inw_X0 wd_186 dX3_growPairs_16 ?_
  refine j_icmp_ge (pc := 19) (tgt := 159) C dX3_growPairs_19 (by decide) (fun c1 => ?_) (fun c1 => ?_)
  · have h := h.1 c1
    refine j_aload_n (pc := 159) C dX3_growPairs_159 rfl 0 rfl ?_
    refine j_iload_n (pc := 160) C dX3_growPairs_160 rfl 1 rfl ?_
    refine j_putI (pc := 161) (ft := .int) C tyX3 tyX3_ok nmX3 99 1 (c_99 hGR).1 (c_99 hGR).2 rfl rfl (by decide) inw_X3 wd_780 rfl (by decide +kernel) rfl rfl dX3_growPairs_161 ?_
    refine gJ.nmI (fun I2 eI2 => ?_)
    have h := h I2 eI2
    refine j_aload_n (pc := 164) C dX3_growPairs_164 rfl 0 rfl ?_
    refine j_lload_n (pc := 165) C dX3_growPairs_165 rfl 2 rfl ?_
    refine j_putL (pc := 166) (ft := .long) C tyX3 tyX3_ok nmX3 99 2 (c_99 hGR).1 (c_99 hGR).2 rfl rfl (by decide) inw_X3 wd_781 rfl (by decide +kernel) rfl rfl dX3_growPairs_166 ?_
    refine gJ.nmJ (fun J3 eJ3 => ?_)
    have h := h J3 eJ3
    refine j_aload_n (pc := 169) C dX3_growPairs_169 rfl 0 rfl ?_
    refine j_lload (pc := 170) C dX3_growPairs_170 3 rfl ?_
    refine j_putL (pc := 172) (ft := .long) C tyX3 tyX3_ok nmX3 99 3 (c_99 hGR).1 (c_99 hGR).2 rfl rfl (by decide) inw_X3 wd_782 rfl (by decide +kernel) rfl rfl dX3_growPairs_172 ?_
    refine gJ.nmJ (fun J4 eJ4 => ?_)
    have h := h J4 eJ4
    exact j_vret (pc := 175) C hR (Nat.zero_le _) (Nat.zero_le _) dX3_growPairs_175 ⟨rfl, rfl, h⟩
  · have h := h.2 c1
    refine j_aload_n (pc := 22) C dX3_growPairs_22 rfl 0 rfl ?_
    refine j_getI (pc := 23) C 99 1 (c_99 hGR).1 (c_99 hGR).2 rfl rfl (by decide) inw_X3 wd_780 dX3_growPairs_23 ?_
    refine j_iload (pc := 26) C dX3_growPairs_26 4 rfl ?_
    refine j_ishr (pc := 28) C dX3_growPairs_28 ?_
    refine j_iconst (pc := 29) (v := 1) C dX3_growPairs_29 (by decide) ?_
    refine j_iand (pc := 30) C dX3_growPairs_30 ?_
    refine j_if_eq (pc := 31) (tgt := 66) C dX3_growPairs_31 (by decide) (fun c5 => ?_) (fun c5 => ?_)
    · have h := h.1 c5
      refine gJ.sub [0, 1, 2, 3, 4] rfl ?_
      exact t_X3_growPairs_66 hBL hGR C hX hR  hK10 h
    · have h := h.2 c5
      refine j_iload_n (pc := 34) C dX3_growPairs_34 rfl 1 rfl ?_
      refine j_aload_n (pc := 35) C dX3_growPairs_35 rfl 0 rfl ?_
      refine j_getR (pc := 36) C 99 0 40 (c_99 hGR).1 (c_99 hGR).2 rfl rfl (by decide) inw_X3 wd_779 dX3_growPairs_36 ?_
      refine j_iload (pc := 39) C dX3_growPairs_39 4 rfl ?_
      refine j_callV (pc := 41) (As := [.int v6]) (st := [.int v1]) C hX 40 (m_X0_lettersIn hBL  h) (c_40 hBL).1 (c_40 hBL).2 rfl ok_X0_lettersIn wd_811 wd_812 wd_813 ⟨by decide, by decide⟩ rfl rfl (Nat.le_of_ble_eq_true rfl) ⟨Nat.le_refl 0, Nat.le_refl 0⟩ dX3_growPairs_41 (fun r V1 I1 J1 hp => ?_)
      obtain ⟨r17, rfl, rfl, rfl, rfl, h⟩ := hp
      show gJ X V 0 0 44 _ [.int r17, .int v1] _ _
      refine j_ior (pc := 44) C dX3_growPairs_44 ?_
      refine gJ.topi (fun n18 en18 => ?_)
      have h := h n18 en18
      refine j_istore_n (pc := 45) (lv' := [(1, .int n18), (0, .ref (V.2.1 99)), (2, .long v2), (4, .long v4), (6, .int v6)]) C dX3_growPairs_45 rfl (by decide) rfl ?_
      refine j_lload_n (pc := 46) C dX3_growPairs_46 rfl 2 rfl ?_
      refine j_aload_n (pc := 47) C dX3_growPairs_47 rfl 1 rfl ?_
      refine j_iload (pc := 48) C dX3_growPairs_48 4 rfl ?_
      refine j_callV (pc := 50) (As := [.int v6]) (st := [.long v2]) C hX 99 (m_X3_eastInside hBL hGR  h) (c_99 hGR).1 (c_99 hGR).2 rfl ok_X3_eastInside wd_815 wd_817 wd_28 ⟨by decide, by decide⟩ rfl rfl (Nat.le_of_ble_eq_true rfl) ⟨Nat.le_refl 0, Nat.le_refl 0⟩ dX3_growPairs_50 (fun r V1 I1 J1 hp => ?_)
      obtain ⟨r19, rfl, rfl, rfl, rfl, h⟩ := hp
      show gJ X V 0 0 53 _ [.long r19, .long v2] _ _
      refine j_lor (pc := 53) C dX3_growPairs_53 ?_
      refine gJ.topl (fun n20 en20 => ?_)
      have h := h n20 en20
      refine j_lstore_n (pc := 54) (lv' := [(2, .long n20), (1, .int n18), (0, .ref (V.2.1 99)), (4, .long v4), (6, .int v6)]) C dX3_growPairs_54 rfl (by decide) rfl ?_
      refine j_lload (pc := 55) C dX3_growPairs_55 3 rfl ?_
      refine j_aload_n (pc := 57) C dX3_growPairs_57 rfl 2 rfl ?_
      refine j_iload (pc := 58) C dX3_growPairs_58 4 rfl ?_
      refine j_callV (pc := 60) (As := [.int v6]) (st := [.long v4]) C hX 99 (m_X3_southInside hBL hGR  h) (c_99 hGR).1 (c_99 hGR).2 rfl ok_X3_southInside wd_823 wd_825 wd_29 ⟨by decide, by decide⟩ rfl rfl (Nat.le_of_ble_eq_true rfl) ⟨Nat.le_refl 0, Nat.le_refl 0⟩ dX3_growPairs_60 (fun r V1 I1 J1 hp => ?_)
      obtain ⟨r21, rfl, rfl, rfl, rfl, h⟩ := hp
      show gJ X V 0 0 63 _ [.long r21, .long v4] _ _
      refine j_lor (pc := 63) C dX3_growPairs_63 ?_
      refine gJ.topl (fun n22 en22 => ?_)
      have h := h n22 en22
      refine j_lstore (pc := 64) (lv' := [(4, .long n22), (2, .long n20), (1, .int n18), (0, .ref (V.2.1 99)), (6, .int v6)]) C dX3_growPairs_64 (by decide) rfl ?_
      refine gJ.sub [3, 2, 1, 0, 4] rfl ?_
      exact t_X3_growPairs_66 hBL hGR C hX hR  hK10 h
set_option maxRecDepth 100000 in
set_option maxHeartbeats 4000000 in
theorem t_X3_growPairs_10 {X : gX} {l : Launch} {D : va_G} {cy : Nat → ClassId} {nm : String} {V : gV} (hBL : gModBL V) (hGR : gModGR V) (C : gC X cX3_growPairs RX3 none 8 rm_X3_growPairs) (hX : gIs X l D cy nm) {I : gI} {J : gL} {Po : gI → gL → Prop} (hR : gR X (gPv V (fun I' J' => Po I' J'))) {v1 : Int32} {v2 : Int64} {v4 : Int64} {v6 : Int32} (h : w_X3_growPairs_10 Po v1 v2 v4 v6 I J) : gJ X V 0 0 10 [(0, .ref (V.2.1 99)), (1, .int v1), (2, .long v2), (4, .long v4), (6, .int v6)] [] I J := by
  unfold w_X3_growPairs_10 at h
  obtain ⟨Inv, mu, h0, hs⟩ := h
  have key : ∀ (n : Nat) (v1 : Int32) (v2 : Int64) (v4 : Int64) (v6 : Int32), Inv v1 v2 v4 v6 → mu v1 v2 v4 v6 < n → gJ X V 0 0 10 [(0, .ref (V.2.1 99)), (1, .int v1), (2, .long v2), (4, .long v4), (6, .int v6)] [] I J := by
    intro n
    induction n with
    | zero => intro v1 v2 v4 v6 hi hn; exact absurd hn (Nat.not_lt_zero _)
    | succ n ih =>
      intro v1 v2 v4 v6 hi hn
      exact t_X3_growPairs_10b hBL hGR C hX hR   (fun u1 u2 u4 u6 hk => ih u1 u2 u4 u6 hk.1 (Nat.lt_of_lt_of_le hk.2 (Nat.le_of_lt_succ hn))) (hs v1 v2 v4 v6 hi)
  exact key _ v1 v2 v4 v6 h0 (Nat.lt_succ_self _)
set_option maxRecDepth 100000 in
set_option maxHeartbeats 4000000 in
theorem m_X3_growPairs {l : Launch} {D : va_G} {cy : Nat → ClassId} {V : gV} (hBL : gModBL V) (hGR : gModGR V) {I : gI} {J : gL} {Po : gI → gL → Prop} (h : wp_X3_growPairs I J Po) : gMet l D cy yX3_growPairs cX3_growPairs 8 none rm_X3_growPairs V [.ref (V.2.1 99)] I J (gPv V (fun I' J' => Po I' J')) := by
  refine gMet.of (by decide) (Nat.le_of_ble_eq_true rfl) (fun X hX C hR => ?_)
  have C : gC X cX3_growPairs RX3 none 8 rm_X3_growPairs := C
  show gJ X V 0 0 0 [(0, .ref (V.2.1 99))] [] I J
  unfold wp_X3_growPairs at h
  refine j_iconst (pc := 0) (v := 0) C dX3_growPairs_0 (by decide) ?_
  refine j_istore_n (pc := 1) (lv' := [(1, .int (0 : Int32)), (0, .ref (V.2.1 99))]) C dX3_growPairs_1 rfl (by decide) rfl ?_
  refine j_lconst (pc := 2) (v := 0) C dX3_growPairs_2 (by decide) ?_
  refine j_lstore_n (pc := 3) (lv' := [(2, .long (0 : Int64)), (1, .int (0 : Int32)), (0, .ref (V.2.1 99))]) C dX3_growPairs_3 rfl (by decide) rfl ?_
  refine j_lconst (pc := 4) (v := 0) C dX3_growPairs_4 (by decide) ?_
  refine j_lstore (pc := 5) (lv' := [(4, .long (0 : Int64)), (2, .long (0 : Int64)), (1, .int (0 : Int32)), (0, .ref (V.2.1 99))]) C dX3_growPairs_5 (by decide) rfl ?_
  refine j_iconst (pc := 7) (v := 0) C dX3_growPairs_7 (by decide) ?_
  refine j_istore (pc := 8) (lv' := [(6, .int (0 : Int32)), (4, .long (0 : Int64)), (2, .long (0 : Int64)), (1, .int (0 : Int32)), (0, .ref (V.2.1 99))]) C dX3_growPairs_8 (by decide) rfl ?_
  refine gJ.sub [4, 3, 2, 1, 0] rfl ?_
  exact t_X3_growPairs_10 hBL hGR C hX hR   h
/-! TileRules$Growth.firstBeside(III)I -/
abbrev rm_X3_firstBeside : Room := { frames := 3, cells := 0, slots := 0, locals := 75 }
theorem ok_X3_firstBeside : gOk yX3_firstBeside cX3_firstBeside 5 (some .int) 3 := ⟨wd_806, wd_83, by decide +kernel⟩
def w_X3_firstBeside_29  (Po : Int32 → gI → gL → Prop) (K3 : Int32 → gI → gL → Prop) (v1 : Int32) (v2 : Int32) (v3 : Int32) (v4 : Int32) (s0 : Int64) (I : gI) (J : gL) : Prop :=
  wp_X3_pair v1 v2 (fun r5 => ((lg_cmp (s0 &&& r5) (0 : Int64)) = 0 → ∀ n7 : Int32, n7 = v4 + 1 → K3 n7 I J) ∧ (¬ (lg_cmp (s0 &&& r5) (0 : Int64)) = 0 → Po v4 I J))
def w_X3_firstBeside_3b  (Po : Int32 → gI → gL → Prop) (K3 : Int32 → gI → gL → Prop) (v1 : Int32) (v2 : Int32) (v3 : Int32) (v4 : Int32) (I : gI) (J : gL) : Prop :=
  ((42 : Int32) < v4 → Po (-1 : Int32) I J) ∧ (¬ (42 : Int32) < v4 → wp_X3_growPairs I J (fun I2 J3 => (¬ v3 = 0 → w_X3_firstBeside_29 Po K3 v1 v2 v3 v4 (J3 99 3) I2 J3) ∧ (v3 = 0 → w_X3_firstBeside_29 Po K3 v1 v2 v3 v4 (J3 99 2) I2 J3)))
def w_X3_firstBeside_3  (Po : Int32 → gI → gL → Prop)  (v1 : Int32) (v2 : Int32) (v3 : Int32) (v4 : Int32) (I : gI) (J : gL) : Prop :=
  ∃ (Inv : Int32 → gI → gL → Prop) (mu : Int32 → gI → gL → Nat), Inv v4 I J ∧ ∀ (v4 : Int32) (I : gI) (J : gL), Inv v4 I J → w_X3_firstBeside_3b  Po  (fun u4 I1 J1 => Inv u4 I1 J1 ∧ mu u4 I1 J1 < mu v4 I J) v1 v2 v3 v4 I J
def wp_X3_firstBeside (a1 : Int32) (a2 : Int32) (a3 : Int32) (I : gI) (J : gL) (Po : Int32 → gI → gL → Prop) : Prop :=
  w_X3_firstBeside_3 Po a1 a2 a3 (1 : Int32) I J
set_option maxRecDepth 100000 in
set_option maxHeartbeats 4000000 in
theorem t_X3_firstBeside_29 {X : gX} {l : Launch} {D : va_G} {cy : Nat → ClassId} {nm : String} {V : gV} (hBL : gModBL V) (hGR : gModGR V) (C : gC X cX3_firstBeside RX3 (some .int) 5 rm_X3_firstBeside) (hX : gIs X l D cy nm) {I : gI} {J : gL} {Po : Int32 → gI → gL → Prop} (hR : gR X (gPi V (fun x I' J' => Po x I' J'))) {v1 : Int32} {v2 : Int32} {v3 : Int32} {v4 : Int32} {s0 : Int64} {K3 : Int32 → gI → gL → Prop} (hK3 : ∀ (y4 : Int32) (I1 : gI) (J1 : gL), K3 y4 I1 J1 → gJ X V 0 0 3 [(0, .ref (V.2.1 99)), (1, .int v1), (2, .int v2), (3, .int v3), (4, .int y4)] [] I1 J1) (h : w_X3_firstBeside_29 Po K3 v1 v2 v3 v4 s0 I J) : gJ X V 0 0 29 [(0, .ref (V.2.1 99)), (1, .int v1), (2, .int v2), (3, .int v3), (4, .int v4)] [.long s0] I J := by
  unfold w_X3_firstBeside_29 at h
  refine j_iload_n (pc := 29) C dX3_firstBeside_29 rfl 1 rfl ?_
  refine j_iload_n (pc := 30) C dX3_firstBeside_30 rfl 2 rfl ?_
  refine j_callS (pc := 31) (As := [.int v1, .int v2]) (st := [.long s0]) C hX (m_X3_pair   h) ok_X3_pair wd_820 wd_821 ⟨by decide, by decide⟩ rfl rfl (Nat.le_of_ble_eq_true rfl) ⟨Nat.le_refl 0, Nat.le_refl 0⟩ dX3_firstBeside_31 (fun r V1 I1 J1 hp => ?_)
  obtain ⟨r5, rfl, rfl, rfl, rfl, h⟩ := hp
  show gJ X V 0 0 34 _ [.long r5, .long s0] _ _
  refine j_land (pc := 34) C dX3_firstBeside_34 ?_
  refine j_lconst (pc := 35) (v := 0) C dX3_firstBeside_35 (by decide) ?_
  refine j_lcmp (pc := 36) C dX3_firstBeside_36 ?_
  refine j_if_eq (pc := 37) (tgt := 43) C dX3_firstBeside_37 (by decide) (fun c6 => ?_) (fun c6 => ?_)
  · have h := h.1 c6
    obtain ⟨n7, en7⟩ : ∃ z : Int32, z = v4 + 1 := ⟨_, rfl⟩
    have h := h n7 en7
    refine j_iinc (pc := 43) (v := n7) (lv' := [(4, .int n7), (0, .ref (V.2.1 99)), (1, .int v1), (2, .int v2), (3, .int v3)]) C dX3_firstBeside_43 4 rfl (by rw [en7]; rfl) (by decide) rfl ?_
    refine j_goto (pc := 46) (tgt := 3) C dX3_firstBeside_46 (by decide) ?_
    refine gJ.sub [1, 2, 3, 4, 0] rfl ?_
    exact hK3 _ _ _ h
  · have h := h.2 c6
    refine j_iload (pc := 40) C dX3_firstBeside_40 4 rfl ?_
    exact j_iret (pc := 42) C hR (Nat.zero_le _) (Nat.zero_le _) dX3_firstBeside_42 ⟨_, rfl, rfl, h⟩
set_option maxRecDepth 100000 in
set_option maxHeartbeats 4000000 in
theorem t_X3_firstBeside_3b {X : gX} {l : Launch} {D : va_G} {cy : Nat → ClassId} {nm : String} {V : gV} (hBL : gModBL V) (hGR : gModGR V) (C : gC X cX3_firstBeside RX3 (some .int) 5 rm_X3_firstBeside) (hX : gIs X l D cy nm) {I : gI} {J : gL} {Po : Int32 → gI → gL → Prop} (hR : gR X (gPi V (fun x I' J' => Po x I' J'))) {v1 : Int32} {v2 : Int32} {v3 : Int32} {v4 : Int32} {K3 : Int32 → gI → gL → Prop} (hK3 : ∀ (y4 : Int32) (I1 : gI) (J1 : gL), K3 y4 I1 J1 → gJ X V 0 0 3 [(0, .ref (V.2.1 99)), (1, .int v1), (2, .int v2), (3, .int v3), (4, .int y4)] [] I1 J1) (h : w_X3_firstBeside_3b Po K3 v1 v2 v3 v4 I J) : gJ X V 0 0 3 [(0, .ref (V.2.1 99)), (1, .int v1), (2, .int v2), (3, .int v3), (4, .int v4)] [] I J := by
  unfold w_X3_firstBeside_3b at h
  refine j_iload (pc := 3) C dX3_firstBeside_3 4 rfl ?_
  refine j_bipush (pc := 5) (v := 42) C dX3_firstBeside_5 (by decide) ?_
  refine j_icmp_gt (pc := 7) (tgt := 49) C dX3_firstBeside_7 (by decide) (fun c1 => ?_) (fun c1 => ?_)
  · have h := h.1 c1
    refine j_iconst (pc := 49) (v := (-1)) C dX3_firstBeside_49 (by decide) ?_
    exact j_iret (pc := 50) C hR (Nat.zero_le _) (Nat.zero_le _) dX3_firstBeside_50 ⟨_, rfl, rfl, h⟩
  · have h := h.2 c1
    refine j_aload_n (pc := 10) C dX3_firstBeside_10 rfl 0 rfl ?_
    refine j_callV (pc := 11) (As := []) (st := []) C hX 99 (m_X3_growPairs hBL hGR  h) (c_99 hGR).1 (c_99 hGR).2 rfl ok_X3_growPairs wd_807 wd_809 wd_27 ⟨by decide, by decide⟩ rfl rfl (Nat.le_of_ble_eq_true rfl) ⟨Nat.le_refl 0, Nat.le_refl 0⟩ dX3_firstBeside_11 (fun r V1 I2 J3 hp => ?_)
    obtain ⟨rfl, rfl, h⟩ := hp
    show gJ X V 0 0 14 _ [] _ _
    refine j_iload_n (pc := 14) C dX3_firstBeside_14 rfl 3 rfl ?_
    refine j_if_ne (pc := 15) (tgt := 25) C dX3_firstBeside_15 (by decide) (fun c4 => ?_) (fun c4 => ?_)
    · have h := h.1 c4
      refine j_aload_n (pc := 25) C dX3_firstBeside_25 rfl 0 rfl ?_
      refine j_getL (pc := 26) C 99 3 (c_99 hGR).1 (c_99 hGR).2 rfl rfl (by decide) inw_X3 wd_782 dX3_firstBeside_26 ?_
      refine gJ.sub [0, 1, 2, 3, 4] rfl ?_
      exact t_X3_firstBeside_29 hBL hGR C hX hR  hK3 h
    · have h := h.2 c4
      refine j_aload_n (pc := 18) C dX3_firstBeside_18 rfl 0 rfl ?_
      refine j_getL (pc := 19) C 99 2 (c_99 hGR).1 (c_99 hGR).2 rfl rfl (by decide) inw_X3 wd_781 dX3_firstBeside_19 ?_
      refine j_goto (pc := 22) (tgt := 29) C dX3_firstBeside_22 (by decide) ?_
      refine gJ.sub [0, 1, 2, 3, 4] rfl ?_
      exact t_X3_firstBeside_29 hBL hGR C hX hR  hK3 h
set_option maxRecDepth 100000 in
set_option maxHeartbeats 4000000 in
theorem t_X3_firstBeside_3 {X : gX} {l : Launch} {D : va_G} {cy : Nat → ClassId} {nm : String} {V : gV} (hBL : gModBL V) (hGR : gModGR V) (C : gC X cX3_firstBeside RX3 (some .int) 5 rm_X3_firstBeside) (hX : gIs X l D cy nm) {I : gI} {J : gL} {Po : Int32 → gI → gL → Prop} (hR : gR X (gPi V (fun x I' J' => Po x I' J'))) {v1 : Int32} {v2 : Int32} {v3 : Int32} {v4 : Int32} (h : w_X3_firstBeside_3 Po v1 v2 v3 v4 I J) : gJ X V 0 0 3 [(0, .ref (V.2.1 99)), (1, .int v1), (2, .int v2), (3, .int v3), (4, .int v4)] [] I J := by
  unfold w_X3_firstBeside_3 at h
  obtain ⟨Inv, mu, h0, hs⟩ := h
  have key : ∀ (n : Nat) (v4 : Int32) (I : gI) (J : gL), Inv v4 I J → mu v4 I J < n → gJ X V 0 0 3 [(0, .ref (V.2.1 99)), (1, .int v1), (2, .int v2), (3, .int v3), (4, .int v4)] [] I J := by
    intro n
    induction n with
    | zero => intro v4 I J hi hn; exact absurd hn (Nat.not_lt_zero _)
    | succ n ih =>
      intro v4 I J hi hn
      exact t_X3_firstBeside_3b hBL hGR C hX hR   (fun u4 I1 J1 hk => ih u4 I1 J1 hk.1 (Nat.lt_of_lt_of_le hk.2 (Nat.le_of_lt_succ hn))) (hs v4 I J hi)
  exact key _ v4 I J h0 (Nat.lt_succ_self _)
set_option maxRecDepth 100000 in
set_option maxHeartbeats 4000000 in
theorem m_X3_firstBeside {l : Launch} {D : va_G} {cy : Nat → ClassId} {V : gV} (hBL : gModBL V) (hGR : gModGR V) {a1 : Int32} {a2 : Int32} {a3 : Int32} {I : gI} {J : gL} {Po : Int32 → gI → gL → Prop} (h : wp_X3_firstBeside a1 a2 a3 I J Po) : gMet l D cy yX3_firstBeside cX3_firstBeside 5 (some .int) rm_X3_firstBeside V [.ref (V.2.1 99), .int a1, .int a2, .int a3] I J (gPi V (fun x I' J' => Po x I' J')) := by
  refine gMet.of (by decide) (Nat.le_of_ble_eq_true rfl) (fun X hX C hR => ?_)
  have C : gC X cX3_firstBeside RX3 (some .int) 5 rm_X3_firstBeside := C
  show gJ X V 0 0 0 [(0, .ref (V.2.1 99)), (1, .int a1), (2, .int a2), (3, .int a3)] [] I J
  unfold wp_X3_firstBeside at h
  refine j_iconst (pc := 0) (v := 1) C dX3_firstBeside_0 (by decide) ?_
  refine j_istore (pc := 1) (lv' := [(4, .int (1 : Int32)), (0, .ref (V.2.1 99)), (1, .int a1), (2, .int a2), (3, .int a3)]) C dX3_firstBeside_1 (by decide) rfl ?_
  refine gJ.sub [1, 2, 3, 4, 0] rfl ?_
  exact t_X3_firstBeside_3 hBL hGR C hX hR   h
/-! TileRules$Growth.addSquare(IIII)V -/
abbrev rm_X3_addSquare : Room := { frames := 0, cells := 0, slots := 0, locals := 0 }
theorem ok_X3_addSquare : gOk yX3_addSquare cX3_addSquare 7 none 4 := ⟨wd_862, wd_83, by decide +kernel⟩
def wp_X3_addSquare (a1 : Int32) (a2 : Int32) (a3 : Int32) (a4 : Int32) (J : gL) (Po : gL → Prop) : Prop :=
  ∀ n1 : Int32, n1 = (((6 : Int32) * a1) + a2) → ∀ n2 : Int32, n2 = (((6 : Int32) * (((6 : Int32) * n1) + a3)) + a4) → ¬ (64 : Int32) = 0 ∧ vp_in (n2 / (64 : Int32)) 21 ∧ ¬ (64 : Int32) = 0 ∧ vp_in (n2 / (64 : Int32)) 21 ∧ ∀ J7 : gL, J7 = gup J 103 ((n2 / (64 : Int32))).toNatClampNeg ((J 103 ((n2 / (64 : Int32))).toNatClampNeg) ||| ((1 : Int64) <<< (((n2 - n2 / (64 : Int32) * (64 : Int32))).toInt64 &&& 63))) → Po J7
set_option maxRecDepth 100000 in
set_option maxHeartbeats 4000000 in
theorem m_X3_addSquare {l : Launch} {D : va_G} {cy : Nat → ClassId} {V : gV} (hBL : gModBL V) (hGR : gModGR V) {a1 : Int32} {a2 : Int32} {a3 : Int32} {a4 : Int32} {I : gI} {J : gL} {Po : gL → Prop} (h : wp_X3_addSquare a1 a2 a3 a4 J Po) : gMet l D cy yX3_addSquare cX3_addSquare 7 none rm_X3_addSquare V [.ref (V.2.1 99), .int a1, .int a2, .int a3, .int a4] I J (gPv V (fun I' J' => I = I' ∧ Po J')) := by
  refine gMet.of (by decide) (Nat.le_of_ble_eq_true rfl) (fun X hX C hR => ?_)
  have C : gC X cX3_addSquare RX3 none 7 rm_X3_addSquare := C
  show gJ X V 0 0 0 [(0, .ref (V.2.1 99)), (1, .int a1), (2, .int a2), (3, .int a3), (4, .int a4)] [] I J
  unfold wp_X3_addSquare at h
  refine j_bipush (pc := 0) (v := 6) C dX3_addSquare_0 (by decide) ?_
  refine j_iload_n (pc := 2) C dX3_addSquare_2 rfl 1 rfl ?_
  refine j_imul (pc := 3) C dX3_addSquare_3 ?_
  refine j_iload_n (pc := 4) C dX3_addSquare_4 rfl 2 rfl ?_
  refine j_iadd (pc := 5) C dX3_addSquare_5 ?_
  refine gJ.topi (fun n1 en1 => ?_)
  have h := h n1 en1
  refine j_istore (pc := 6) (lv' := [(5, .int n1), (0, .ref (V.2.1 99)), (1, .int a1), (2, .int a2), (3, .int a3), (4, .int a4)]) C dX3_addSquare_6 (by decide) rfl ?_
  refine j_bipush (pc := 8) (v := 6) C dX3_addSquare_8 (by decide) ?_
  refine j_bipush (pc := 10) (v := 6) C dX3_addSquare_10 (by decide) ?_
  refine j_iload (pc := 12) C dX3_addSquare_12 0 rfl ?_
  refine j_imul (pc := 14) C dX3_addSquare_14 ?_
  refine j_iload_n (pc := 15) C dX3_addSquare_15 rfl 4 rfl ?_
  refine j_iadd (pc := 16) C dX3_addSquare_16 ?_
  refine j_imul (pc := 17) C dX3_addSquare_17 ?_
  refine j_iload (pc := 18) C dX3_addSquare_18 5 rfl ?_
  refine j_iadd (pc := 20) C dX3_addSquare_20 ?_
  refine gJ.topi (fun n2 en2 => ?_)
  have h := h n2 en2
  refine j_istore (pc := 21) (lv' := [(6, .int n2), (5, .int n1), (0, .ref (V.2.1 99)), (1, .int a1), (2, .int a2), (3, .int a3), (4, .int a4)]) C dX3_addSquare_21 (by decide) rfl ?_
  refine j_aload_n (pc := 23) C dX3_addSquare_23 rfl 2 rfl ?_
  refine j_getR (pc := 24) C 99 5 103 (c_99 hGR).1 (c_99 hGR).2 rfl rfl (by decide) inw_X3 wd_784 dX3_addSquare_24 ?_
  refine j_iload (pc := 27) C dX3_addSquare_27 0 rfl ?_
  refine j_bipush (pc := 29) (v := 64) C dX3_addSquare_29 (by decide) ?_
  obtain ⟨g3, h⟩ := h
  refine j_idiv (pc := 31) C dX3_addSquare_31 g3 ?_
  refine j_dup2_11 (pc := 32) C dX3_addSquare_32 rfl rfl ?_
  obtain ⟨g4, h⟩ := h
  refine j_lald (pc := 33) C 103 (c_103 hGR).1 (c_103 hGR).2 g4 dX3_addSquare_33 ?_
  refine j_lconst (pc := 34) (v := 1) C dX3_addSquare_34 (by decide) ?_
  refine j_iload (pc := 35) C dX3_addSquare_35 0 rfl ?_
  refine j_bipush (pc := 37) (v := 64) C dX3_addSquare_37 (by decide) ?_
  obtain ⟨g5, h⟩ := h
  refine j_irem (pc := 39) C dX3_addSquare_39 g5 ?_
  refine j_lshl (pc := 40) C dX3_addSquare_40 ?_
  refine j_lor (pc := 41) C dX3_addSquare_41 ?_
  obtain ⟨g6, h⟩ := h
  refine j_last (pc := 42) C 103 (c_103 hGR).1 (c_103 hGR).2 g6 dX3_addSquare_42 ?_
  refine gJ.nmJ (fun J7 eJ7 => ?_)
  have h := h J7 eJ7
  exact j_vret (pc := 43) C hR (Nat.zero_le _) (Nat.zero_le _) dX3_addSquare_43 ⟨rfl, rfl, rfl, h⟩
/-! TileRules$Growth.addSquareOnCrossing(I)V -/
abbrev rm_X3_addSquareOnCrossing : Room := { frames := 1, cells := 0, slots := 0, locals := 26 }
theorem ok_X3_addSquareOnCrossing : gOk yX3_addSquareOnCrossing cX3_addSquareOnCrossing 7 none 1 := ⟨wd_874, wd_83, by decide +kernel⟩
def wp_X3_addSquareOnCrossing (a1 : Int32) (I : gI) (J : gL) (Po : gL → Prop) : Prop :=
  ∀ n1 : Int32, n1 = ((I 40 1) - (1 : Int32)) → ¬ (216 : Int32) = 0 ∧ ∀ n3 : Int32, n3 = (a1 / (216 : Int32)) → ¬ (36 : Int32) = 0 ∧ ¬ (6 : Int32) = 0 ∧ ∀ n6 : Int32, n6 = ((a1 / (36 : Int32)) - (a1 / (36 : Int32)) / (6 : Int32) * (6 : Int32)) → ¬ (6 : Int32) = 0 ∧ ¬ (6 : Int32) = 0 ∧ ∀ n9 : Int32, n9 = ((a1 / (6 : Int32)) - (a1 / (6 : Int32)) / (6 : Int32) * (6 : Int32)) → ¬ (6 : Int32) = 0 ∧ ∀ n11 : Int32, n11 = (a1 - a1 / (6 : Int32) * (6 : Int32)) → wp_X0_at n3 n1 n1 I (fun r12 => wp_X0_at n6 (0 : Int32) n1 I (fun r13 => wp_X0_at n9 n1 (0 : Int32) I (fun r14 => wp_X0_at n11 (0 : Int32) (0 : Int32) I (fun r15 => wp_X3_addSquare r12 r13 r14 r15 J (fun J16 => Po J16)))))
set_option maxRecDepth 100000 in
set_option maxHeartbeats 4000000 in
theorem m_X3_addSquareOnCrossing {l : Launch} {D : va_G} {cy : Nat → ClassId} {V : gV} (hBL : gModBL V) (hGR : gModGR V) {a1 : Int32} {I : gI} {J : gL} {Po : gL → Prop} (h : wp_X3_addSquareOnCrossing a1 I J Po) : gMet l D cy yX3_addSquareOnCrossing cX3_addSquareOnCrossing 7 none rm_X3_addSquareOnCrossing V [.ref (V.2.1 99), .int a1] I J (gPv V (fun I' J' => I = I' ∧ Po J')) := by
  refine gMet.of (by decide) (Nat.le_of_ble_eq_true rfl) (fun X hX C hR => ?_)
  have C : gC X cX3_addSquareOnCrossing RX3 none 7 rm_X3_addSquareOnCrossing := C
  show gJ X V 0 0 0 [(0, .ref (V.2.1 99)), (1, .int a1)] [] I J
  unfold wp_X3_addSquareOnCrossing at h
  refine j_aload_n (pc := 0) C dX3_addSquareOnCrossing_0 rfl 0 rfl ?_
  refine j_getR (pc := 1) C 99 0 40 (c_99 hGR).1 (c_99 hGR).2 rfl rfl (by decide) inw_X3 wd_779 dX3_addSquareOnCrossing_1 ?_
  refine j_getI (pc := 4) C 40 1 (c_40 hBL).1 (c_40 hBL).2 rfl rfl (by decide) inw_X0 wd_189 dX3_addSquareOnCrossing_4 ?_
  refine j_iconst (pc := 7) (v := 1) C dX3_addSquareOnCrossing_7 (by decide) ?_
  refine j_isub (pc := 8) C dX3_addSquareOnCrossing_8 ?_
  refine gJ.topi (fun n1 en1 => ?_)
  have h := h n1 en1
  refine j_istore_n (pc := 9) (lv' := [(2, .int n1), (0, .ref (V.2.1 99)), (1, .int a1)]) C dX3_addSquareOnCrossing_9 rfl (by decide) rfl ?_
  refine j_iload_n (pc := 10) C dX3_addSquareOnCrossing_10 rfl 2 rfl ?_
  refine j_sipush (pc := 11) (v := 216) C dX3_addSquareOnCrossing_11 (by decide) ?_
  obtain ⟨g2, h⟩ := h
  refine j_idiv (pc := 14) C dX3_addSquareOnCrossing_14 g2 ?_
  refine gJ.topi (fun n3 en3 => ?_)
  have h := h n3 en3
  refine j_istore_n (pc := 15) (lv' := [(3, .int n3), (2, .int n1), (0, .ref (V.2.1 99)), (1, .int a1)]) C dX3_addSquareOnCrossing_15 rfl (by decide) rfl ?_
  refine j_iload_n (pc := 16) C dX3_addSquareOnCrossing_16 rfl 3 rfl ?_
  refine j_bipush (pc := 17) (v := 36) C dX3_addSquareOnCrossing_17 (by decide) ?_
  obtain ⟨g4, h⟩ := h
  refine j_idiv (pc := 19) C dX3_addSquareOnCrossing_19 g4 ?_
  refine j_bipush (pc := 20) (v := 6) C dX3_addSquareOnCrossing_20 (by decide) ?_
  obtain ⟨g5, h⟩ := h
  refine j_irem (pc := 22) C dX3_addSquareOnCrossing_22 g5 ?_
  refine gJ.topi (fun n6 en6 => ?_)
  have h := h n6 en6
  refine j_istore (pc := 23) (lv' := [(4, .int n6), (3, .int n3), (2, .int n1), (0, .ref (V.2.1 99)), (1, .int a1)]) C dX3_addSquareOnCrossing_23 (by decide) rfl ?_
  refine j_iload_n (pc := 25) C dX3_addSquareOnCrossing_25 rfl 4 rfl ?_
  refine j_bipush (pc := 26) (v := 6) C dX3_addSquareOnCrossing_26 (by decide) ?_
  obtain ⟨g7, h⟩ := h
  refine j_idiv (pc := 28) C dX3_addSquareOnCrossing_28 g7 ?_
  refine j_bipush (pc := 29) (v := 6) C dX3_addSquareOnCrossing_29 (by decide) ?_
  obtain ⟨g8, h⟩ := h
  refine j_irem (pc := 31) C dX3_addSquareOnCrossing_31 g8 ?_
  refine gJ.topi (fun n9 en9 => ?_)
  have h := h n9 en9
  refine j_istore (pc := 32) (lv' := [(5, .int n9), (4, .int n6), (3, .int n3), (2, .int n1), (0, .ref (V.2.1 99)), (1, .int a1)]) C dX3_addSquareOnCrossing_32 (by decide) rfl ?_
  refine j_iload_n (pc := 34) C dX3_addSquareOnCrossing_34 rfl 5 rfl ?_
  refine j_bipush (pc := 35) (v := 6) C dX3_addSquareOnCrossing_35 (by decide) ?_
  obtain ⟨g10, h⟩ := h
  refine j_irem (pc := 37) C dX3_addSquareOnCrossing_37 g10 ?_
  refine gJ.topi (fun n11 en11 => ?_)
  have h := h n11 en11
  refine j_istore (pc := 38) (lv' := [(6, .int n11), (5, .int n9), (4, .int n6), (3, .int n3), (2, .int n1), (0, .ref (V.2.1 99)), (1, .int a1)]) C dX3_addSquareOnCrossing_38 (by decide) rfl ?_
  refine j_aload_n (pc := 40) C dX3_addSquareOnCrossing_40 rfl 5 rfl ?_
  refine j_aload_n (pc := 41) C dX3_addSquareOnCrossing_41 rfl 5 rfl ?_
  refine j_getR (pc := 42) C 99 0 40 (c_99 hGR).1 (c_99 hGR).2 rfl rfl (by decide) inw_X3 wd_779 dX3_addSquareOnCrossing_42 ?_
  refine j_iload_n (pc := 45) C dX3_addSquareOnCrossing_45 rfl 3 rfl ?_
  refine j_iload_n (pc := 46) C dX3_addSquareOnCrossing_46 rfl 4 rfl ?_
  refine j_iload_n (pc := 47) C dX3_addSquareOnCrossing_47 rfl 4 rfl ?_
  refine j_callV (pc := 48) (As := [.int n3, .int n1, .int n1]) (st := [.ref (V.2.1 99)]) C hX 40 (m_X0_at hBL  h) (c_40 hBL).1 (c_40 hBL).2 rfl ok_X0_at wd_819 wd_739 wd_740 ⟨by decide, by decide⟩ rfl rfl (Nat.le_of_ble_eq_true rfl) ⟨Nat.le_refl 0, Nat.le_refl 0⟩ dX3_addSquareOnCrossing_48 (fun r V1 I1 J1 hp => ?_)
  obtain ⟨r12, rfl, rfl, rfl, rfl, h⟩ := hp
  show gJ X V 0 0 51 _ [.int r12, .ref (V.2.1 99)] _ _
  refine j_aload_n (pc := 51) C dX3_addSquareOnCrossing_51 rfl 5 rfl ?_
  refine j_getR (pc := 52) C 99 0 40 (c_99 hGR).1 (c_99 hGR).2 rfl rfl (by decide) inw_X3 wd_779 dX3_addSquareOnCrossing_52 ?_
  refine j_iload (pc := 55) C dX3_addSquareOnCrossing_55 2 rfl ?_
  refine j_iconst (pc := 57) (v := 0) C dX3_addSquareOnCrossing_57 (by decide) ?_
  refine j_iload_n (pc := 58) C dX3_addSquareOnCrossing_58 rfl 4 rfl ?_
  refine j_callV (pc := 59) (As := [.int n6, .int (0 : Int32), .int n1]) (st := [.int r12, .ref (V.2.1 99)]) C hX 40 (m_X0_at hBL  h) (c_40 hBL).1 (c_40 hBL).2 rfl ok_X0_at wd_819 wd_739 wd_740 ⟨by decide, by decide⟩ rfl rfl (Nat.le_of_ble_eq_true rfl) ⟨Nat.le_refl 0, Nat.le_refl 0⟩ dX3_addSquareOnCrossing_59 (fun r V1 I1 J1 hp => ?_)
  obtain ⟨r13, rfl, rfl, rfl, rfl, h⟩ := hp
  show gJ X V 0 0 62 _ [.int r13, .int r12, .ref (V.2.1 99)] _ _
  refine j_aload_n (pc := 62) C dX3_addSquareOnCrossing_62 rfl 5 rfl ?_
  refine j_getR (pc := 63) C 99 0 40 (c_99 hGR).1 (c_99 hGR).2 rfl rfl (by decide) inw_X3 wd_779 dX3_addSquareOnCrossing_63 ?_
  refine j_iload (pc := 66) C dX3_addSquareOnCrossing_66 1 rfl ?_
  refine j_iload_n (pc := 68) C dX3_addSquareOnCrossing_68 rfl 4 rfl ?_
  refine j_iconst (pc := 69) (v := 0) C dX3_addSquareOnCrossing_69 (by decide) ?_
  refine j_callV (pc := 70) (As := [.int n9, .int n1, .int (0 : Int32)]) (st := [.int r13, .int r12, .ref (V.2.1 99)]) C hX 40 (m_X0_at hBL  h) (c_40 hBL).1 (c_40 hBL).2 rfl ok_X0_at wd_819 wd_739 wd_740 ⟨by decide, by decide⟩ rfl rfl (Nat.le_of_ble_eq_true rfl) ⟨Nat.le_refl 0, Nat.le_refl 0⟩ dX3_addSquareOnCrossing_70 (fun r V1 I1 J1 hp => ?_)
  obtain ⟨r14, rfl, rfl, rfl, rfl, h⟩ := hp
  show gJ X V 0 0 73 _ [.int r14, .int r13, .int r12, .ref (V.2.1 99)] _ _
  refine j_aload_n (pc := 73) C dX3_addSquareOnCrossing_73 rfl 5 rfl ?_
  refine j_getR (pc := 74) C 99 0 40 (c_99 hGR).1 (c_99 hGR).2 rfl rfl (by decide) inw_X3 wd_779 dX3_addSquareOnCrossing_74 ?_
  refine j_iload (pc := 77) C dX3_addSquareOnCrossing_77 0 rfl ?_
  refine j_iconst (pc := 79) (v := 0) C dX3_addSquareOnCrossing_79 (by decide) ?_
  refine j_iconst (pc := 80) (v := 0) C dX3_addSquareOnCrossing_80 (by decide) ?_
  refine j_callV (pc := 81) (As := [.int n11, .int (0 : Int32), .int (0 : Int32)]) (st := [.int r14, .int r13, .int r12, .ref (V.2.1 99)]) C hX 40 (m_X0_at hBL  h) (c_40 hBL).1 (c_40 hBL).2 rfl ok_X0_at wd_819 wd_739 wd_740 ⟨by decide, by decide⟩ rfl rfl (Nat.le_of_ble_eq_true rfl) ⟨Nat.le_refl 0, Nat.le_refl 0⟩ dX3_addSquareOnCrossing_81 (fun r V1 I1 J1 hp => ?_)
  obtain ⟨r15, rfl, rfl, rfl, rfl, h⟩ := hp
  show gJ X V 0 0 84 _ [.int r15, .int r14, .int r13, .int r12, .ref (V.2.1 99)] _ _
  refine j_callV (pc := 84) (As := [.int r12, .int r13, .int r14, .int r15]) (st := []) C hX 99 (m_X3_addSquare hBL hGR  h) (c_99 hGR).1 (c_99 hGR).2 rfl ok_X3_addSquare wd_859 wd_861 wd_34 ⟨by decide, by decide⟩ rfl rfl (Nat.le_of_ble_eq_true rfl) ⟨Nat.le_refl 0, Nat.le_refl 0⟩ dX3_addSquareOnCrossing_84 (fun r V1 I1 J16 hp => ?_)
  obtain ⟨rfl, rfl, rfl, h⟩ := hp
  show gJ X V 0 0 87 _ [] _ _
  exact j_vret (pc := 87) C hR (Nat.zero_le _) (Nat.zero_le _) dX3_addSquareOnCrossing_87 ⟨rfl, rfl, rfl, h⟩
/-! TileRules$Growth.addSquaresInside(I)V -/
abbrev rm_X3_addSquaresInside : Room := { frames := 1, cells := 0, slots := 0, locals := 26 }
theorem ok_X3_addSquaresInside : gOk yX3_addSquaresInside cX3_addSquaresInside 4 none 1 := ⟨wd_858, wd_83, by decide +kernel⟩
def w_X3_addSquaresInside_15b  (Po : gL → Prop) (K2 : Int32 → gL → Prop) (K15 : Int32 → gL → Prop) (v1 : Int32) (v2 : Int32) (v3 : Int32) (I : gI) (J : gL) : Prop :=
  ((I 40 1) ≤ v3 → ∀ n3 : Int32, n3 = v2 + 1 → K2 n3 J) ∧ (¬ (I 40 1) ≤ v3 → wp_X0_at v1 (v3 - (1 : Int32)) (v2 - (1 : Int32)) I (fun r4 => wp_X0_at v1 v3 (v2 - (1 : Int32)) I (fun r5 => wp_X0_at v1 (v3 - (1 : Int32)) v2 I (fun r6 => wp_X0_at v1 v3 v2 I (fun r7 => wp_X3_addSquare r4 r5 r6 r7 J (fun J8 => ∀ n9 : Int32, n9 = v3 + 1 → K15 n9 J8))))))
def w_X3_addSquaresInside_15  (Po : gL → Prop) (K2 : Int32 → gL → Prop) (v1 : Int32) (v2 : Int32) (v3 : Int32) (I : gI) (J : gL) : Prop :=
  ∃ (Inv : Int32 → gL → Prop) (mu : Int32 → gL → Nat), Inv v3 J ∧ ∀ (v3 : Int32) (J : gL), Inv v3 J → w_X3_addSquaresInside_15b  Po K2 (fun u3 J1 => Inv u3 J1 ∧ mu u3 J1 < mu v3 J) v1 v2 v3 I J
def w_X3_addSquaresInside_2b  (Po : gL → Prop) (K2 : Int32 → gL → Prop) (v1 : Int32) (v2 : Int32) (I : gI) (J : gL) : Prop :=
  ((I 40 1) ≤ v2 → Po J) ∧ (¬ (I 40 1) ≤ v2 → w_X3_addSquaresInside_15 Po K2 v1 v2 (1 : Int32) I J)
def w_X3_addSquaresInside_2  (Po : gL → Prop)  (v1 : Int32) (v2 : Int32) (I : gI) (J : gL) : Prop :=
  ∃ (Inv : Int32 → gL → Prop) (mu : Int32 → gL → Nat), Inv v2 J ∧ ∀ (v2 : Int32) (J : gL), Inv v2 J → w_X3_addSquaresInside_2b  Po  (fun u2 J1 => Inv u2 J1 ∧ mu u2 J1 < mu v2 J) v1 v2 I J
def wp_X3_addSquaresInside (a1 : Int32) (I : gI) (J : gL) (Po : gL → Prop) : Prop :=
  w_X3_addSquaresInside_2 Po a1 (1 : Int32) I J
set_option maxRecDepth 100000 in
set_option maxHeartbeats 4000000 in
theorem t_X3_addSquaresInside_15b {X : gX} {l : Launch} {D : va_G} {cy : Nat → ClassId} {nm : String} {V : gV} (hBL : gModBL V) (hGR : gModGR V) (C : gC X cX3_addSquaresInside RX3 none 4 rm_X3_addSquaresInside) (hX : gIs X l D cy nm) {I : gI} {J : gL} {Po : gL → Prop} (hR : gR X (gPv V (fun I' J' => I = I' ∧ Po J'))) {v1 : Int32} {v2 : Int32} {v3 : Int32} {K2 : Int32 → gL → Prop} {K15 : Int32 → gL → Prop} (hK2 : ∀ (y2 : Int32) (J1 : gL), K2 y2 J1 → gJ X V 0 0 2 [(0, .ref (V.2.1 99)), (1, .int v1), (2, .int y2)] [] I J1) (hK15 : ∀ (y3 : Int32) (J1 : gL), K15 y3 J1 → gJ X V 0 0 15 [(0, .ref (V.2.1 99)), (1, .int v1), (2, .int v2), (3, .int y3)] [] I J1) (h : w_X3_addSquaresInside_15b Po K2 K15 v1 v2 v3 I J) : gJ X V 0 0 15 [(0, .ref (V.2.1 99)), (1, .int v1), (2, .int v2), (3, .int v3)] [] I J := by
  unfold w_X3_addSquaresInside_15b at h
  refine j_iload_n (pc := 15) C dX3_addSquaresInside_15 rfl 3 rfl ?_
  refine j_aload_n (pc := 16) C dX3_addSquaresInside_16 rfl 0 rfl ?_
  refine j_getR (pc := 17) C 99 0 40 (c_99 hGR).1 (c_99 hGR).2 rfl rfl (by decide) inw_X3 wd_779 dX3_addSquaresInside_17 ?_
  refine j_getI (pc := 20) C 40 1 (c_40 hBL).1 (c_40 hBL).2 rfl rfl (by decide) inw_X0 wd_189 dX3_addSquaresInside_20 ?_
  refine j_icmp_ge (pc := 23) (tgt := 84) C dX3_addSquaresInside_23 (by decide) (fun c2 => ?_) (fun c2 => ?_)
  · have h := h.1 c2
    obtain ⟨n3, en3⟩ : ∃ z : Int32, z = v2 + 1 := ⟨_, rfl⟩
    have h := h n3 en3
    refine j_iinc (pc := 84) (v := n3) (lv' := [(2, .int n3), (0, .ref (V.2.1 99)), (1, .int v1), (3, .int v3)]) C dX3_addSquaresInside_84 2 rfl (by rw [en3]; rfl) (by decide) rfl ?_
    refine j_goto (pc := 87) (tgt := 2) C dX3_addSquaresInside_87 (by decide) ?_
    refine gJ.sub [1, 2, 0] rfl ?_
    exact hK2 _ _ h
  · have h := h.2 c2
    refine j_aload_n (pc := 26) C dX3_addSquaresInside_26 rfl 0 rfl ?_
    refine j_aload_n (pc := 27) C dX3_addSquaresInside_27 rfl 0 rfl ?_
    refine j_getR (pc := 28) C 99 0 40 (c_99 hGR).1 (c_99 hGR).2 rfl rfl (by decide) inw_X3 wd_779 dX3_addSquaresInside_28 ?_
    refine j_iload_n (pc := 31) C dX3_addSquaresInside_31 rfl 1 rfl ?_
    refine j_iload_n (pc := 32) C dX3_addSquaresInside_32 rfl 3 rfl ?_
    refine j_iconst (pc := 33) (v := 1) C dX3_addSquaresInside_33 (by decide) ?_
    refine j_isub (pc := 34) C dX3_addSquaresInside_34 ?_
    refine j_iload_n (pc := 35) C dX3_addSquaresInside_35 rfl 2 rfl ?_
    refine j_iconst (pc := 36) (v := 1) C dX3_addSquaresInside_36 (by decide) ?_
    refine j_isub (pc := 37) C dX3_addSquaresInside_37 ?_
    refine j_callV (pc := 38) (As := [.int v1, .int (v3 - (1 : Int32)), .int (v2 - (1 : Int32))]) (st := [.ref (V.2.1 99)]) C hX 40 (m_X0_at hBL  h) (c_40 hBL).1 (c_40 hBL).2 rfl ok_X0_at wd_819 wd_739 wd_740 ⟨by decide, by decide⟩ rfl rfl (Nat.le_of_ble_eq_true rfl) ⟨Nat.le_refl 0, Nat.le_refl 0⟩ dX3_addSquaresInside_38 (fun r V1 I1 J1 hp => ?_)
    obtain ⟨r4, rfl, rfl, rfl, rfl, h⟩ := hp
    show gJ X V 0 0 41 _ [.int r4, .ref (V.2.1 99)] _ _
    refine j_aload_n (pc := 41) C dX3_addSquaresInside_41 rfl 0 rfl ?_
    refine j_getR (pc := 42) C 99 0 40 (c_99 hGR).1 (c_99 hGR).2 rfl rfl (by decide) inw_X3 wd_779 dX3_addSquaresInside_42 ?_
    refine j_iload_n (pc := 45) C dX3_addSquaresInside_45 rfl 1 rfl ?_
    refine j_iload_n (pc := 46) C dX3_addSquaresInside_46 rfl 3 rfl ?_
    refine j_iload_n (pc := 47) C dX3_addSquaresInside_47 rfl 2 rfl ?_
    refine j_iconst (pc := 48) (v := 1) C dX3_addSquaresInside_48 (by decide) ?_
    refine j_isub (pc := 49) C dX3_addSquaresInside_49 ?_
    refine j_callV (pc := 50) (As := [.int v1, .int v3, .int (v2 - (1 : Int32))]) (st := [.int r4, .ref (V.2.1 99)]) C hX 40 (m_X0_at hBL  h) (c_40 hBL).1 (c_40 hBL).2 rfl ok_X0_at wd_819 wd_739 wd_740 ⟨by decide, by decide⟩ rfl rfl (Nat.le_of_ble_eq_true rfl) ⟨Nat.le_refl 0, Nat.le_refl 0⟩ dX3_addSquaresInside_50 (fun r V1 I1 J1 hp => ?_)
    obtain ⟨r5, rfl, rfl, rfl, rfl, h⟩ := hp
    show gJ X V 0 0 53 _ [.int r5, .int r4, .ref (V.2.1 99)] _ _
    refine j_aload_n (pc := 53) C dX3_addSquaresInside_53 rfl 0 rfl ?_
    refine j_getR (pc := 54) C 99 0 40 (c_99 hGR).1 (c_99 hGR).2 rfl rfl (by decide) inw_X3 wd_779 dX3_addSquaresInside_54 ?_
    refine j_iload_n (pc := 57) C dX3_addSquaresInside_57 rfl 1 rfl ?_
    refine j_iload_n (pc := 58) C dX3_addSquaresInside_58 rfl 3 rfl ?_
    refine j_iconst (pc := 59) (v := 1) C dX3_addSquaresInside_59 (by decide) ?_
    refine j_isub (pc := 60) C dX3_addSquaresInside_60 ?_
    refine j_iload_n (pc := 61) C dX3_addSquaresInside_61 rfl 2 rfl ?_
    refine j_callV (pc := 62) (As := [.int v1, .int (v3 - (1 : Int32)), .int v2]) (st := [.int r5, .int r4, .ref (V.2.1 99)]) C hX 40 (m_X0_at hBL  h) (c_40 hBL).1 (c_40 hBL).2 rfl ok_X0_at wd_819 wd_739 wd_740 ⟨by decide, by decide⟩ rfl rfl (Nat.le_of_ble_eq_true rfl) ⟨Nat.le_refl 0, Nat.le_refl 0⟩ dX3_addSquaresInside_62 (fun r V1 I1 J1 hp => ?_)
    obtain ⟨r6, rfl, rfl, rfl, rfl, h⟩ := hp
    show gJ X V 0 0 65 _ [.int r6, .int r5, .int r4, .ref (V.2.1 99)] _ _
    refine j_aload_n (pc := 65) C dX3_addSquaresInside_65 rfl 0 rfl ?_
    refine j_getR (pc := 66) C 99 0 40 (c_99 hGR).1 (c_99 hGR).2 rfl rfl (by decide) inw_X3 wd_779 dX3_addSquaresInside_66 ?_
    refine j_iload_n (pc := 69) C dX3_addSquaresInside_69 rfl 1 rfl ?_
    refine j_iload_n (pc := 70) C dX3_addSquaresInside_70 rfl 3 rfl ?_
    refine j_iload_n (pc := 71) C dX3_addSquaresInside_71 rfl 2 rfl ?_
    refine j_callV (pc := 72) (As := [.int v1, .int v3, .int v2]) (st := [.int r6, .int r5, .int r4, .ref (V.2.1 99)]) C hX 40 (m_X0_at hBL  h) (c_40 hBL).1 (c_40 hBL).2 rfl ok_X0_at wd_819 wd_739 wd_740 ⟨by decide, by decide⟩ rfl rfl (Nat.le_of_ble_eq_true rfl) ⟨Nat.le_refl 0, Nat.le_refl 0⟩ dX3_addSquaresInside_72 (fun r V1 I1 J1 hp => ?_)
    obtain ⟨r7, rfl, rfl, rfl, rfl, h⟩ := hp
    show gJ X V 0 0 75 _ [.int r7, .int r6, .int r5, .int r4, .ref (V.2.1 99)] _ _
    refine j_callV (pc := 75) (As := [.int r4, .int r5, .int r6, .int r7]) (st := []) C hX 99 (m_X3_addSquare hBL hGR  h) (c_99 hGR).1 (c_99 hGR).2 rfl ok_X3_addSquare wd_859 wd_861 wd_34 ⟨by decide, by decide⟩ rfl rfl (Nat.le_of_ble_eq_true rfl) ⟨Nat.le_refl 0, Nat.le_refl 0⟩ dX3_addSquaresInside_75 (fun r V1 I1 J8 hp => ?_)
    obtain ⟨rfl, rfl, rfl, h⟩ := hp
    show gJ X V 0 0 78 _ [] _ _
    obtain ⟨n9, en9⟩ : ∃ z : Int32, z = v3 + 1 := ⟨_, rfl⟩
    have h := h n9 en9
    refine j_iinc (pc := 78) (v := n9) (lv' := [(3, .int n9), (0, .ref (V.2.1 99)), (1, .int v1), (2, .int v2)]) C dX3_addSquaresInside_78 3 rfl (by rw [en9]; rfl) (by decide) rfl ?_
    refine j_goto (pc := 81) (tgt := 15) C dX3_addSquaresInside_81 (by decide) ?_
    refine gJ.sub [1, 2, 3, 0] rfl ?_
    exact hK15 _ _ h
set_option maxRecDepth 100000 in
set_option maxHeartbeats 4000000 in
theorem t_X3_addSquaresInside_15 {X : gX} {l : Launch} {D : va_G} {cy : Nat → ClassId} {nm : String} {V : gV} (hBL : gModBL V) (hGR : gModGR V) (C : gC X cX3_addSquaresInside RX3 none 4 rm_X3_addSquaresInside) (hX : gIs X l D cy nm) {I : gI} {J : gL} {Po : gL → Prop} (hR : gR X (gPv V (fun I' J' => I = I' ∧ Po J'))) {v1 : Int32} {v2 : Int32} {v3 : Int32} {K2 : Int32 → gL → Prop} (hK2 : ∀ (y2 : Int32) (J1 : gL), K2 y2 J1 → gJ X V 0 0 2 [(0, .ref (V.2.1 99)), (1, .int v1), (2, .int y2)] [] I J1) (h : w_X3_addSquaresInside_15 Po K2 v1 v2 v3 I J) : gJ X V 0 0 15 [(0, .ref (V.2.1 99)), (1, .int v1), (2, .int v2), (3, .int v3)] [] I J := by
  unfold w_X3_addSquaresInside_15 at h
  obtain ⟨Inv, mu, h0, hs⟩ := h
  have key : ∀ (n : Nat) (v3 : Int32) (J : gL), Inv v3 J → mu v3 J < n → gJ X V 0 0 15 [(0, .ref (V.2.1 99)), (1, .int v1), (2, .int v2), (3, .int v3)] [] I J := by
    intro n
    induction n with
    | zero => intro v3 J hi hn; exact absurd hn (Nat.not_lt_zero _)
    | succ n ih =>
      intro v3 J hi hn
      exact t_X3_addSquaresInside_15b hBL hGR C hX hR  hK2 (fun u3 J1 hk => ih u3 J1 hk.1 (Nat.lt_of_lt_of_le hk.2 (Nat.le_of_lt_succ hn))) (hs v3 J hi)
  exact key _ v3 J h0 (Nat.lt_succ_self _)
set_option maxRecDepth 100000 in
set_option maxHeartbeats 4000000 in
theorem t_X3_addSquaresInside_2b {X : gX} {l : Launch} {D : va_G} {cy : Nat → ClassId} {nm : String} {V : gV} (hBL : gModBL V) (hGR : gModGR V) (C : gC X cX3_addSquaresInside RX3 none 4 rm_X3_addSquaresInside) (hX : gIs X l D cy nm) {I : gI} {J : gL} {Po : gL → Prop} (hR : gR X (gPv V (fun I' J' => I = I' ∧ Po J'))) {v1 : Int32} {v2 : Int32} {K2 : Int32 → gL → Prop} (hK2 : ∀ (y2 : Int32) (J1 : gL), K2 y2 J1 → gJ X V 0 0 2 [(0, .ref (V.2.1 99)), (1, .int v1), (2, .int y2)] [] I J1) (h : w_X3_addSquaresInside_2b Po K2 v1 v2 I J) : gJ X V 0 0 2 [(0, .ref (V.2.1 99)), (1, .int v1), (2, .int v2)] [] I J := by
  unfold w_X3_addSquaresInside_2b at h
  refine j_iload_n (pc := 2) C dX3_addSquaresInside_2 rfl 2 rfl ?_
  refine j_aload_n (pc := 3) C dX3_addSquaresInside_3 rfl 0 rfl ?_
  refine j_getR (pc := 4) C 99 0 40 (c_99 hGR).1 (c_99 hGR).2 rfl rfl (by decide) inw_X3 wd_779 dX3_addSquaresInside_4 ?_
  refine j_getI (pc := 7) C 40 1 (c_40 hBL).1 (c_40 hBL).2 rfl rfl (by decide) inw_X0 wd_189 dX3_addSquaresInside_7 ?_
  refine j_icmp_ge (pc := 10) (tgt := 90) C dX3_addSquaresInside_10 (by decide) (fun c1 => ?_) (fun c1 => ?_)
  · have h := h.1 c1
    exact j_vret (pc := 90) C hR (Nat.zero_le _) (Nat.zero_le _) dX3_addSquaresInside_90 ⟨rfl, rfl, rfl, h⟩
  · have h := h.2 c1
    refine j_iconst (pc := 13) (v := 1) C dX3_addSquaresInside_13 (by decide) ?_
    refine j_istore_n (pc := 14) (lv' := [(3, .int (1 : Int32)), (0, .ref (V.2.1 99)), (1, .int v1), (2, .int v2)]) C dX3_addSquaresInside_14 rfl (by decide) rfl ?_
    refine gJ.sub [1, 2, 3, 0] rfl ?_
    exact t_X3_addSquaresInside_15 hBL hGR C hX hR  hK2 h
set_option maxRecDepth 100000 in
set_option maxHeartbeats 4000000 in
theorem t_X3_addSquaresInside_2 {X : gX} {l : Launch} {D : va_G} {cy : Nat → ClassId} {nm : String} {V : gV} (hBL : gModBL V) (hGR : gModGR V) (C : gC X cX3_addSquaresInside RX3 none 4 rm_X3_addSquaresInside) (hX : gIs X l D cy nm) {I : gI} {J : gL} {Po : gL → Prop} (hR : gR X (gPv V (fun I' J' => I = I' ∧ Po J'))) {v1 : Int32} {v2 : Int32} (h : w_X3_addSquaresInside_2 Po v1 v2 I J) : gJ X V 0 0 2 [(0, .ref (V.2.1 99)), (1, .int v1), (2, .int v2)] [] I J := by
  unfold w_X3_addSquaresInside_2 at h
  obtain ⟨Inv, mu, h0, hs⟩ := h
  have key : ∀ (n : Nat) (v2 : Int32) (J : gL), Inv v2 J → mu v2 J < n → gJ X V 0 0 2 [(0, .ref (V.2.1 99)), (1, .int v1), (2, .int v2)] [] I J := by
    intro n
    induction n with
    | zero => intro v2 J hi hn; exact absurd hn (Nat.not_lt_zero _)
    | succ n ih =>
      intro v2 J hi hn
      exact t_X3_addSquaresInside_2b hBL hGR C hX hR   (fun u2 J1 hk => ih u2 J1 hk.1 (Nat.lt_of_lt_of_le hk.2 (Nat.le_of_lt_succ hn))) (hs v2 J hi)
  exact key _ v2 J h0 (Nat.lt_succ_self _)
set_option maxRecDepth 100000 in
set_option maxHeartbeats 4000000 in
theorem m_X3_addSquaresInside {l : Launch} {D : va_G} {cy : Nat → ClassId} {V : gV} (hBL : gModBL V) (hGR : gModGR V) {a1 : Int32} {I : gI} {J : gL} {Po : gL → Prop} (h : wp_X3_addSquaresInside a1 I J Po) : gMet l D cy yX3_addSquaresInside cX3_addSquaresInside 4 none rm_X3_addSquaresInside V [.ref (V.2.1 99), .int a1] I J (gPv V (fun I' J' => I = I' ∧ Po J')) := by
  refine gMet.of (by decide) (Nat.le_of_ble_eq_true rfl) (fun X hX C hR => ?_)
  have C : gC X cX3_addSquaresInside RX3 none 4 rm_X3_addSquaresInside := C
  show gJ X V 0 0 0 [(0, .ref (V.2.1 99)), (1, .int a1)] [] I J
  unfold wp_X3_addSquaresInside at h
  refine j_iconst (pc := 0) (v := 1) C dX3_addSquaresInside_0 (by decide) ?_
  refine j_istore_n (pc := 1) (lv' := [(2, .int (1 : Int32)), (0, .ref (V.2.1 99)), (1, .int a1)]) C dX3_addSquaresInside_1 rfl (by decide) rfl ?_
  refine gJ.sub [1, 2, 0] rfl ?_
  exact t_X3_addSquaresInside_2 hBL hGR C hX hR   h
/-! TileRules$Growth.addSquaresOnEastBorder(II)V -/
abbrev rm_X3_addSquaresOnEastBorder : Room := { frames := 1, cells := 0, slots := 0, locals := 26 }
theorem ok_X3_addSquaresOnEastBorder : gOk yX3_addSquaresOnEastBorder cX3_addSquaresOnEastBorder 5 none 2 := ⟨wd_866, wd_83, by decide +kernel⟩
def w_X3_addSquaresOnEastBorder_13b  (Po : gL → Prop) (K13 : Int32 → gL → Prop) (v1 : Int32) (v2 : Int32) (v3 : Int32) (v4 : Int32) (I : gI) (J : gL) : Prop :=
  ((I 40 1) ≤ v4 → Po J) ∧ (¬ (I 40 1) ≤ v4 → wp_X0_at v1 v3 (v4 - (1 : Int32)) I (fun r3 => wp_X0_at v2 (0 : Int32) (v4 - (1 : Int32)) I (fun r4 => wp_X0_at v1 v3 v4 I (fun r5 => wp_X0_at v2 (0 : Int32) v4 I (fun r6 => wp_X3_addSquare r3 r4 r5 r6 J (fun J7 => ∀ n8 : Int32, n8 = v4 + 1 → K13 n8 J7))))))
def w_X3_addSquaresOnEastBorder_13  (Po : gL → Prop)  (v1 : Int32) (v2 : Int32) (v3 : Int32) (v4 : Int32) (I : gI) (J : gL) : Prop :=
  ∃ (Inv : Int32 → gL → Prop) (mu : Int32 → gL → Nat), Inv v4 J ∧ ∀ (v4 : Int32) (J : gL), Inv v4 J → w_X3_addSquaresOnEastBorder_13b  Po  (fun u4 J1 => Inv u4 J1 ∧ mu u4 J1 < mu v4 J) v1 v2 v3 v4 I J
def wp_X3_addSquaresOnEastBorder (a1 : Int32) (a2 : Int32) (I : gI) (J : gL) (Po : gL → Prop) : Prop :=
  ∀ n1 : Int32, n1 = ((I 40 1) - (1 : Int32)) → w_X3_addSquaresOnEastBorder_13 Po a1 a2 n1 (1 : Int32) I J
set_option maxRecDepth 100000 in
set_option maxHeartbeats 4000000 in
theorem t_X3_addSquaresOnEastBorder_13b {X : gX} {l : Launch} {D : va_G} {cy : Nat → ClassId} {nm : String} {V : gV} (hBL : gModBL V) (hGR : gModGR V) (C : gC X cX3_addSquaresOnEastBorder RX3 none 5 rm_X3_addSquaresOnEastBorder) (hX : gIs X l D cy nm) {I : gI} {J : gL} {Po : gL → Prop} (hR : gR X (gPv V (fun I' J' => I = I' ∧ Po J'))) {v1 : Int32} {v2 : Int32} {v3 : Int32} {v4 : Int32} {K13 : Int32 → gL → Prop} (hK13 : ∀ (y4 : Int32) (J1 : gL), K13 y4 J1 → gJ X V 0 0 13 [(0, .ref (V.2.1 99)), (1, .int v1), (2, .int v2), (3, .int v3), (4, .int y4)] [] I J1) (h : w_X3_addSquaresOnEastBorder_13b Po K13 v1 v2 v3 v4 I J) : gJ X V 0 0 13 [(0, .ref (V.2.1 99)), (1, .int v1), (2, .int v2), (3, .int v3), (4, .int v4)] [] I J := by
  unfold w_X3_addSquaresOnEastBorder_13b at h
  refine j_iload (pc := 13) C dX3_addSquaresOnEastBorder_13 4 rfl ?_
  refine j_aload_n (pc := 15) C dX3_addSquaresOnEastBorder_15 rfl 0 rfl ?_
  refine j_getR (pc := 16) C 99 0 40 (c_99 hGR).1 (c_99 hGR).2 rfl rfl (by decide) inw_X3 wd_779 dX3_addSquaresOnEastBorder_16 ?_
  refine j_getI (pc := 19) C 40 1 (c_40 hBL).1 (c_40 hBL).2 rfl rfl (by decide) inw_X0 wd_189 dX3_addSquaresOnEastBorder_19 ?_
  refine j_icmp_ge (pc := 22) (tgt := 83) C dX3_addSquaresOnEastBorder_22 (by decide) (fun c2 => ?_) (fun c2 => ?_)
  · have h := h.1 c2
    exact j_vret (pc := 83) C hR (Nat.zero_le _) (Nat.zero_le _) dX3_addSquaresOnEastBorder_83 ⟨rfl, rfl, rfl, h⟩
  · have h := h.2 c2
    refine j_aload_n (pc := 25) C dX3_addSquaresOnEastBorder_25 rfl 0 rfl ?_
    refine j_aload_n (pc := 26) C dX3_addSquaresOnEastBorder_26 rfl 0 rfl ?_
    refine j_getR (pc := 27) C 99 0 40 (c_99 hGR).1 (c_99 hGR).2 rfl rfl (by decide) inw_X3 wd_779 dX3_addSquaresOnEastBorder_27 ?_
    refine j_iload_n (pc := 30) C dX3_addSquaresOnEastBorder_30 rfl 1 rfl ?_
    refine j_iload_n (pc := 31) C dX3_addSquaresOnEastBorder_31 rfl 3 rfl ?_
    refine j_iload (pc := 32) C dX3_addSquaresOnEastBorder_32 4 rfl ?_
    refine j_iconst (pc := 34) (v := 1) C dX3_addSquaresOnEastBorder_34 (by decide) ?_
    refine j_isub (pc := 35) C dX3_addSquaresOnEastBorder_35 ?_
    refine j_callV (pc := 36) (As := [.int v1, .int v3, .int (v4 - (1 : Int32))]) (st := [.ref (V.2.1 99)]) C hX 40 (m_X0_at hBL  h) (c_40 hBL).1 (c_40 hBL).2 rfl ok_X0_at wd_819 wd_739 wd_740 ⟨by decide, by decide⟩ rfl rfl (Nat.le_of_ble_eq_true rfl) ⟨Nat.le_refl 0, Nat.le_refl 0⟩ dX3_addSquaresOnEastBorder_36 (fun r V1 I1 J1 hp => ?_)
    obtain ⟨r3, rfl, rfl, rfl, rfl, h⟩ := hp
    show gJ X V 0 0 39 _ [.int r3, .ref (V.2.1 99)] _ _
    refine j_aload_n (pc := 39) C dX3_addSquaresOnEastBorder_39 rfl 0 rfl ?_
    refine j_getR (pc := 40) C 99 0 40 (c_99 hGR).1 (c_99 hGR).2 rfl rfl (by decide) inw_X3 wd_779 dX3_addSquaresOnEastBorder_40 ?_
    refine j_iload_n (pc := 43) C dX3_addSquaresOnEastBorder_43 rfl 2 rfl ?_
    refine j_iconst (pc := 44) (v := 0) C dX3_addSquaresOnEastBorder_44 (by decide) ?_
    refine j_iload (pc := 45) C dX3_addSquaresOnEastBorder_45 4 rfl ?_
    refine j_iconst (pc := 47) (v := 1) C dX3_addSquaresOnEastBorder_47 (by decide) ?_
    refine j_isub (pc := 48) C dX3_addSquaresOnEastBorder_48 ?_
    refine j_callV (pc := 49) (As := [.int v2, .int (0 : Int32), .int (v4 - (1 : Int32))]) (st := [.int r3, .ref (V.2.1 99)]) C hX 40 (m_X0_at hBL  h) (c_40 hBL).1 (c_40 hBL).2 rfl ok_X0_at wd_819 wd_739 wd_740 ⟨by decide, by decide⟩ rfl rfl (Nat.le_of_ble_eq_true rfl) ⟨Nat.le_refl 0, Nat.le_refl 0⟩ dX3_addSquaresOnEastBorder_49 (fun r V1 I1 J1 hp => ?_)
    obtain ⟨r4, rfl, rfl, rfl, rfl, h⟩ := hp
    show gJ X V 0 0 52 _ [.int r4, .int r3, .ref (V.2.1 99)] _ _
    refine j_aload_n (pc := 52) C dX3_addSquaresOnEastBorder_52 rfl 0 rfl ?_
    refine j_getR (pc := 53) C 99 0 40 (c_99 hGR).1 (c_99 hGR).2 rfl rfl (by decide) inw_X3 wd_779 dX3_addSquaresOnEastBorder_53 ?_
    refine j_iload_n (pc := 56) C dX3_addSquaresOnEastBorder_56 rfl 1 rfl ?_
    refine j_iload_n (pc := 57) C dX3_addSquaresOnEastBorder_57 rfl 3 rfl ?_
    refine j_iload (pc := 58) C dX3_addSquaresOnEastBorder_58 4 rfl ?_
    refine j_callV (pc := 60) (As := [.int v1, .int v3, .int v4]) (st := [.int r4, .int r3, .ref (V.2.1 99)]) C hX 40 (m_X0_at hBL  h) (c_40 hBL).1 (c_40 hBL).2 rfl ok_X0_at wd_819 wd_739 wd_740 ⟨by decide, by decide⟩ rfl rfl (Nat.le_of_ble_eq_true rfl) ⟨Nat.le_refl 0, Nat.le_refl 0⟩ dX3_addSquaresOnEastBorder_60 (fun r V1 I1 J1 hp => ?_)
    obtain ⟨r5, rfl, rfl, rfl, rfl, h⟩ := hp
    show gJ X V 0 0 63 _ [.int r5, .int r4, .int r3, .ref (V.2.1 99)] _ _
    refine j_aload_n (pc := 63) C dX3_addSquaresOnEastBorder_63 rfl 0 rfl ?_
    refine j_getR (pc := 64) C 99 0 40 (c_99 hGR).1 (c_99 hGR).2 rfl rfl (by decide) inw_X3 wd_779 dX3_addSquaresOnEastBorder_64 ?_
    refine j_iload_n (pc := 67) C dX3_addSquaresOnEastBorder_67 rfl 2 rfl ?_
    refine j_iconst (pc := 68) (v := 0) C dX3_addSquaresOnEastBorder_68 (by decide) ?_
    refine j_iload (pc := 69) C dX3_addSquaresOnEastBorder_69 4 rfl ?_
    refine j_callV (pc := 71) (As := [.int v2, .int (0 : Int32), .int v4]) (st := [.int r5, .int r4, .int r3, .ref (V.2.1 99)]) C hX 40 (m_X0_at hBL  h) (c_40 hBL).1 (c_40 hBL).2 rfl ok_X0_at wd_819 wd_739 wd_740 ⟨by decide, by decide⟩ rfl rfl (Nat.le_of_ble_eq_true rfl) ⟨Nat.le_refl 0, Nat.le_refl 0⟩ dX3_addSquaresOnEastBorder_71 (fun r V1 I1 J1 hp => ?_)
    obtain ⟨r6, rfl, rfl, rfl, rfl, h⟩ := hp
    show gJ X V 0 0 74 _ [.int r6, .int r5, .int r4, .int r3, .ref (V.2.1 99)] _ _
    refine j_callV (pc := 74) (As := [.int r3, .int r4, .int r5, .int r6]) (st := []) C hX 99 (m_X3_addSquare hBL hGR  h) (c_99 hGR).1 (c_99 hGR).2 rfl ok_X3_addSquare wd_859 wd_861 wd_34 ⟨by decide, by decide⟩ rfl rfl (Nat.le_of_ble_eq_true rfl) ⟨Nat.le_refl 0, Nat.le_refl 0⟩ dX3_addSquaresOnEastBorder_74 (fun r V1 I1 J7 hp => ?_)
    obtain ⟨rfl, rfl, rfl, h⟩ := hp
    show gJ X V 0 0 77 _ [] _ _
    obtain ⟨n8, en8⟩ : ∃ z : Int32, z = v4 + 1 := ⟨_, rfl⟩
    have h := h n8 en8
    refine j_iinc (pc := 77) (v := n8) (lv' := [(4, .int n8), (0, .ref (V.2.1 99)), (1, .int v1), (2, .int v2), (3, .int v3)]) C dX3_addSquaresOnEastBorder_77 4 rfl (by rw [en8]; rfl) (by decide) rfl ?_
    refine j_goto (pc := 80) (tgt := 13) C dX3_addSquaresOnEastBorder_80 (by decide) ?_
    refine gJ.sub [1, 2, 3, 4, 0] rfl ?_
    exact hK13 _ _ h
set_option maxRecDepth 100000 in
set_option maxHeartbeats 4000000 in
theorem t_X3_addSquaresOnEastBorder_13 {X : gX} {l : Launch} {D : va_G} {cy : Nat → ClassId} {nm : String} {V : gV} (hBL : gModBL V) (hGR : gModGR V) (C : gC X cX3_addSquaresOnEastBorder RX3 none 5 rm_X3_addSquaresOnEastBorder) (hX : gIs X l D cy nm) {I : gI} {J : gL} {Po : gL → Prop} (hR : gR X (gPv V (fun I' J' => I = I' ∧ Po J'))) {v1 : Int32} {v2 : Int32} {v3 : Int32} {v4 : Int32} (h : w_X3_addSquaresOnEastBorder_13 Po v1 v2 v3 v4 I J) : gJ X V 0 0 13 [(0, .ref (V.2.1 99)), (1, .int v1), (2, .int v2), (3, .int v3), (4, .int v4)] [] I J := by
  unfold w_X3_addSquaresOnEastBorder_13 at h
  obtain ⟨Inv, mu, h0, hs⟩ := h
  have key : ∀ (n : Nat) (v4 : Int32) (J : gL), Inv v4 J → mu v4 J < n → gJ X V 0 0 13 [(0, .ref (V.2.1 99)), (1, .int v1), (2, .int v2), (3, .int v3), (4, .int v4)] [] I J := by
    intro n
    induction n with
    | zero => intro v4 J hi hn; exact absurd hn (Nat.not_lt_zero _)
    | succ n ih =>
      intro v4 J hi hn
      exact t_X3_addSquaresOnEastBorder_13b hBL hGR C hX hR   (fun u4 J1 hk => ih u4 J1 hk.1 (Nat.lt_of_lt_of_le hk.2 (Nat.le_of_lt_succ hn))) (hs v4 J hi)
  exact key _ v4 J h0 (Nat.lt_succ_self _)
set_option maxRecDepth 100000 in
set_option maxHeartbeats 4000000 in
theorem m_X3_addSquaresOnEastBorder {l : Launch} {D : va_G} {cy : Nat → ClassId} {V : gV} (hBL : gModBL V) (hGR : gModGR V) {a1 : Int32} {a2 : Int32} {I : gI} {J : gL} {Po : gL → Prop} (h : wp_X3_addSquaresOnEastBorder a1 a2 I J Po) : gMet l D cy yX3_addSquaresOnEastBorder cX3_addSquaresOnEastBorder 5 none rm_X3_addSquaresOnEastBorder V [.ref (V.2.1 99), .int a1, .int a2] I J (gPv V (fun I' J' => I = I' ∧ Po J')) := by
  refine gMet.of (by decide) (Nat.le_of_ble_eq_true rfl) (fun X hX C hR => ?_)
  have C : gC X cX3_addSquaresOnEastBorder RX3 none 5 rm_X3_addSquaresOnEastBorder := C
  show gJ X V 0 0 0 [(0, .ref (V.2.1 99)), (1, .int a1), (2, .int a2)] [] I J
  unfold wp_X3_addSquaresOnEastBorder at h
  refine j_aload_n (pc := 0) C dX3_addSquaresOnEastBorder_0 rfl 0 rfl ?_
  refine j_getR (pc := 1) C 99 0 40 (c_99 hGR).1 (c_99 hGR).2 rfl rfl (by decide) inw_X3 wd_779 dX3_addSquaresOnEastBorder_1 ?_
  refine j_getI (pc := 4) C 40 1 (c_40 hBL).1 (c_40 hBL).2 rfl rfl (by decide) inw_X0 wd_189 dX3_addSquaresOnEastBorder_4 ?_
  refine j_iconst (pc := 7) (v := 1) C dX3_addSquaresOnEastBorder_7 (by decide) ?_
  refine j_isub (pc := 8) C dX3_addSquaresOnEastBorder_8 ?_
  refine gJ.topi (fun n1 en1 => ?_)
  have h := h n1 en1
  refine j_istore_n (pc := 9) (lv' := [(3, .int n1), (0, .ref (V.2.1 99)), (1, .int a1), (2, .int a2)]) C dX3_addSquaresOnEastBorder_9 rfl (by decide) rfl ?_
  refine j_iconst (pc := 10) (v := 1) C dX3_addSquaresOnEastBorder_10 (by decide) ?_
  refine j_istore (pc := 11) (lv' := [(4, .int (1 : Int32)), (3, .int n1), (0, .ref (V.2.1 99)), (1, .int a1), (2, .int a2)]) C dX3_addSquaresOnEastBorder_11 (by decide) rfl ?_
  refine gJ.sub [2, 3, 4, 1, 0] rfl ?_
  exact t_X3_addSquaresOnEastBorder_13 hBL hGR C hX hR   h
/-! TileRules$Growth.addSquaresOnSouthBorder(II)V -/
abbrev rm_X3_addSquaresOnSouthBorder : Room := { frames := 1, cells := 0, slots := 0, locals := 26 }
theorem ok_X3_addSquaresOnSouthBorder : gOk yX3_addSquaresOnSouthBorder cX3_addSquaresOnSouthBorder 5 none 2 := ⟨wd_870, wd_83, by decide +kernel⟩
def w_X3_addSquaresOnSouthBorder_13b  (Po : gL → Prop) (K13 : Int32 → gL → Prop) (v1 : Int32) (v2 : Int32) (v3 : Int32) (v4 : Int32) (I : gI) (J : gL) : Prop :=
  ((I 40 1) ≤ v4 → Po J) ∧ (¬ (I 40 1) ≤ v4 → wp_X0_at v1 (v4 - (1 : Int32)) v3 I (fun r3 => wp_X0_at v1 v4 v3 I (fun r4 => wp_X0_at v2 (v4 - (1 : Int32)) (0 : Int32) I (fun r5 => wp_X0_at v2 v4 (0 : Int32) I (fun r6 => wp_X3_addSquare r3 r4 r5 r6 J (fun J7 => ∀ n8 : Int32, n8 = v4 + 1 → K13 n8 J7))))))
def w_X3_addSquaresOnSouthBorder_13  (Po : gL → Prop)  (v1 : Int32) (v2 : Int32) (v3 : Int32) (v4 : Int32) (I : gI) (J : gL) : Prop :=
  ∃ (Inv : Int32 → gL → Prop) (mu : Int32 → gL → Nat), Inv v4 J ∧ ∀ (v4 : Int32) (J : gL), Inv v4 J → w_X3_addSquaresOnSouthBorder_13b  Po  (fun u4 J1 => Inv u4 J1 ∧ mu u4 J1 < mu v4 J) v1 v2 v3 v4 I J
def wp_X3_addSquaresOnSouthBorder (a1 : Int32) (a2 : Int32) (I : gI) (J : gL) (Po : gL → Prop) : Prop :=
  ∀ n1 : Int32, n1 = ((I 40 1) - (1 : Int32)) → w_X3_addSquaresOnSouthBorder_13 Po a1 a2 n1 (1 : Int32) I J
set_option maxRecDepth 100000 in
set_option maxHeartbeats 4000000 in
theorem t_X3_addSquaresOnSouthBorder_13b {X : gX} {l : Launch} {D : va_G} {cy : Nat → ClassId} {nm : String} {V : gV} (hBL : gModBL V) (hGR : gModGR V) (C : gC X cX3_addSquaresOnSouthBorder RX3 none 5 rm_X3_addSquaresOnSouthBorder) (hX : gIs X l D cy nm) {I : gI} {J : gL} {Po : gL → Prop} (hR : gR X (gPv V (fun I' J' => I = I' ∧ Po J'))) {v1 : Int32} {v2 : Int32} {v3 : Int32} {v4 : Int32} {K13 : Int32 → gL → Prop} (hK13 : ∀ (y4 : Int32) (J1 : gL), K13 y4 J1 → gJ X V 0 0 13 [(0, .ref (V.2.1 99)), (1, .int v1), (2, .int v2), (3, .int v3), (4, .int y4)] [] I J1) (h : w_X3_addSquaresOnSouthBorder_13b Po K13 v1 v2 v3 v4 I J) : gJ X V 0 0 13 [(0, .ref (V.2.1 99)), (1, .int v1), (2, .int v2), (3, .int v3), (4, .int v4)] [] I J := by
  unfold w_X3_addSquaresOnSouthBorder_13b at h
  refine j_iload (pc := 13) C dX3_addSquaresOnSouthBorder_13 4 rfl ?_
  refine j_aload_n (pc := 15) C dX3_addSquaresOnSouthBorder_15 rfl 0 rfl ?_
  refine j_getR (pc := 16) C 99 0 40 (c_99 hGR).1 (c_99 hGR).2 rfl rfl (by decide) inw_X3 wd_779 dX3_addSquaresOnSouthBorder_16 ?_
  refine j_getI (pc := 19) C 40 1 (c_40 hBL).1 (c_40 hBL).2 rfl rfl (by decide) inw_X0 wd_189 dX3_addSquaresOnSouthBorder_19 ?_
  refine j_icmp_ge (pc := 22) (tgt := 83) C dX3_addSquaresOnSouthBorder_22 (by decide) (fun c2 => ?_) (fun c2 => ?_)
  · have h := h.1 c2
    exact j_vret (pc := 83) C hR (Nat.zero_le _) (Nat.zero_le _) dX3_addSquaresOnSouthBorder_83 ⟨rfl, rfl, rfl, h⟩
  · have h := h.2 c2
    refine j_aload_n (pc := 25) C dX3_addSquaresOnSouthBorder_25 rfl 0 rfl ?_
    refine j_aload_n (pc := 26) C dX3_addSquaresOnSouthBorder_26 rfl 0 rfl ?_
    refine j_getR (pc := 27) C 99 0 40 (c_99 hGR).1 (c_99 hGR).2 rfl rfl (by decide) inw_X3 wd_779 dX3_addSquaresOnSouthBorder_27 ?_
    refine j_iload_n (pc := 30) C dX3_addSquaresOnSouthBorder_30 rfl 1 rfl ?_
    refine j_iload (pc := 31) C dX3_addSquaresOnSouthBorder_31 4 rfl ?_
    refine j_iconst (pc := 33) (v := 1) C dX3_addSquaresOnSouthBorder_33 (by decide) ?_
    refine j_isub (pc := 34) C dX3_addSquaresOnSouthBorder_34 ?_
    refine j_iload_n (pc := 35) C dX3_addSquaresOnSouthBorder_35 rfl 3 rfl ?_
    refine j_callV (pc := 36) (As := [.int v1, .int (v4 - (1 : Int32)), .int v3]) (st := [.ref (V.2.1 99)]) C hX 40 (m_X0_at hBL  h) (c_40 hBL).1 (c_40 hBL).2 rfl ok_X0_at wd_819 wd_739 wd_740 ⟨by decide, by decide⟩ rfl rfl (Nat.le_of_ble_eq_true rfl) ⟨Nat.le_refl 0, Nat.le_refl 0⟩ dX3_addSquaresOnSouthBorder_36 (fun r V1 I1 J1 hp => ?_)
    obtain ⟨r3, rfl, rfl, rfl, rfl, h⟩ := hp
    show gJ X V 0 0 39 _ [.int r3, .ref (V.2.1 99)] _ _
    refine j_aload_n (pc := 39) C dX3_addSquaresOnSouthBorder_39 rfl 0 rfl ?_
    refine j_getR (pc := 40) C 99 0 40 (c_99 hGR).1 (c_99 hGR).2 rfl rfl (by decide) inw_X3 wd_779 dX3_addSquaresOnSouthBorder_40 ?_
    refine j_iload_n (pc := 43) C dX3_addSquaresOnSouthBorder_43 rfl 1 rfl ?_
    refine j_iload (pc := 44) C dX3_addSquaresOnSouthBorder_44 4 rfl ?_
    refine j_iload_n (pc := 46) C dX3_addSquaresOnSouthBorder_46 rfl 3 rfl ?_
    refine j_callV (pc := 47) (As := [.int v1, .int v4, .int v3]) (st := [.int r3, .ref (V.2.1 99)]) C hX 40 (m_X0_at hBL  h) (c_40 hBL).1 (c_40 hBL).2 rfl ok_X0_at wd_819 wd_739 wd_740 ⟨by decide, by decide⟩ rfl rfl (Nat.le_of_ble_eq_true rfl) ⟨Nat.le_refl 0, Nat.le_refl 0⟩ dX3_addSquaresOnSouthBorder_47 (fun r V1 I1 J1 hp => ?_)
    obtain ⟨r4, rfl, rfl, rfl, rfl, h⟩ := hp
    show gJ X V 0 0 50 _ [.int r4, .int r3, .ref (V.2.1 99)] _ _
    refine j_aload_n (pc := 50) C dX3_addSquaresOnSouthBorder_50 rfl 0 rfl ?_
    refine j_getR (pc := 51) C 99 0 40 (c_99 hGR).1 (c_99 hGR).2 rfl rfl (by decide) inw_X3 wd_779 dX3_addSquaresOnSouthBorder_51 ?_
    refine j_iload_n (pc := 54) C dX3_addSquaresOnSouthBorder_54 rfl 2 rfl ?_
    refine j_iload (pc := 55) C dX3_addSquaresOnSouthBorder_55 4 rfl ?_
    refine j_iconst (pc := 57) (v := 1) C dX3_addSquaresOnSouthBorder_57 (by decide) ?_
    refine j_isub (pc := 58) C dX3_addSquaresOnSouthBorder_58 ?_
    refine j_iconst (pc := 59) (v := 0) C dX3_addSquaresOnSouthBorder_59 (by decide) ?_
    refine j_callV (pc := 60) (As := [.int v2, .int (v4 - (1 : Int32)), .int (0 : Int32)]) (st := [.int r4, .int r3, .ref (V.2.1 99)]) C hX 40 (m_X0_at hBL  h) (c_40 hBL).1 (c_40 hBL).2 rfl ok_X0_at wd_819 wd_739 wd_740 ⟨by decide, by decide⟩ rfl rfl (Nat.le_of_ble_eq_true rfl) ⟨Nat.le_refl 0, Nat.le_refl 0⟩ dX3_addSquaresOnSouthBorder_60 (fun r V1 I1 J1 hp => ?_)
    obtain ⟨r5, rfl, rfl, rfl, rfl, h⟩ := hp
    show gJ X V 0 0 63 _ [.int r5, .int r4, .int r3, .ref (V.2.1 99)] _ _
    refine j_aload_n (pc := 63) C dX3_addSquaresOnSouthBorder_63 rfl 0 rfl ?_
    refine j_getR (pc := 64) C 99 0 40 (c_99 hGR).1 (c_99 hGR).2 rfl rfl (by decide) inw_X3 wd_779 dX3_addSquaresOnSouthBorder_64 ?_
    refine j_iload_n (pc := 67) C dX3_addSquaresOnSouthBorder_67 rfl 2 rfl ?_
    refine j_iload (pc := 68) C dX3_addSquaresOnSouthBorder_68 4 rfl ?_
    refine j_iconst (pc := 70) (v := 0) C dX3_addSquaresOnSouthBorder_70 (by decide) ?_
    refine j_callV (pc := 71) (As := [.int v2, .int v4, .int (0 : Int32)]) (st := [.int r5, .int r4, .int r3, .ref (V.2.1 99)]) C hX 40 (m_X0_at hBL  h) (c_40 hBL).1 (c_40 hBL).2 rfl ok_X0_at wd_819 wd_739 wd_740 ⟨by decide, by decide⟩ rfl rfl (Nat.le_of_ble_eq_true rfl) ⟨Nat.le_refl 0, Nat.le_refl 0⟩ dX3_addSquaresOnSouthBorder_71 (fun r V1 I1 J1 hp => ?_)
    obtain ⟨r6, rfl, rfl, rfl, rfl, h⟩ := hp
    show gJ X V 0 0 74 _ [.int r6, .int r5, .int r4, .int r3, .ref (V.2.1 99)] _ _
    refine j_callV (pc := 74) (As := [.int r3, .int r4, .int r5, .int r6]) (st := []) C hX 99 (m_X3_addSquare hBL hGR  h) (c_99 hGR).1 (c_99 hGR).2 rfl ok_X3_addSquare wd_859 wd_861 wd_34 ⟨by decide, by decide⟩ rfl rfl (Nat.le_of_ble_eq_true rfl) ⟨Nat.le_refl 0, Nat.le_refl 0⟩ dX3_addSquaresOnSouthBorder_74 (fun r V1 I1 J7 hp => ?_)
    obtain ⟨rfl, rfl, rfl, h⟩ := hp
    show gJ X V 0 0 77 _ [] _ _
    obtain ⟨n8, en8⟩ : ∃ z : Int32, z = v4 + 1 := ⟨_, rfl⟩
    have h := h n8 en8
    refine j_iinc (pc := 77) (v := n8) (lv' := [(4, .int n8), (0, .ref (V.2.1 99)), (1, .int v1), (2, .int v2), (3, .int v3)]) C dX3_addSquaresOnSouthBorder_77 4 rfl (by rw [en8]; rfl) (by decide) rfl ?_
    refine j_goto (pc := 80) (tgt := 13) C dX3_addSquaresOnSouthBorder_80 (by decide) ?_
    refine gJ.sub [1, 2, 3, 4, 0] rfl ?_
    exact hK13 _ _ h
set_option maxRecDepth 100000 in
set_option maxHeartbeats 4000000 in
theorem t_X3_addSquaresOnSouthBorder_13 {X : gX} {l : Launch} {D : va_G} {cy : Nat → ClassId} {nm : String} {V : gV} (hBL : gModBL V) (hGR : gModGR V) (C : gC X cX3_addSquaresOnSouthBorder RX3 none 5 rm_X3_addSquaresOnSouthBorder) (hX : gIs X l D cy nm) {I : gI} {J : gL} {Po : gL → Prop} (hR : gR X (gPv V (fun I' J' => I = I' ∧ Po J'))) {v1 : Int32} {v2 : Int32} {v3 : Int32} {v4 : Int32} (h : w_X3_addSquaresOnSouthBorder_13 Po v1 v2 v3 v4 I J) : gJ X V 0 0 13 [(0, .ref (V.2.1 99)), (1, .int v1), (2, .int v2), (3, .int v3), (4, .int v4)] [] I J := by
  unfold w_X3_addSquaresOnSouthBorder_13 at h
  obtain ⟨Inv, mu, h0, hs⟩ := h
  have key : ∀ (n : Nat) (v4 : Int32) (J : gL), Inv v4 J → mu v4 J < n → gJ X V 0 0 13 [(0, .ref (V.2.1 99)), (1, .int v1), (2, .int v2), (3, .int v3), (4, .int v4)] [] I J := by
    intro n
    induction n with
    | zero => intro v4 J hi hn; exact absurd hn (Nat.not_lt_zero _)
    | succ n ih =>
      intro v4 J hi hn
      exact t_X3_addSquaresOnSouthBorder_13b hBL hGR C hX hR   (fun u4 J1 hk => ih u4 J1 hk.1 (Nat.lt_of_lt_of_le hk.2 (Nat.le_of_lt_succ hn))) (hs v4 J hi)
  exact key _ v4 J h0 (Nat.lt_succ_self _)
set_option maxRecDepth 100000 in
set_option maxHeartbeats 4000000 in
theorem m_X3_addSquaresOnSouthBorder {l : Launch} {D : va_G} {cy : Nat → ClassId} {V : gV} (hBL : gModBL V) (hGR : gModGR V) {a1 : Int32} {a2 : Int32} {I : gI} {J : gL} {Po : gL → Prop} (h : wp_X3_addSquaresOnSouthBorder a1 a2 I J Po) : gMet l D cy yX3_addSquaresOnSouthBorder cX3_addSquaresOnSouthBorder 5 none rm_X3_addSquaresOnSouthBorder V [.ref (V.2.1 99), .int a1, .int a2] I J (gPv V (fun I' J' => I = I' ∧ Po J')) := by
  refine gMet.of (by decide) (Nat.le_of_ble_eq_true rfl) (fun X hX C hR => ?_)
  have C : gC X cX3_addSquaresOnSouthBorder RX3 none 5 rm_X3_addSquaresOnSouthBorder := C
  show gJ X V 0 0 0 [(0, .ref (V.2.1 99)), (1, .int a1), (2, .int a2)] [] I J
  unfold wp_X3_addSquaresOnSouthBorder at h
  refine j_aload_n (pc := 0) C dX3_addSquaresOnSouthBorder_0 rfl 0 rfl ?_
  refine j_getR (pc := 1) C 99 0 40 (c_99 hGR).1 (c_99 hGR).2 rfl rfl (by decide) inw_X3 wd_779 dX3_addSquaresOnSouthBorder_1 ?_
  refine j_getI (pc := 4) C 40 1 (c_40 hBL).1 (c_40 hBL).2 rfl rfl (by decide) inw_X0 wd_189 dX3_addSquaresOnSouthBorder_4 ?_
  refine j_iconst (pc := 7) (v := 1) C dX3_addSquaresOnSouthBorder_7 (by decide) ?_
  refine j_isub (pc := 8) C dX3_addSquaresOnSouthBorder_8 ?_
  refine gJ.topi (fun n1 en1 => ?_)
  have h := h n1 en1
  refine j_istore_n (pc := 9) (lv' := [(3, .int n1), (0, .ref (V.2.1 99)), (1, .int a1), (2, .int a2)]) C dX3_addSquaresOnSouthBorder_9 rfl (by decide) rfl ?_
  refine j_iconst (pc := 10) (v := 1) C dX3_addSquaresOnSouthBorder_10 (by decide) ?_
  refine j_istore (pc := 11) (lv' := [(4, .int (1 : Int32)), (3, .int n1), (0, .ref (V.2.1 99)), (1, .int a1), (2, .int a2)]) C dX3_addSquaresOnSouthBorder_11 (by decide) rfl ?_
  refine gJ.sub [2, 3, 4, 1, 0] rfl ?_
  exact t_X3_addSquaresOnSouthBorder_13 hBL hGR C hX hR   h
/-! TileRules$Growth.growSquares()V -/
abbrev rm_X3_growSquares : Room := { frames := 2, cells := 0, slots := 0, locals := 80 }
theorem ok_X3_growSquares : gOk yX3_growSquares cX3_growSquares 3 none 0 := ⟨wd_854, wd_83, by decide +kernel⟩
def w_X3_growSquares_139  (Po : gL → Prop) (K106 : Int32 → gL → Prop) (v1 : Int32) (I : gI) (J : gL) : Prop :=
  ∀ n9 : Int32, n9 = v1 + 1 → K106 n9 J
def w_X3_growSquares_106b  (Po : gL → Prop) (K106 : Int32 → gL → Prop) (v1 : Int32) (I : gI) (J : gL) : Prop :=
  ((1296 : Int32) ≤ v1 → ∀ J4 : gL, J4 = guc J 102 (va_cpy (J 103) (J 102) 0 0 21) → Po J4) ∧ (¬ (1296 : Int32) ≤ v1 → ¬ (64 : Int32) = 0 ∧ vp_in (v1 / (64 : Int32)) 21 ∧ ¬ (64 : Int32) = 0 ∧ ((lg_cmp (((J 102 ((v1 / (64 : Int32))).toNatClampNeg) >>> (((v1 - v1 / (64 : Int32) * (64 : Int32))).toInt64 &&& 63)) &&& (1 : Int64)) (0 : Int64)) = 0 → w_X3_growSquares_139 Po K106 v1 I J) ∧ (¬ (lg_cmp (((J 102 ((v1 / (64 : Int32))).toNatClampNeg) >>> (((v1 - v1 / (64 : Int32) * (64 : Int32))).toInt64 &&& 63)) &&& (1 : Int64)) (0 : Int64)) = 0 → wp_X3_addSquareOnCrossing v1 I J (fun J10 => w_X3_growSquares_139 Po K106 v1 I J10)))
def w_X3_growSquares_106  (Po : gL → Prop)  (v1 : Int32) (I : gI) (J : gL) : Prop :=
  ∃ (Inv : Int32 → gL → Prop) (mu : Int32 → gL → Nat), Inv v1 J ∧ ∀ (v1 : Int32) (J : gL), Inv v1 J → w_X3_growSquares_106b  Po  (fun u1 J1 => Inv u1 J1 ∧ mu u1 J1 < mu v1 J) v1 I J
def w_X3_growSquares_92  (Po : gL → Prop) (K10 : Int32 → gL → Prop) (K39 : Int32 → gL → Prop) (v1 : Int32) (v2 : Int32) (I : gI) (J : gL) : Prop :=
  ∀ n18 : Int32, n18 = v2 + 1 → K39 n18 J
def w_X3_growSquares_71  (Po : gL → Prop) (K10 : Int32 → gL → Prop) (K39 : Int32 → gL → Prop) (v1 : Int32) (v2 : Int32) (I : gI) (J : gL) : Prop :=
  wp_X3_pair v1 v2 (fun r16 => ((lg_cmp ((J 99 3) &&& r16) (0 : Int64)) = 0 → w_X3_growSquares_92 Po K10 K39 v1 v2 I J) ∧ (¬ (lg_cmp ((J 99 3) &&& r16) (0 : Int64)) = 0 → wp_X3_addSquaresOnSouthBorder v1 v2 I J (fun J19 => w_X3_growSquares_92 Po K10 K39 v1 v2 I J19)))
def w_X3_growSquares_39b  (Po : gL → Prop) (K10 : Int32 → gL → Prop) (K39 : Int32 → gL → Prop) (v1 : Int32) (v2 : Int32) (I : gI) (J : gL) : Prop :=
  ((I 40 0) ≤ v2 → ∀ n13 : Int32, n13 = v1 + 1 → K10 n13 J) ∧ (¬ (I 40 0) ≤ v2 → wp_X3_pair v1 v2 (fun r14 => ((lg_cmp ((J 99 2) &&& r14) (0 : Int64)) = 0 → w_X3_growSquares_71 Po K10 K39 v1 v2 I J) ∧ (¬ (lg_cmp ((J 99 2) &&& r14) (0 : Int64)) = 0 → wp_X3_addSquaresOnEastBorder v1 v2 I J (fun J20 => w_X3_growSquares_71 Po K10 K39 v1 v2 I J20))))
def w_X3_growSquares_39  (Po : gL → Prop) (K10 : Int32 → gL → Prop) (v1 : Int32) (v2 : Int32) (I : gI) (J : gL) : Prop :=
  ∃ (Inv : Int32 → gL → Prop) (mu : Int32 → gL → Nat), Inv v2 J ∧ ∀ (v2 : Int32) (J : gL), Inv v2 J → w_X3_growSquares_39b  Po K10 (fun u2 J1 => Inv u2 J1 ∧ mu u2 J1 < mu v2 J) v1 v2 I J
def w_X3_growSquares_37  (Po : gL → Prop) (K10 : Int32 → gL → Prop) (v1 : Int32) (I : gI) (J : gL) : Prop :=
  w_X3_growSquares_39 Po K10 v1 (0 : Int32) I J
def w_X3_growSquares_10b  (Po : gL → Prop) (K10 : Int32 → gL → Prop) (v1 : Int32) (I : gI) (J : gL) : Prop :=
  ((I 40 0) ≤ v1 → w_X3_growSquares_106 Po (0 : Int32) I J) ∧ (¬ (I 40 0) ≤ v1 → ((((I 99 1) >>> (v1 &&& 31)) &&& (1 : Int32)) = 0 → w_X3_growSquares_37 Po K10 v1 I J) ∧ (¬ (((I 99 1) >>> (v1 &&& 31)) &&& (1 : Int32)) = 0 → wp_X3_addSquaresInside v1 I J (fun J21 => w_X3_growSquares_37 Po K10 v1 I J21)))
def w_X3_growSquares_10  (Po : gL → Prop)  (v1 : Int32) (I : gI) (J : gL) : Prop :=
  ∃ (Inv : Int32 → gL → Prop) (mu : Int32 → gL → Nat), Inv v1 J ∧ ∀ (v1 : Int32) (J : gL), Inv v1 J → w_X3_growSquares_10b  Po  (fun u1 J1 => Inv u1 J1 ∧ mu u1 J1 < mu v1 J) v1 I J
def wp_X3_growSquares (I : gI) (J : gL) (Po : gL → Prop) : Prop :=
  wp_J7_fill_d0a16 103 21 (0 : Int64) J (fun J1 => w_X3_growSquares_10 Po (0 : Int32) I J1)
set_option maxRecDepth 100000 in
set_option maxHeartbeats 4000000 in
theorem t_X3_growSquares_139 {X : gX} {l : Launch} {D : va_G} {cy : Nat → ClassId} {nm : String} {V : gV} (hBL : gModBL V) (hGR : gModGR V) (C : gC X cX3_growSquares RX3 none 3 rm_X3_growSquares) (hX : gIs X l D cy nm) {I : gI} {J : gL} {Po : gL → Prop} (hR : gR X (gPv V (fun I' J' => I = I' ∧ Po J'))) {v1 : Int32} {K106 : Int32 → gL → Prop} (hK106 : ∀ (y1 : Int32) (J1 : gL), K106 y1 J1 → gJ X V 0 0 106 [(0, .ref (V.2.1 99)), (1, .int y1)] [] I J1) (h : w_X3_growSquares_139 Po K106 v1 I J) : gJ X V 0 0 139 [(0, .ref (V.2.1 99)), (1, .int v1)] [] I J := by
  unfold w_X3_growSquares_139 at h
  obtain ⟨n9, en9⟩ : ∃ z : Int32, z = v1 + 1 := ⟨_, rfl⟩
  have h := h n9 en9
  refine j_iinc (pc := 139) (v := n9) (lv' := [(1, .int n9), (0, .ref (V.2.1 99))]) C dX3_growSquares_139 1 rfl (by rw [en9]; rfl) (by decide) rfl ?_
  refine j_goto (pc := 142) (tgt := 106) C dX3_growSquares_142 (by decide) ?_
  refine gJ.sub [1, 0] rfl ?_
  exact hK106 _ _ h
set_option maxRecDepth 100000 in
set_option maxHeartbeats 4000000 in
theorem t_X3_growSquares_106b {X : gX} {l : Launch} {D : va_G} {cy : Nat → ClassId} {nm : String} {V : gV} (hBL : gModBL V) (hGR : gModGR V) (C : gC X cX3_growSquares RX3 none 3 rm_X3_growSquares) (hX : gIs X l D cy nm) {I : gI} {J : gL} {Po : gL → Prop} (hR : gR X (gPv V (fun I' J' => I = I' ∧ Po J'))) {v1 : Int32} {K106 : Int32 → gL → Prop} (hK106 : ∀ (y1 : Int32) (J1 : gL), K106 y1 J1 → gJ X V 0 0 106 [(0, .ref (V.2.1 99)), (1, .int y1)] [] I J1) (h : w_X3_growSquares_106b Po K106 v1 I J) : gJ X V 0 0 106 [(0, .ref (V.2.1 99)), (1, .int v1)] [] I J := by
  unfold w_X3_growSquares_106b at h
  refine j_iload_n (pc := 106) C dX3_growSquares_106 rfl 1 rfl ?_
  refine j_sipush (pc := 107) (v := 1296) C dX3_growSquares_107 (by decide) ?_
  refine j_icmp_ge (pc := 110) (tgt := 145) C dX3_growSquares_110 (by decide) (fun c3 => ?_) (fun c3 => ?_)
  · have h := h.1 c3
    refine j_aload_n (pc := 145) C dX3_growSquares_145 rfl 0 rfl ?_
    refine j_getR (pc := 146) C 99 5 103 (c_99 hGR).1 (c_99 hGR).2 rfl rfl (by decide) inw_X3 wd_784 dX3_growSquares_146 ?_
    refine j_iconst (pc := 149) (v := 0) C dX3_growSquares_149 (by decide) ?_
    refine j_aload_n (pc := 150) C dX3_growSquares_150 rfl 0 rfl ?_
    refine j_getR (pc := 151) C 99 4 102 (c_99 hGR).1 (c_99 hGR).2 rfl rfl (by decide) inw_X3 wd_783 dX3_growSquares_151 ?_
    refine j_iconst (pc := 154) (v := 0) C dX3_growSquares_154 (by decide) ?_
    refine j_bipush (pc := 155) (v := 21) C dX3_growSquares_155 (by decide) ?_
    refine j_cpyL (pc := 157) (N := 21) C 103 102 (c_103 hGR).1 (c_103 hGR).2 (c_102 hGR).1 (c_102 hGR).2 wd_875 wd_764 wd_763 wd_82 (by decide) (by decide) (by decide) (by decide) (by decide) (by decide) dX3_growSquares_157 ?_
    refine gJ.nmJ (fun J4 eJ4 => ?_)
    have h := h J4 eJ4
    exact j_vret (pc := 160) C hR (Nat.zero_le _) (Nat.zero_le _) dX3_growSquares_160 ⟨rfl, rfl, rfl, h⟩
  · have h := h.2 c3
    refine j_aload_n (pc := 113) C dX3_growSquares_113 rfl 0 rfl ?_
    refine j_getR (pc := 114) C 99 4 102 (c_99 hGR).1 (c_99 hGR).2 rfl rfl (by decide) inw_X3 wd_783 dX3_growSquares_114 ?_
    refine j_iload_n (pc := 117) C dX3_growSquares_117 rfl 1 rfl ?_
    refine j_bipush (pc := 118) (v := 64) C dX3_growSquares_118 (by decide) ?_
    obtain ⟨g5, h⟩ := h
    refine j_idiv (pc := 120) C dX3_growSquares_120 g5 ?_
    obtain ⟨g6, h⟩ := h
    refine j_lald (pc := 121) C 102 (c_102 hGR).1 (c_102 hGR).2 g6 dX3_growSquares_121 ?_
    refine j_iload_n (pc := 122) C dX3_growSquares_122 rfl 1 rfl ?_
    refine j_bipush (pc := 123) (v := 64) C dX3_growSquares_123 (by decide) ?_
    obtain ⟨g7, h⟩ := h
    refine j_irem (pc := 125) C dX3_growSquares_125 g7 ?_
    refine j_lshr (pc := 126) C dX3_growSquares_126 ?_
    refine j_lconst (pc := 127) (v := 1) C dX3_growSquares_127 (by decide) ?_
    refine j_land (pc := 128) C dX3_growSquares_128 ?_
    refine j_lconst (pc := 129) (v := 0) C dX3_growSquares_129 (by decide) ?_
    refine j_lcmp (pc := 130) C dX3_growSquares_130 ?_
    refine j_if_eq (pc := 131) (tgt := 139) C dX3_growSquares_131 (by decide) (fun c8 => ?_) (fun c8 => ?_)
    · have h := h.1 c8
      refine gJ.sub [0, 1] rfl ?_
      exact t_X3_growSquares_139 hBL hGR C hX hR  hK106 h
    · have h := h.2 c8
      refine j_aload_n (pc := 134) C dX3_growSquares_134 rfl 0 rfl ?_
      refine j_iload_n (pc := 135) C dX3_growSquares_135 rfl 1 rfl ?_
      refine j_callV (pc := 136) (As := [.int v1]) (st := []) C hX 99 (m_X3_addSquareOnCrossing hBL hGR  h) (c_99 hGR).1 (c_99 hGR).2 rfl ok_X3_addSquareOnCrossing wd_871 wd_873 wd_37 ⟨by decide, by decide⟩ rfl rfl (Nat.le_of_ble_eq_true rfl) ⟨Nat.le_refl 0, Nat.le_refl 0⟩ dX3_growSquares_136 (fun r V1 I1 J10 hp => ?_)
      obtain ⟨rfl, rfl, rfl, h⟩ := hp
      show gJ X V 0 0 139 _ [] _ _
      refine gJ.sub [0, 1] rfl ?_
      exact t_X3_growSquares_139 hBL hGR C hX hR  hK106 h
set_option maxRecDepth 100000 in
set_option maxHeartbeats 4000000 in
theorem t_X3_growSquares_106 {X : gX} {l : Launch} {D : va_G} {cy : Nat → ClassId} {nm : String} {V : gV} (hBL : gModBL V) (hGR : gModGR V) (C : gC X cX3_growSquares RX3 none 3 rm_X3_growSquares) (hX : gIs X l D cy nm) {I : gI} {J : gL} {Po : gL → Prop} (hR : gR X (gPv V (fun I' J' => I = I' ∧ Po J'))) {v1 : Int32} (h : w_X3_growSquares_106 Po v1 I J) : gJ X V 0 0 106 [(0, .ref (V.2.1 99)), (1, .int v1)] [] I J := by
  unfold w_X3_growSquares_106 at h
  obtain ⟨Inv, mu, h0, hs⟩ := h
  have key : ∀ (n : Nat) (v1 : Int32) (J : gL), Inv v1 J → mu v1 J < n → gJ X V 0 0 106 [(0, .ref (V.2.1 99)), (1, .int v1)] [] I J := by
    intro n
    induction n with
    | zero => intro v1 J hi hn; exact absurd hn (Nat.not_lt_zero _)
    | succ n ih =>
      intro v1 J hi hn
      exact t_X3_growSquares_106b hBL hGR C hX hR   (fun u1 J1 hk => ih u1 J1 hk.1 (Nat.lt_of_lt_of_le hk.2 (Nat.le_of_lt_succ hn))) (hs v1 J hi)
  exact key _ v1 J h0 (Nat.lt_succ_self _)
set_option maxRecDepth 100000 in
set_option maxHeartbeats 4000000 in
theorem t_X3_growSquares_92 {X : gX} {l : Launch} {D : va_G} {cy : Nat → ClassId} {nm : String} {V : gV} (hBL : gModBL V) (hGR : gModGR V) (C : gC X cX3_growSquares RX3 none 3 rm_X3_growSquares) (hX : gIs X l D cy nm) {I : gI} {J : gL} {Po : gL → Prop} (hR : gR X (gPv V (fun I' J' => I = I' ∧ Po J'))) {v1 : Int32} {v2 : Int32} {K10 : Int32 → gL → Prop} {K39 : Int32 → gL → Prop} (hK10 : ∀ (y1 : Int32) (J1 : gL), K10 y1 J1 → gJ X V 0 0 10 [(0, .ref (V.2.1 99)), (1, .int y1)] [] I J1) (hK39 : ∀ (y2 : Int32) (J1 : gL), K39 y2 J1 → gJ X V 0 0 39 [(0, .ref (V.2.1 99)), (1, .int v1), (2, .int y2)] [] I J1) (h : w_X3_growSquares_92 Po K10 K39 v1 v2 I J) : gJ X V 0 0 92 [(0, .ref (V.2.1 99)), (1, .int v1), (2, .int v2)] [] I J := by
  unfold w_X3_growSquares_92 at h
  obtain ⟨n18, en18⟩ : ∃ z : Int32, z = v2 + 1 := ⟨_, rfl⟩
  have h := h n18 en18
  refine j_iinc (pc := 92) (v := n18) (lv' := [(2, .int n18), (0, .ref (V.2.1 99)), (1, .int v1)]) C dX3_growSquares_92 2 rfl (by rw [en18]; rfl) (by decide) rfl ?_
  refine j_goto (pc := 95) (tgt := 39) C dX3_growSquares_95 (by decide) ?_
  refine gJ.sub [1, 2, 0] rfl ?_
  exact hK39 _ _ h
set_option maxRecDepth 100000 in
set_option maxHeartbeats 4000000 in
theorem t_X3_growSquares_71 {X : gX} {l : Launch} {D : va_G} {cy : Nat → ClassId} {nm : String} {V : gV} (hBL : gModBL V) (hGR : gModGR V) (C : gC X cX3_growSquares RX3 none 3 rm_X3_growSquares) (hX : gIs X l D cy nm) {I : gI} {J : gL} {Po : gL → Prop} (hR : gR X (gPv V (fun I' J' => I = I' ∧ Po J'))) {v1 : Int32} {v2 : Int32} {K10 : Int32 → gL → Prop} {K39 : Int32 → gL → Prop} (hK10 : ∀ (y1 : Int32) (J1 : gL), K10 y1 J1 → gJ X V 0 0 10 [(0, .ref (V.2.1 99)), (1, .int y1)] [] I J1) (hK39 : ∀ (y2 : Int32) (J1 : gL), K39 y2 J1 → gJ X V 0 0 39 [(0, .ref (V.2.1 99)), (1, .int v1), (2, .int y2)] [] I J1) (h : w_X3_growSquares_71 Po K10 K39 v1 v2 I J) : gJ X V 0 0 71 [(0, .ref (V.2.1 99)), (1, .int v1), (2, .int v2)] [] I J := by
  unfold w_X3_growSquares_71 at h
  refine j_aload_n (pc := 71) C dX3_growSquares_71 rfl 0 rfl ?_
  refine j_getL (pc := 72) C 99 3 (c_99 hGR).1 (c_99 hGR).2 rfl rfl (by decide) inw_X3 wd_782 dX3_growSquares_72 ?_
  refine j_iload_n (pc := 75) C dX3_growSquares_75 rfl 1 rfl ?_
  refine j_iload_n (pc := 76) C dX3_growSquares_76 rfl 2 rfl ?_
  refine j_callS (pc := 77) (As := [.int v1, .int v2]) (st := [.long (J 99 3)]) C hX (m_X3_pair   h) ok_X3_pair wd_820 wd_821 ⟨by decide, by decide⟩ rfl rfl (Nat.le_of_ble_eq_true rfl) ⟨Nat.le_refl 0, Nat.le_refl 0⟩ dX3_growSquares_77 (fun r V1 I1 J1 hp => ?_)
  obtain ⟨r16, rfl, rfl, rfl, rfl, h⟩ := hp
  show gJ X V 0 0 80 _ [.long r16, .long (J 99 3)] _ _
  refine j_land (pc := 80) C dX3_growSquares_80 ?_
  refine j_lconst (pc := 81) (v := 0) C dX3_growSquares_81 (by decide) ?_
  refine j_lcmp (pc := 82) C dX3_growSquares_82 ?_
  refine j_if_eq (pc := 83) (tgt := 92) C dX3_growSquares_83 (by decide) (fun c17 => ?_) (fun c17 => ?_)
  · have h := h.1 c17
    refine gJ.sub [0, 1, 2] rfl ?_
    exact t_X3_growSquares_92 hBL hGR C hX hR  hK10 hK39 h
  · have h := h.2 c17
    refine j_aload_n (pc := 86) C dX3_growSquares_86 rfl 0 rfl ?_
    refine j_iload_n (pc := 87) C dX3_growSquares_87 rfl 1 rfl ?_
    refine j_iload_n (pc := 88) C dX3_growSquares_88 rfl 2 rfl ?_
    refine j_callV (pc := 89) (As := [.int v1, .int v2]) (st := []) C hX 99 (m_X3_addSquaresOnSouthBorder hBL hGR  h) (c_99 hGR).1 (c_99 hGR).2 rfl ok_X3_addSquaresOnSouthBorder wd_867 wd_869 wd_36 ⟨by decide, by decide⟩ rfl rfl (Nat.le_of_ble_eq_true rfl) ⟨Nat.le_refl 0, Nat.le_refl 0⟩ dX3_growSquares_89 (fun r V1 I1 J19 hp => ?_)
    obtain ⟨rfl, rfl, rfl, h⟩ := hp
    show gJ X V 0 0 92 _ [] _ _
    refine gJ.sub [0, 1, 2] rfl ?_
    exact t_X3_growSquares_92 hBL hGR C hX hR  hK10 hK39 h
set_option maxRecDepth 100000 in
set_option maxHeartbeats 4000000 in
theorem t_X3_growSquares_39b {X : gX} {l : Launch} {D : va_G} {cy : Nat → ClassId} {nm : String} {V : gV} (hBL : gModBL V) (hGR : gModGR V) (C : gC X cX3_growSquares RX3 none 3 rm_X3_growSquares) (hX : gIs X l D cy nm) {I : gI} {J : gL} {Po : gL → Prop} (hR : gR X (gPv V (fun I' J' => I = I' ∧ Po J'))) {v1 : Int32} {v2 : Int32} {K10 : Int32 → gL → Prop} {K39 : Int32 → gL → Prop} (hK10 : ∀ (y1 : Int32) (J1 : gL), K10 y1 J1 → gJ X V 0 0 10 [(0, .ref (V.2.1 99)), (1, .int y1)] [] I J1) (hK39 : ∀ (y2 : Int32) (J1 : gL), K39 y2 J1 → gJ X V 0 0 39 [(0, .ref (V.2.1 99)), (1, .int v1), (2, .int y2)] [] I J1) (h : w_X3_growSquares_39b Po K10 K39 v1 v2 I J) : gJ X V 0 0 39 [(0, .ref (V.2.1 99)), (1, .int v1), (2, .int v2)] [] I J := by
  unfold w_X3_growSquares_39b at h
  refine j_iload_n (pc := 39) C dX3_growSquares_39 rfl 2 rfl ?_
  refine j_aload_n (pc := 40) C dX3_growSquares_40 rfl 0 rfl ?_
  refine j_getR (pc := 41) C 99 0 40 (c_99 hGR).1 (c_99 hGR).2 rfl rfl (by decide) inw_X3 wd_779 dX3_growSquares_41 ?_
  refine j_getI (pc := 44) C 40 0 (c_40 hBL).1 (c_40 hBL).2 rfl rfl (by decide) inw_X0 wd_186 dX3_growSquares_44 ?_
  refine j_icmp_ge (pc := 47) (tgt := 98) C dX3_growSquares_47 (by decide) (fun c12 => ?_) (fun c12 => ?_)
  · have h := h.1 c12
    obtain ⟨n13, en13⟩ : ∃ z : Int32, z = v1 + 1 := ⟨_, rfl⟩
    have h := h n13 en13
    refine j_iinc (pc := 98) (v := n13) (lv' := [(1, .int n13), (0, .ref (V.2.1 99)), (2, .int v2)]) C dX3_growSquares_98 1 rfl (by rw [en13]; rfl) (by decide) rfl ?_
    refine j_goto (pc := 101) (tgt := 10) C dX3_growSquares_101 (by decide) ?_
    refine gJ.sub [1, 0] rfl ?_
    exact hK10 _ _ h
  · have h := h.2 c12
    refine j_aload_n (pc := 50) C dX3_growSquares_50 rfl 0 rfl ?_
    refine j_getL (pc := 51) C 99 2 (c_99 hGR).1 (c_99 hGR).2 rfl rfl (by decide) inw_X3 wd_781 dX3_growSquares_51 ?_
    refine j_iload_n (pc := 54) C dX3_growSquares_54 rfl 1 rfl ?_
    refine j_iload_n (pc := 55) C dX3_growSquares_55 rfl 2 rfl ?_
    refine j_callS (pc := 56) (As := [.int v1, .int v2]) (st := [.long (J 99 2)]) C hX (m_X3_pair   h) ok_X3_pair wd_820 wd_821 ⟨by decide, by decide⟩ rfl rfl (Nat.le_of_ble_eq_true rfl) ⟨Nat.le_refl 0, Nat.le_refl 0⟩ dX3_growSquares_56 (fun r V1 I1 J1 hp => ?_)
    obtain ⟨r14, rfl, rfl, rfl, rfl, h⟩ := hp
    show gJ X V 0 0 59 _ [.long r14, .long (J 99 2)] _ _
    refine j_land (pc := 59) C dX3_growSquares_59 ?_
    refine j_lconst (pc := 60) (v := 0) C dX3_growSquares_60 (by decide) ?_
    refine j_lcmp (pc := 61) C dX3_growSquares_61 ?_
    refine j_if_eq (pc := 62) (tgt := 71) C dX3_growSquares_62 (by decide) (fun c15 => ?_) (fun c15 => ?_)
    · have h := h.1 c15
      refine gJ.sub [0, 1, 2] rfl ?_
      exact t_X3_growSquares_71 hBL hGR C hX hR  hK10 hK39 h
    · have h := h.2 c15
      refine j_aload_n (pc := 65) C dX3_growSquares_65 rfl 0 rfl ?_
      refine j_iload_n (pc := 66) C dX3_growSquares_66 rfl 1 rfl ?_
      refine j_iload_n (pc := 67) C dX3_growSquares_67 rfl 2 rfl ?_
      refine j_callV (pc := 68) (As := [.int v1, .int v2]) (st := []) C hX 99 (m_X3_addSquaresOnEastBorder hBL hGR  h) (c_99 hGR).1 (c_99 hGR).2 rfl ok_X3_addSquaresOnEastBorder wd_863 wd_865 wd_35 ⟨by decide, by decide⟩ rfl rfl (Nat.le_of_ble_eq_true rfl) ⟨Nat.le_refl 0, Nat.le_refl 0⟩ dX3_growSquares_68 (fun r V1 I1 J20 hp => ?_)
      obtain ⟨rfl, rfl, rfl, h⟩ := hp
      show gJ X V 0 0 71 _ [] _ _
      refine gJ.sub [0, 1, 2] rfl ?_
      exact t_X3_growSquares_71 hBL hGR C hX hR  hK10 hK39 h
set_option maxRecDepth 100000 in
set_option maxHeartbeats 4000000 in
theorem t_X3_growSquares_39 {X : gX} {l : Launch} {D : va_G} {cy : Nat → ClassId} {nm : String} {V : gV} (hBL : gModBL V) (hGR : gModGR V) (C : gC X cX3_growSquares RX3 none 3 rm_X3_growSquares) (hX : gIs X l D cy nm) {I : gI} {J : gL} {Po : gL → Prop} (hR : gR X (gPv V (fun I' J' => I = I' ∧ Po J'))) {v1 : Int32} {v2 : Int32} {K10 : Int32 → gL → Prop} (hK10 : ∀ (y1 : Int32) (J1 : gL), K10 y1 J1 → gJ X V 0 0 10 [(0, .ref (V.2.1 99)), (1, .int y1)] [] I J1) (h : w_X3_growSquares_39 Po K10 v1 v2 I J) : gJ X V 0 0 39 [(0, .ref (V.2.1 99)), (1, .int v1), (2, .int v2)] [] I J := by
  unfold w_X3_growSquares_39 at h
  obtain ⟨Inv, mu, h0, hs⟩ := h
  have key : ∀ (n : Nat) (v2 : Int32) (J : gL), Inv v2 J → mu v2 J < n → gJ X V 0 0 39 [(0, .ref (V.2.1 99)), (1, .int v1), (2, .int v2)] [] I J := by
    intro n
    induction n with
    | zero => intro v2 J hi hn; exact absurd hn (Nat.not_lt_zero _)
    | succ n ih =>
      intro v2 J hi hn
      exact t_X3_growSquares_39b hBL hGR C hX hR  hK10 (fun u2 J1 hk => ih u2 J1 hk.1 (Nat.lt_of_lt_of_le hk.2 (Nat.le_of_lt_succ hn))) (hs v2 J hi)
  exact key _ v2 J h0 (Nat.lt_succ_self _)
set_option maxRecDepth 100000 in
set_option maxHeartbeats 4000000 in
theorem t_X3_growSquares_37 {X : gX} {l : Launch} {D : va_G} {cy : Nat → ClassId} {nm : String} {V : gV} (hBL : gModBL V) (hGR : gModGR V) (C : gC X cX3_growSquares RX3 none 3 rm_X3_growSquares) (hX : gIs X l D cy nm) {I : gI} {J : gL} {Po : gL → Prop} (hR : gR X (gPv V (fun I' J' => I = I' ∧ Po J'))) {v1 : Int32} {K10 : Int32 → gL → Prop} (hK10 : ∀ (y1 : Int32) (J1 : gL), K10 y1 J1 → gJ X V 0 0 10 [(0, .ref (V.2.1 99)), (1, .int y1)] [] I J1) (h : w_X3_growSquares_37 Po K10 v1 I J) : gJ X V 0 0 37 [(0, .ref (V.2.1 99)), (1, .int v1)] [] I J := by
  unfold w_X3_growSquares_37 at h
  refine j_iconst (pc := 37) (v := 0) C dX3_growSquares_37 (by decide) ?_
  refine j_istore_n (pc := 38) (lv' := [(2, .int (0 : Int32)), (0, .ref (V.2.1 99)), (1, .int v1)]) C dX3_growSquares_38 rfl (by decide) rfl ?_
  refine gJ.sub [1, 2, 0] rfl ?_
  exact t_X3_growSquares_39 hBL hGR C hX hR  hK10 h
set_option maxRecDepth 100000 in
set_option maxHeartbeats 4000000 in
theorem t_X3_growSquares_10b {X : gX} {l : Launch} {D : va_G} {cy : Nat → ClassId} {nm : String} {V : gV} (hBL : gModBL V) (hGR : gModGR V) (C : gC X cX3_growSquares RX3 none 3 rm_X3_growSquares) (hX : gIs X l D cy nm) {I : gI} {J : gL} {Po : gL → Prop} (hR : gR X (gPv V (fun I' J' => I = I' ∧ Po J'))) {v1 : Int32} {K10 : Int32 → gL → Prop} (hK10 : ∀ (y1 : Int32) (J1 : gL), K10 y1 J1 → gJ X V 0 0 10 [(0, .ref (V.2.1 99)), (1, .int y1)] [] I J1) (h : w_X3_growSquares_10b Po K10 v1 I J) : gJ X V 0 0 10 [(0, .ref (V.2.1 99)), (1, .int v1)] [] I J := by
  unfold w_X3_growSquares_10b at h
  refine j_iload_n (pc := 10) C dX3_growSquares_10 rfl 1 rfl ?_
  refine j_aload_n (pc := 11) C dX3_growSquares_11 rfl 0 rfl ?_
  refine j_getR (pc := 12) C 99 0 40 (c_99 hGR).1 (c_99 hGR).2 rfl rfl (by decide) inw_X3 wd_779 dX3_growSquares_12 ?_
  refine j_getI (pc := 15) C 40 0 (c_40 hBL).1 (c_40 hBL).2 rfl rfl (by decide) inw_X0 wd_186 dX3_growSquares_15 ?_
  refine j_icmp_ge (pc := 18) (tgt := 104) C dX3_growSquares_18 (by decide) (fun c2 => ?_) (fun c2 => ?_)
  · have h := h.1 c2
    refine j_iconst (pc := 104) (v := 0) C dX3_growSquares_104 (by decide) ?_
    refine j_istore_n (pc := 105) (lv' := [(1, .int (0 : Int32)), (0, .ref (V.2.1 99))]) C dX3_growSquares_105 rfl (by decide) rfl ?_
    refine gJ.sub [1, 0] rfl ?_
    exact t_X3_growSquares_106 hBL hGR C hX hR   h
  · have h := h.2 c2
    refine j_aload_n (pc := 21) C dX3_growSquares_21 rfl 0 rfl ?_
    refine j_getI (pc := 22) C 99 1 (c_99 hGR).1 (c_99 hGR).2 rfl rfl (by decide) inw_X3 wd_780 dX3_growSquares_22 ?_
    refine j_iload_n (pc := 25) C dX3_growSquares_25 rfl 1 rfl ?_
    refine j_ishr (pc := 26) C dX3_growSquares_26 ?_
    refine j_iconst (pc := 27) (v := 1) C dX3_growSquares_27 (by decide) ?_
    refine j_iand (pc := 28) C dX3_growSquares_28 ?_
    refine j_if_eq (pc := 29) (tgt := 37) C dX3_growSquares_29 (by decide) (fun c11 => ?_) (fun c11 => ?_)
    · have h := h.1 c11
      refine gJ.sub [0, 1] rfl ?_
      exact t_X3_growSquares_37 hBL hGR C hX hR  hK10 h
    · have h := h.2 c11
      refine j_aload_n (pc := 32) C dX3_growSquares_32 rfl 0 rfl ?_
      refine j_iload_n (pc := 33) C dX3_growSquares_33 rfl 1 rfl ?_
      refine j_callV (pc := 34) (As := [.int v1]) (st := []) C hX 99 (m_X3_addSquaresInside hBL hGR  h) (c_99 hGR).1 (c_99 hGR).2 rfl ok_X3_addSquaresInside wd_855 wd_857 wd_33 ⟨by decide, by decide⟩ rfl rfl (Nat.le_of_ble_eq_true rfl) ⟨Nat.le_refl 0, Nat.le_refl 0⟩ dX3_growSquares_34 (fun r V1 I1 J21 hp => ?_)
      obtain ⟨rfl, rfl, rfl, h⟩ := hp
      show gJ X V 0 0 37 _ [] _ _
      refine gJ.sub [0, 1] rfl ?_
      exact t_X3_growSquares_37 hBL hGR C hX hR  hK10 h
set_option maxRecDepth 100000 in
set_option maxHeartbeats 4000000 in
theorem t_X3_growSquares_10 {X : gX} {l : Launch} {D : va_G} {cy : Nat → ClassId} {nm : String} {V : gV} (hBL : gModBL V) (hGR : gModGR V) (C : gC X cX3_growSquares RX3 none 3 rm_X3_growSquares) (hX : gIs X l D cy nm) {I : gI} {J : gL} {Po : gL → Prop} (hR : gR X (gPv V (fun I' J' => I = I' ∧ Po J'))) {v1 : Int32} (h : w_X3_growSquares_10 Po v1 I J) : gJ X V 0 0 10 [(0, .ref (V.2.1 99)), (1, .int v1)] [] I J := by
  unfold w_X3_growSquares_10 at h
  obtain ⟨Inv, mu, h0, hs⟩ := h
  have key : ∀ (n : Nat) (v1 : Int32) (J : gL), Inv v1 J → mu v1 J < n → gJ X V 0 0 10 [(0, .ref (V.2.1 99)), (1, .int v1)] [] I J := by
    intro n
    induction n with
    | zero => intro v1 J hi hn; exact absurd hn (Nat.not_lt_zero _)
    | succ n ih =>
      intro v1 J hi hn
      exact t_X3_growSquares_10b hBL hGR C hX hR   (fun u1 J1 hk => ih u1 J1 hk.1 (Nat.lt_of_lt_of_le hk.2 (Nat.le_of_lt_succ hn))) (hs v1 J hi)
  exact key _ v1 J h0 (Nat.lt_succ_self _)
set_option maxRecDepth 100000 in
set_option maxHeartbeats 4000000 in
theorem m_X3_growSquares {l : Launch} {D : va_G} {cy : Nat → ClassId} {V : gV} (hBL : gModBL V) (hGR : gModGR V) {I : gI} {J : gL} {Po : gL → Prop} (h : wp_X3_growSquares I J Po) : gMet l D cy yX3_growSquares cX3_growSquares 3 none rm_X3_growSquares V [.ref (V.2.1 99)] I J (gPv V (fun I' J' => I = I' ∧ Po J')) := by
  refine gMet.of (by decide) (Nat.le_of_ble_eq_true rfl) (fun X hX C hR => ?_)
  have C : gC X cX3_growSquares RX3 none 3 rm_X3_growSquares := C
  show gJ X V 0 0 0 [(0, .ref (V.2.1 99))] [] I J
  unfold wp_X3_growSquares at h
  refine j_aload_n (pc := 0) C dX3_growSquares_0 rfl 0 rfl ?_
  refine j_getR (pc := 1) C 99 5 103 (c_99 hGR).1 (c_99 hGR).2 rfl rfl (by decide) inw_X3 wd_784 dX3_growSquares_1 ?_
  refine j_lconst (pc := 4) (v := 0) C dX3_growSquares_4 (by decide) ?_
  refine j_callS (pc := 5) (As := [.ref (V.2.1 103), .long (0 : Int64)]) (st := []) C hX (m_J7_fill_d0a16  (c_103 hGR).1 (c_103 hGR).2 h) ok_J7_fill_d0a16 wd_802 wd_760 ⟨by decide, by decide⟩ rfl rfl (Nat.le_of_ble_eq_true rfl) ⟨Nat.le_refl 0, Nat.le_refl 0⟩ dX3_growSquares_5 (fun r V1 I1 J1 hp => ?_)
  obtain ⟨rfl, rfl, rfl, h⟩ := hp
  show gJ X V 0 0 8 _ [] _ _
  refine j_iconst (pc := 8) (v := 0) C dX3_growSquares_8 (by decide) ?_
  refine j_istore_n (pc := 9) (lv' := [(1, .int (0 : Int32)), (0, .ref (V.2.1 99))]) C dX3_growSquares_9 rfl (by decide) rfl ?_
  refine gJ.sub [1, 0] rfl ?_
  exact t_X3_growSquares_10 hBL hGR C hX hR   h
/-! TileRules$Growth.countSquares(I)I -/
abbrev rm_X3_countSquares : Room := { frames := 3, cells := 0, slots := 0, locals := 102 }
theorem ok_X3_countSquares : gOk yX3_countSquares cX3_countSquares 4 (some .int) 1 := ⟨wd_850, wd_83, by decide +kernel⟩
def w_X3_countSquares_25b  (Po : Int32 → gI → gL → Prop) (K25 : Int32 → Int32 → Prop) (v2 : Int32) (v3 : Int32) (I : gI) (J : gL) : Prop :=
  ((21 : Int32) ≤ v3 → Po v2 I J) ∧ (¬ (21 : Int32) ≤ v3 → vp_in v3 21 ∧ wp_J13_bitCount_95d88 (J 102 (v3).toNatClampNeg) (fun r4 => ∀ n5 : Int32, n5 = (v2 + r4) → ∀ n6 : Int32, n6 = v3 + 1 → K25 n5 n6))
def w_X3_countSquares_25  (Po : Int32 → gI → gL → Prop)  (v2 : Int32) (v3 : Int32) (I : gI) (J : gL) : Prop :=
  ∃ (Inv : Int32 → Int32 → Prop) (mu : Int32 → Int32 → Nat), Inv v2 v3 ∧ ∀ (v2 : Int32) (v3 : Int32), Inv v2 v3 → w_X3_countSquares_25b  Po  (fun u2 u3 => Inv u2 u3 ∧ mu u2 u3 < mu v2 v3) v2 v3 I J
def w_X3_countSquares_2b  (Po : Int32 → gI → gL → Prop) (K2 : Int32 → gI → gL → Prop) (v1 : Int32) (v2 : Int32) (I : gI) (J : gL) : Prop :=
  (v1 ≤ v2 → w_X3_countSquares_25 Po (0 : Int32) (0 : Int32) I J) ∧ (¬ v1 ≤ v2 → wp_X3_growSquares I J (fun J7 => wp_X3_growPairs I J7 (fun I8 J9 => ∀ n10 : Int32, n10 = v2 + 1 → K2 n10 I8 J9)))
def w_X3_countSquares_2  (Po : Int32 → gI → gL → Prop)  (v1 : Int32) (v2 : Int32) (I : gI) (J : gL) : Prop :=
  ∃ (Inv : Int32 → gI → gL → Prop) (mu : Int32 → gI → gL → Nat), Inv v2 I J ∧ ∀ (v2 : Int32) (I : gI) (J : gL), Inv v2 I J → w_X3_countSquares_2b  Po  (fun u2 I1 J1 => Inv u2 I1 J1 ∧ mu u2 I1 J1 < mu v2 I J) v1 v2 I J
def wp_X3_countSquares (a1 : Int32) (I : gI) (J : gL) (Po : Int32 → gI → gL → Prop) : Prop :=
  w_X3_countSquares_2 Po a1 (0 : Int32) I J
set_option maxRecDepth 100000 in
set_option maxHeartbeats 4000000 in
theorem t_X3_countSquares_25b {X : gX} {l : Launch} {D : va_G} {cy : Nat → ClassId} {nm : String} {V : gV} (hBL : gModBL V) (hGR : gModGR V) (C : gC X cX3_countSquares RX3 (some .int) 4 rm_X3_countSquares) (hX : gIs X l D cy nm) {I : gI} {J : gL} {Po : Int32 → gI → gL → Prop} (hR : gR X (gPi V (fun x I' J' => Po x I' J'))) {v2 : Int32} {v3 : Int32} {K25 : Int32 → Int32 → Prop} (hK25 : ∀ (y2 : Int32) (y3 : Int32), K25 y2 y3 → gJ X V 0 0 25 [(0, .ref (V.2.1 99)), (2, .int y2), (3, .int y3)] [] I J) (h : w_X3_countSquares_25b Po K25 v2 v3 I J) : gJ X V 0 0 25 [(0, .ref (V.2.1 99)), (2, .int v2), (3, .int v3)] [] I J := by
  unfold w_X3_countSquares_25b at h
  refine j_iload_n (pc := 25) C dX3_countSquares_25 rfl 2 rfl ?_
  refine j_bipush (pc := 26) (v := 21) C dX3_countSquares_26 (by decide) ?_
  refine j_icmp_ge (pc := 28) (tgt := 49) C dX3_countSquares_28 (by decide) (fun c2 => ?_) (fun c2 => ?_)
  · have h := h.1 c2
    refine j_iload_n (pc := 49) C dX3_countSquares_49 rfl 1 rfl ?_
    exact j_iret (pc := 50) C hR (Nat.zero_le _) (Nat.zero_le _) dX3_countSquares_50 ⟨_, rfl, rfl, h⟩
  · have h := h.2 c2
    refine j_iload_n (pc := 31) C dX3_countSquares_31 rfl 1 rfl ?_
    refine j_aload_n (pc := 32) C dX3_countSquares_32 rfl 0 rfl ?_
    refine j_getR (pc := 33) C 99 4 102 (c_99 hGR).1 (c_99 hGR).2 rfl rfl (by decide) inw_X3 wd_783 dX3_countSquares_33 ?_
    refine j_iload_n (pc := 36) C dX3_countSquares_36 rfl 2 rfl ?_
    obtain ⟨g3, h⟩ := h
    refine j_lald (pc := 37) C 102 (c_102 hGR).1 (c_102 hGR).2 g3 dX3_countSquares_37 ?_
    refine j_callS (pc := 38) (As := [.long (J 102 (v3).toNatClampNeg)]) (st := [.int v2]) C hX (m_J13_bitCount_95d88   h) ok_J13_bitCount_95d88 wd_876 wd_877 ⟨by decide, by decide⟩ rfl rfl (Nat.le_of_ble_eq_true rfl) ⟨Nat.le_refl 0, Nat.le_refl 0⟩ dX3_countSquares_38 (fun r V1 I1 J1 hp => ?_)
    obtain ⟨r4, rfl, rfl, rfl, rfl, h⟩ := hp
    show gJ X V 0 0 41 _ [.int r4, .int v2] _ _
    refine j_iadd (pc := 41) C dX3_countSquares_41 ?_
    refine gJ.topi (fun n5 en5 => ?_)
    have h := h n5 en5
    refine j_istore_n (pc := 42) (lv' := [(2, .int n5), (0, .ref (V.2.1 99)), (3, .int v3)]) C dX3_countSquares_42 rfl (by decide) rfl ?_
    obtain ⟨n6, en6⟩ : ∃ z : Int32, z = v3 + 1 := ⟨_, rfl⟩
    have h := h n6 en6
    refine j_iinc (pc := 43) (v := n6) (lv' := [(3, .int n6), (2, .int n5), (0, .ref (V.2.1 99))]) C dX3_countSquares_43 2 rfl (by rw [en6]; rfl) (by decide) rfl ?_
    refine j_goto (pc := 46) (tgt := 25) C dX3_countSquares_46 (by decide) ?_
    refine gJ.sub [2, 1, 0] rfl ?_
    exact hK25 _ _ h
set_option maxRecDepth 100000 in
set_option maxHeartbeats 4000000 in
theorem t_X3_countSquares_25 {X : gX} {l : Launch} {D : va_G} {cy : Nat → ClassId} {nm : String} {V : gV} (hBL : gModBL V) (hGR : gModGR V) (C : gC X cX3_countSquares RX3 (some .int) 4 rm_X3_countSquares) (hX : gIs X l D cy nm) {I : gI} {J : gL} {Po : Int32 → gI → gL → Prop} (hR : gR X (gPi V (fun x I' J' => Po x I' J'))) {v2 : Int32} {v3 : Int32} (h : w_X3_countSquares_25 Po v2 v3 I J) : gJ X V 0 0 25 [(0, .ref (V.2.1 99)), (2, .int v2), (3, .int v3)] [] I J := by
  unfold w_X3_countSquares_25 at h
  obtain ⟨Inv, mu, h0, hs⟩ := h
  have key : ∀ (n : Nat) (v2 : Int32) (v3 : Int32), Inv v2 v3 → mu v2 v3 < n → gJ X V 0 0 25 [(0, .ref (V.2.1 99)), (2, .int v2), (3, .int v3)] [] I J := by
    intro n
    induction n with
    | zero => intro v2 v3 hi hn; exact absurd hn (Nat.not_lt_zero _)
    | succ n ih =>
      intro v2 v3 hi hn
      exact t_X3_countSquares_25b hBL hGR C hX hR   (fun u2 u3 hk => ih u2 u3 hk.1 (Nat.lt_of_lt_of_le hk.2 (Nat.le_of_lt_succ hn))) (hs v2 v3 hi)
  exact key _ v2 v3 h0 (Nat.lt_succ_self _)
set_option maxRecDepth 100000 in
set_option maxHeartbeats 4000000 in
theorem t_X3_countSquares_2b {X : gX} {l : Launch} {D : va_G} {cy : Nat → ClassId} {nm : String} {V : gV} (hBL : gModBL V) (hGR : gModGR V) (C : gC X cX3_countSquares RX3 (some .int) 4 rm_X3_countSquares) (hX : gIs X l D cy nm) {I : gI} {J : gL} {Po : Int32 → gI → gL → Prop} (hR : gR X (gPi V (fun x I' J' => Po x I' J'))) {v1 : Int32} {v2 : Int32} {K2 : Int32 → gI → gL → Prop} (hK2 : ∀ (y2 : Int32) (I1 : gI) (J1 : gL), K2 y2 I1 J1 → gJ X V 0 0 2 [(0, .ref (V.2.1 99)), (1, .int v1), (2, .int y2)] [] I1 J1) (h : w_X3_countSquares_2b Po K2 v1 v2 I J) : gJ X V 0 0 2 [(0, .ref (V.2.1 99)), (1, .int v1), (2, .int v2)] [] I J := by
  unfold w_X3_countSquares_2b at h
  refine j_iload_n (pc := 2) C dX3_countSquares_2 rfl 2 rfl ?_
  refine j_iload_n (pc := 3) C dX3_countSquares_3 rfl 1 rfl ?_
  refine j_icmp_ge (pc := 4) (tgt := 21) C dX3_countSquares_4 (by decide) (fun c1 => ?_) (fun c1 => ?_)
  · have h := h.1 c1
    refine j_iconst (pc := 21) (v := 0) C dX3_countSquares_21 (by decide) ?_
    refine j_istore_n (pc := 22) (lv' := [(2, .int (0 : Int32)), (0, .ref (V.2.1 99)), (1, .int v1)]) C dX3_countSquares_22 rfl (by decide) rfl ?_
    refine j_iconst (pc := 23) (v := 0) C dX3_countSquares_23 (by decide) ?_
    refine j_istore_n (pc := 24) (lv' := [(3, .int (0 : Int32)), (2, .int (0 : Int32)), (0, .ref (V.2.1 99)), (1, .int v1)]) C dX3_countSquares_24 rfl (by decide) rfl ?_
    refine gJ.sub [2, 1, 0] rfl ?_
    exact t_X3_countSquares_25 hBL hGR C hX hR   h
  · have h := h.2 c1
    refine j_aload_n (pc := 7) C dX3_countSquares_7 rfl 0 rfl ?_
    refine j_callV (pc := 8) (As := []) (st := []) C hX 99 (m_X3_growSquares hBL hGR  h) (c_99 hGR).1 (c_99 hGR).2 rfl ok_X3_growSquares wd_851 wd_853 wd_32 ⟨by decide, by decide⟩ rfl rfl (Nat.le_of_ble_eq_true rfl) ⟨Nat.le_refl 0, Nat.le_refl 0⟩ dX3_countSquares_8 (fun r V1 I1 J7 hp => ?_)
    obtain ⟨rfl, rfl, rfl, h⟩ := hp
    show gJ X V 0 0 11 _ [] _ _
    refine j_aload_n (pc := 11) C dX3_countSquares_11 rfl 0 rfl ?_
    refine j_callV (pc := 12) (As := []) (st := []) C hX 99 (m_X3_growPairs hBL hGR  h) (c_99 hGR).1 (c_99 hGR).2 rfl ok_X3_growPairs wd_807 wd_809 wd_27 ⟨by decide, by decide⟩ rfl rfl (Nat.le_of_ble_eq_true rfl) ⟨Nat.le_refl 0, Nat.le_refl 0⟩ dX3_countSquares_12 (fun r V1 I8 J9 hp => ?_)
    obtain ⟨rfl, rfl, h⟩ := hp
    show gJ X V 0 0 15 _ [] _ _
    obtain ⟨n10, en10⟩ : ∃ z : Int32, z = v2 + 1 := ⟨_, rfl⟩
    have h := h n10 en10
    refine j_iinc (pc := 15) (v := n10) (lv' := [(2, .int n10), (0, .ref (V.2.1 99)), (1, .int v1)]) C dX3_countSquares_15 2 rfl (by rw [en10]; rfl) (by decide) rfl ?_
    refine j_goto (pc := 18) (tgt := 2) C dX3_countSquares_18 (by decide) ?_
    refine gJ.sub [1, 2, 0] rfl ?_
    exact hK2 _ _ _ h
set_option maxRecDepth 100000 in
set_option maxHeartbeats 4000000 in
theorem t_X3_countSquares_2 {X : gX} {l : Launch} {D : va_G} {cy : Nat → ClassId} {nm : String} {V : gV} (hBL : gModBL V) (hGR : gModGR V) (C : gC X cX3_countSquares RX3 (some .int) 4 rm_X3_countSquares) (hX : gIs X l D cy nm) {I : gI} {J : gL} {Po : Int32 → gI → gL → Prop} (hR : gR X (gPi V (fun x I' J' => Po x I' J'))) {v1 : Int32} {v2 : Int32} (h : w_X3_countSquares_2 Po v1 v2 I J) : gJ X V 0 0 2 [(0, .ref (V.2.1 99)), (1, .int v1), (2, .int v2)] [] I J := by
  unfold w_X3_countSquares_2 at h
  obtain ⟨Inv, mu, h0, hs⟩ := h
  have key : ∀ (n : Nat) (v2 : Int32) (I : gI) (J : gL), Inv v2 I J → mu v2 I J < n → gJ X V 0 0 2 [(0, .ref (V.2.1 99)), (1, .int v1), (2, .int v2)] [] I J := by
    intro n
    induction n with
    | zero => intro v2 I J hi hn; exact absurd hn (Nat.not_lt_zero _)
    | succ n ih =>
      intro v2 I J hi hn
      exact t_X3_countSquares_2b hBL hGR C hX hR   (fun u2 I1 J1 hk => ih u2 I1 J1 hk.1 (Nat.lt_of_lt_of_le hk.2 (Nat.le_of_lt_succ hn))) (hs v2 I J hi)
  exact key _ v2 I J h0 (Nat.lt_succ_self _)
set_option maxRecDepth 100000 in
set_option maxHeartbeats 4000000 in
theorem m_X3_countSquares {l : Launch} {D : va_G} {cy : Nat → ClassId} {V : gV} (hBL : gModBL V) (hGR : gModGR V) {a1 : Int32} {I : gI} {J : gL} {Po : Int32 → gI → gL → Prop} (h : wp_X3_countSquares a1 I J Po) : gMet l D cy yX3_countSquares cX3_countSquares 4 (some .int) rm_X3_countSquares V [.ref (V.2.1 99), .int a1] I J (gPi V (fun x I' J' => Po x I' J')) := by
  refine gMet.of (by decide) (Nat.le_of_ble_eq_true rfl) (fun X hX C hR => ?_)
  have C : gC X cX3_countSquares RX3 (some .int) 4 rm_X3_countSquares := C
  show gJ X V 0 0 0 [(0, .ref (V.2.1 99)), (1, .int a1)] [] I J
  unfold wp_X3_countSquares at h
  refine j_iconst (pc := 0) (v := 0) C dX3_countSquares_0 (by decide) ?_
  refine j_istore_n (pc := 1) (lv' := [(2, .int (0 : Int32)), (0, .ref (V.2.1 99)), (1, .int a1)]) C dX3_countSquares_1 rfl (by decide) rfl ?_
  refine gJ.sub [1, 2, 0] rfl ?_
  exact t_X3_countSquares_2 hBL hGR C hX hR   h
/-! TileRules$RowGraph.roomFor(I)I -/
abbrev rm_X5_roomFor : Room := { frames := 0, cells := 0, slots := 0, locals := 0 }
theorem ok_X5_roomFor : gOk yX5_roomFor cX5_roomFor 2 (some .int) 1 := ⟨wd_319, wd_75, by decide +kernel⟩
def w_X5_roomFor_3b  (Po : Int32 → Prop) (K3 : Int32 → Prop) (v0 : Int32) (v1 : Int32) : Prop :=
  (v0 ≤ v1 → Po v1) ∧ (¬ v0 ≤ v1 → ((4096 : Int32) ≤ v1 → Po v1) ∧ (¬ (4096 : Int32) ≤ v1 → ∀ n3 : Int32, n3 = (v1 * (2 : Int32)) → K3 n3))
def w_X5_roomFor_3  (Po : Int32 → Prop)  (v0 : Int32) (v1 : Int32) : Prop :=
  ∃ (Inv : Int32 → Prop) (mu : Int32 → Nat), Inv v1 ∧ ∀ (v1 : Int32), Inv v1 → w_X5_roomFor_3b  Po  (fun u1 => Inv u1 ∧ mu u1 < mu v1) v0 v1
def wp_X5_roomFor (a0 : Int32) (Po : Int32 → Prop) : Prop :=
  w_X5_roomFor_3 Po a0 (64 : Int32)
set_option maxRecDepth 100000 in
set_option maxHeartbeats 4000000 in
theorem t_X5_roomFor_3b {X : gX} {l : Launch} {D : va_G} {cy : Nat → ClassId} {nm : String} {V : gV} (C : gC X cX5_roomFor RX5 (some .int) 2 rm_X5_roomFor) (hX : gIs X l D cy nm) {I : gI} {J : gL} {Po : Int32 → Prop} (hR : gR X (gPi V (fun x I' J' => I = I' ∧ J = J' ∧ Po x))) {v0 : Int32} {v1 : Int32} {K3 : Int32 → Prop} (hK3 : ∀ (y1 : Int32), K3 y1 → gJ X V 0 0 3 [(0, .int v0), (1, .int y1)] [] I J) (h : w_X5_roomFor_3b Po K3 v0 v1) : gJ X V 0 0 3 [(0, .int v0), (1, .int v1)] [] I J := by
  unfold w_X5_roomFor_3b at h
  refine j_iload_n (pc := 3) C dX5_roomFor_3 rfl 1 rfl ?_
  refine j_iload_n (pc := 4) C dX5_roomFor_4 rfl 0 rfl ?_
  refine j_icmp_ge (pc := 5) (tgt := 22) C dX5_roomFor_5 (by decide) (fun c1 => ?_) (fun c1 => ?_)
  · have h := h.1 c1
    refine j_iload_n (pc := 22) C dX5_roomFor_22 rfl 1 rfl ?_
    exact j_iret (pc := 23) C hR (Nat.zero_le _) (Nat.zero_le _) dX5_roomFor_23 ⟨_, rfl, rfl, rfl, rfl, h⟩
  · have h := h.2 c1
    refine j_iload_n (pc := 8) C dX5_roomFor_8 rfl 1 rfl ?_
    refine j_sipush (pc := 9) (v := 4096) C dX5_roomFor_9 (by decide) ?_
    refine j_icmp_ge (pc := 12) (tgt := 22) C dX5_roomFor_12 (by decide) (fun c2 => ?_) (fun c2 => ?_)
    · have h := h.1 c2
      refine j_iload_n (pc := 22) C dX5_roomFor_22 rfl 1 rfl ?_
      exact j_iret (pc := 23) C hR (Nat.zero_le _) (Nat.zero_le _) dX5_roomFor_23 ⟨_, rfl, rfl, rfl, rfl, h⟩
    · have h := h.2 c2
      refine j_iload_n (pc := 15) C dX5_roomFor_15 rfl 1 rfl ?_
      refine j_iconst (pc := 16) (v := 2) C dX5_roomFor_16 (by decide) ?_
      refine j_imul (pc := 17) C dX5_roomFor_17 ?_
      refine gJ.topi (fun n3 en3 => ?_)
      have h := h n3 en3
      refine j_istore_n (pc := 18) (lv' := [(1, .int n3), (0, .int v0)]) C dX5_roomFor_18 rfl (by decide) rfl ?_
      refine j_goto (pc := 19) (tgt := 3) C dX5_roomFor_19 (by decide) ?_
      refine gJ.sub [1, 0] rfl ?_
      exact hK3 _ h
set_option maxRecDepth 100000 in
set_option maxHeartbeats 4000000 in
theorem t_X5_roomFor_3 {X : gX} {l : Launch} {D : va_G} {cy : Nat → ClassId} {nm : String} {V : gV} (C : gC X cX5_roomFor RX5 (some .int) 2 rm_X5_roomFor) (hX : gIs X l D cy nm) {I : gI} {J : gL} {Po : Int32 → Prop} (hR : gR X (gPi V (fun x I' J' => I = I' ∧ J = J' ∧ Po x))) {v0 : Int32} {v1 : Int32} (h : w_X5_roomFor_3 Po v0 v1) : gJ X V 0 0 3 [(0, .int v0), (1, .int v1)] [] I J := by
  unfold w_X5_roomFor_3 at h
  obtain ⟨Inv, mu, h0, hs⟩ := h
  have key : ∀ (n : Nat) (v1 : Int32), Inv v1 → mu v1 < n → gJ X V 0 0 3 [(0, .int v0), (1, .int v1)] [] I J := by
    intro n
    induction n with
    | zero => intro v1 hi hn; exact absurd hn (Nat.not_lt_zero _)
    | succ n ih =>
      intro v1 hi hn
      exact t_X5_roomFor_3b  C hX hR   (fun u1 hk => ih u1 hk.1 (Nat.lt_of_lt_of_le hk.2 (Nat.le_of_lt_succ hn))) (hs v1 hi)
  exact key _ v1 h0 (Nat.lt_succ_self _)
set_option maxRecDepth 100000 in
set_option maxHeartbeats 4000000 in
theorem m_X5_roomFor {l : Launch} {D : va_G} {cy : Nat → ClassId} {V : gV} {a0 : Int32} {I : gI} {J : gL} {Po : Int32 → Prop} (h : wp_X5_roomFor a0 Po) : gMet l D cy yX5_roomFor cX5_roomFor 2 (some .int) rm_X5_roomFor V [.int a0] I J (gPi V (fun x I' J' => I = I' ∧ J = J' ∧ Po x)) := by
  refine gMet.of (by decide) (Nat.le_of_ble_eq_true rfl) (fun X hX C hR => ?_)
  have C : gC X cX5_roomFor RX5 (some .int) 2 rm_X5_roomFor := C
  show gJ X V 0 0 0 [(0, .int a0)] [] I J
  unfold wp_X5_roomFor at h
  refine j_bipush (pc := 0) (v := 64) C dX5_roomFor_0 (by decide) ?_
  refine j_istore_n (pc := 2) (lv' := [(1, .int (64 : Int32)), (0, .int a0)]) C dX5_roomFor_2 rfl (by decide) rfl ?_
  refine gJ.sub [1, 0] rfl ?_
  exact t_X5_roomFor_3  C hX hR   h
/-! TileRules$RowGraph.fitsInRow(IIII)Z -/
abbrev rm_X5_fitsInRow : Room := { frames := 0, cells := 0, slots := 0, locals := 0 }
theorem ok_X5_fitsInRow : gOk yX5_fitsInRow cX5_fitsInRow 6 (some .boolean) 4 := ⟨wd_424, wd_75, by decide +kernel⟩
def w_X5_fitsInRow_30 (room : Nat) (Po : Int32 → Prop)  (v1 : Int32) (v2 : Int32) (v4 : Int32) (I : gI) : Prop :=
  ((I 70 10) = 0 → Po (1 : Int32)) ∧ (¬ (I 70 10) = 0 → ((I 70 9) ≤ (v2 + (1 : Int32)) → ∀ n4 : Int32, n4 = ((v4 >>> (((3 : Int32) * ((I 70 9) - (1 : Int32))) &&& 31)) &&& (7 : Int32)) → vp_in v1 8 ∧ vp_in n4 8 ∧ (¬ (I 12 (v1).toNatClampNeg) = (I 14 (n4).toNatClampNeg) → Po (0 : Int32)) ∧ ((I 12 (v1).toNatClampNeg) = (I 14 (n4).toNatClampNeg) → Po (1 : Int32))) ∧ (¬ (I 70 9) ≤ (v2 + (1 : Int32)) → Po (1 : Int32)))
def wp_X5_fitsInRow (room : Nat) (a1 : Int32) (a2 : Int32) (a3 : Int32) (a4 : Int32) (I : gI) (Po : Int32 → Prop) : Prop :=
  (a2 ≤ 0 → w_X5_fitsInRow_30 room Po a1 a2 a4 I) ∧ (¬ a2 ≤ 0 → vp_in (a3 &&& (7 : Int32)) 8 ∧ vp_in a1 8 ∧ ((I 12 ((a3 &&& (7 : Int32))).toNatClampNeg) = (I 14 (a1).toNatClampNeg) → w_X5_fitsInRow_30 room Po a1 a2 a4 I) ∧ (¬ (I 12 ((a3 &&& (7 : Int32))).toNatClampNeg) = (I 14 (a1).toNatClampNeg) → Po (0 : Int32)))
set_option maxRecDepth 100000 in
set_option maxHeartbeats 4000000 in
theorem t_X5_fitsInRow_30 {X : gX} {l : Launch} {D : va_G} {cy : Nat → ClassId} {nm : String} {V : gV} {room : Nat} (hTS : gModTS V) (hRG : gModRG room V) (C : gC X cX5_fitsInRow RX5 (some .boolean) 6 rm_X5_fitsInRow) (hX : gIs X l D cy nm) {I : gI} {J : gL} {Po : Int32 → Prop} (hR : gR X (gPi V (fun x I' J' => I = I' ∧ J = J' ∧ Po x))) {v1 : Int32} {v2 : Int32} {v4 : Int32} (h : w_X5_fitsInRow_30 room Po v1 v2 v4 I) : gJ X V 0 0 30 [(0, .ref (V.2.1 70)), (1, .int v1), (2, .int v2), (4, .int v4)] [] I J := by
  unfold w_X5_fitsInRow_30 at h
  refine j_aload_n (pc := 30) C dX5_fitsInRow_30 rfl 0 rfl ?_
  refine j_getI (pc := 31) C 70 10 (c_70 hRG).1 (c_70 hRG).2 rfl rfl (by decide) inw_X5 wd_364 dX5_fitsInRow_31 ?_
  refine j_if_eq (pc := 34) (tgt := 47) C dX5_fitsInRow_34 (by decide) (fun c2 => ?_) (fun c2 => ?_)
  · have h := h.1 c2
    refine j_iconst (pc := 47) (v := 1) C dX5_fitsInRow_47 (by decide) ?_
    exact j_zret (pc := 48) C hR (Or.inr rfl) (Nat.zero_le _) (Nat.zero_le _) dX5_fitsInRow_48 ⟨_, rfl, rfl, rfl, rfl, h⟩
  · have h := h.2 c2
    refine j_iload_n (pc := 37) C dX5_fitsInRow_37 rfl 2 rfl ?_
    refine j_iconst (pc := 38) (v := 1) C dX5_fitsInRow_38 (by decide) ?_
    refine j_iadd (pc := 39) C dX5_fitsInRow_39 ?_
    refine j_aload_n (pc := 40) C dX5_fitsInRow_40 rfl 0 rfl ?_
    refine j_getI (pc := 41) C 70 9 (c_70 hRG).1 (c_70 hRG).2 rfl rfl (by decide) inw_X5 wd_363 dX5_fitsInRow_41 ?_
    refine j_icmp_ge (pc := 44) (tgt := 49) C dX5_fitsInRow_44 (by decide) (fun c3 => ?_) (fun c3 => ?_)
    · have h := h.1 c3
      refine j_iload (pc := 49) C dX5_fitsInRow_49 3 rfl ?_
      refine j_iconst (pc := 51) (v := 3) C dX5_fitsInRow_51 (by decide) ?_
      refine j_aload_n (pc := 52) C dX5_fitsInRow_52 rfl 0 rfl ?_
      refine j_getI (pc := 53) C 70 9 (c_70 hRG).1 (c_70 hRG).2 rfl rfl (by decide) inw_X5 wd_363 dX5_fitsInRow_53 ?_
      refine j_iconst (pc := 56) (v := 1) C dX5_fitsInRow_56 (by decide) ?_
      refine j_isub (pc := 57) C dX5_fitsInRow_57 ?_
      refine j_imul (pc := 58) C dX5_fitsInRow_58 ?_
      refine j_ishr (pc := 59) C dX5_fitsInRow_59 ?_
      refine j_bipush (pc := 60) (v := 7) C dX5_fitsInRow_60 (by decide) ?_
      refine j_iand (pc := 62) C dX5_fitsInRow_62 ?_
      refine gJ.topi (fun n4 en4 => ?_)
      have h := h n4 en4
      refine j_istore (pc := 63) (lv' := [(5, .int n4), (0, .ref (V.2.1 70)), (1, .int v1), (2, .int v2), (4, .int v4)]) C dX5_fitsInRow_63 (by decide) rfl ?_
      refine j_aload_n (pc := 65) C dX5_fitsInRow_65 rfl 1 rfl ?_
      refine j_getR (pc := 66) C 70 1 10 (c_70 hRG).1 (c_70 hRG).2 rfl rfl (by decide) inw_X5 wd_355 dX5_fitsInRow_66 ?_
      refine j_getR (pc := 69) C 10 1 12 (c_10 hTS).1 (c_10 hTS).2 rfl rfl (by decide) inw_X8 wd_102 dX5_fitsInRow_69 ?_
      refine j_iload_n (pc := 72) C dX5_fitsInRow_72 rfl 2 rfl ?_
      obtain ⟨g5, h⟩ := h
      refine j_iald (pc := 73) C 12 (c_12 hTS).1 (c_12 hTS).2 g5 dX5_fitsInRow_73 ?_
      refine j_aload_n (pc := 74) C dX5_fitsInRow_74 rfl 1 rfl ?_
      refine j_getR (pc := 75) C 70 1 10 (c_70 hRG).1 (c_70 hRG).2 rfl rfl (by decide) inw_X5 wd_355 dX5_fitsInRow_75 ?_
      refine j_getR (pc := 78) C 10 3 14 (c_10 hTS).1 (c_10 hTS).2 rfl rfl (by decide) inw_X8 wd_106 dX5_fitsInRow_78 ?_
      refine j_iload (pc := 81) C dX5_fitsInRow_81 0 rfl ?_
      obtain ⟨g6, h⟩ := h
      refine j_iald (pc := 83) C 14 (c_14 hTS).1 (c_14 hTS).2 g6 dX5_fitsInRow_83 ?_
      refine j_icmp_ne (pc := 84) (tgt := 91) C dX5_fitsInRow_84 (by decide) (fun c7 => ?_) (fun c7 => ?_)
      · have h := h.1 c7
        refine j_iconst (pc := 91) (v := 0) C dX5_fitsInRow_91 (by decide) ?_
        exact j_zret (pc := 92) C hR (Or.inl rfl) (Nat.zero_le _) (Nat.zero_le _) dX5_fitsInRow_92 ⟨_, rfl, rfl, rfl, rfl, h⟩
      · have h := h.2 c7
        refine j_iconst (pc := 87) (v := 1) C dX5_fitsInRow_87 (by decide) ?_
        refine j_goto (pc := 88) (tgt := 92) C dX5_fitsInRow_88 (by decide) ?_
        exact j_zret (pc := 92) C hR (Or.inr rfl) (Nat.zero_le _) (Nat.zero_le _) dX5_fitsInRow_92 ⟨_, rfl, rfl, rfl, rfl, h⟩
    · have h := h.2 c3
      refine j_iconst (pc := 47) (v := 1) C dX5_fitsInRow_47 (by decide) ?_
      exact j_zret (pc := 48) C hR (Or.inr rfl) (Nat.zero_le _) (Nat.zero_le _) dX5_fitsInRow_48 ⟨_, rfl, rfl, rfl, rfl, h⟩
set_option maxRecDepth 100000 in
set_option maxHeartbeats 4000000 in
theorem m_X5_fitsInRow {l : Launch} {D : va_G} {cy : Nat → ClassId} {V : gV} {room : Nat} (hTS : gModTS V) (hRG : gModRG room V) {a1 : Int32} {a2 : Int32} {a3 : Int32} {a4 : Int32} {I : gI} {J : gL} {Po : Int32 → Prop} (h : wp_X5_fitsInRow room a1 a2 a3 a4 I Po) : gMet l D cy yX5_fitsInRow cX5_fitsInRow 6 (some .boolean) rm_X5_fitsInRow V [.ref (V.2.1 70), .int a1, .int a2, .int a3, .int a4] I J (gPi V (fun x I' J' => I = I' ∧ J = J' ∧ Po x)) := by
  refine gMet.of (by decide) (Nat.le_of_ble_eq_true rfl) (fun X hX C hR => ?_)
  have C : gC X cX5_fitsInRow RX5 (some .boolean) 6 rm_X5_fitsInRow := C
  show gJ X V 0 0 0 [(0, .ref (V.2.1 70)), (1, .int a1), (2, .int a2), (3, .int a3), (4, .int a4)] [] I J
  unfold wp_X5_fitsInRow at h
  refine j_iload_n (pc := 0) C dX5_fitsInRow_0 rfl 2 rfl ?_
  refine j_if_le (pc := 1) (tgt := 30) C dX5_fitsInRow_1 (by decide) (fun c1 => ?_) (fun c1 => ?_)
  · have h := h.1 c1
    refine gJ.sub [0, 1, 2, 4] rfl ?_
    exact t_X5_fitsInRow_30 hTS hRG C hX hR   h
  · have h := h.2 c1
    refine j_aload_n (pc := 4) C dX5_fitsInRow_4 rfl 0 rfl ?_
    refine j_getR (pc := 5) C 70 1 10 (c_70 hRG).1 (c_70 hRG).2 rfl rfl (by decide) inw_X5 wd_355 dX5_fitsInRow_5 ?_
    refine j_getR (pc := 8) C 10 1 12 (c_10 hTS).1 (c_10 hTS).2 rfl rfl (by decide) inw_X8 wd_102 dX5_fitsInRow_8 ?_
    refine j_iload_n (pc := 11) C dX5_fitsInRow_11 rfl 3 rfl ?_
    refine j_bipush (pc := 12) (v := 7) C dX5_fitsInRow_12 (by decide) ?_
    refine j_iand (pc := 14) C dX5_fitsInRow_14 ?_
    obtain ⟨g8, h⟩ := h
    refine j_iald (pc := 15) C 12 (c_12 hTS).1 (c_12 hTS).2 g8 dX5_fitsInRow_15 ?_
    refine j_aload_n (pc := 16) C dX5_fitsInRow_16 rfl 0 rfl ?_
    refine j_getR (pc := 17) C 70 1 10 (c_70 hRG).1 (c_70 hRG).2 rfl rfl (by decide) inw_X5 wd_355 dX5_fitsInRow_17 ?_
    refine j_getR (pc := 20) C 10 3 14 (c_10 hTS).1 (c_10 hTS).2 rfl rfl (by decide) inw_X8 wd_106 dX5_fitsInRow_20 ?_
    refine j_iload_n (pc := 23) C dX5_fitsInRow_23 rfl 1 rfl ?_
    obtain ⟨g9, h⟩ := h
    refine j_iald (pc := 24) C 14 (c_14 hTS).1 (c_14 hTS).2 g9 dX5_fitsInRow_24 ?_
    refine j_icmp_eq (pc := 25) (tgt := 30) C dX5_fitsInRow_25 (by decide) (fun c10 => ?_) (fun c10 => ?_)
    · have h := h.1 c10
      refine gJ.sub [0, 1, 2, 4] rfl ?_
      exact t_X5_fitsInRow_30 hTS hRG C hX hR   h
    · have h := h.2 c10
      refine j_iconst (pc := 28) (v := 0) C dX5_fitsInRow_28 (by decide) ?_
      exact j_zret (pc := 29) C hR (Or.inl rfl) (Nat.zero_le _) (Nat.zero_le _) dX5_fitsInRow_29 ⟨_, rfl, rfl, rfl, rfl, h⟩
/-! TileRules$RowGraph.addRowsWith(IIIII)V -/
abbrev rm_X5_addRowsWith (f0 l0 : Nat) : Room := { frames := f0 + 1, cells := 0, slots := 0, locals := l0 + 25 }
theorem ok_X5_addRows : gOk yX5_addRows cX5_addRows 6 none 4 := ⟨wd_412, wd_75, by decide +kernel⟩
theorem ok_X5_addRowsWith : gOk yX5_addRowsWith cX5_addRowsWith 11 none 5 := ⟨wd_420, wd_75, by decide +kernel⟩
def w_X5_addRowsWith_85 (rc : Int32 → Int32 → Int32 → Int32 → gI → (gI → Prop) → Prop) (room : Nat) (Po : gI → Prop)  (v1 : Int32) (v2 : Int32) (v5 : Int32) (v6 : Int32) (s0 : Int32) (I : gI) : Prop :=
  vp_in v1 8 ∧ vp_in (I 13 (v1).toNatClampNeg) 10 ∧ ∀ n12 : Int32, n12 = ((v5 * (I 70 11)) + (I 71 ((I 13 (v1).toNatClampNeg)).toNatClampNeg)) → rc (v2 + (1 : Int32)) v6 s0 n12 I (fun I13 => Po I13)
def w_X5_addRowsWith_66 (rc : Int32 → Int32 → Int32 → Int32 → gI → (gI → Prop) → Prop) (room : Nat) (Po : gI → Prop)  (v1 : Int32) (v2 : Int32) (v4 : Int32) (v5 : Int32) (v6 : Int32) (v7 : Int32) (v8 : Int32) (I : gI) : Prop :=
  (v8 = 0 → w_X5_addRowsWith_85 rc room Po v1 v2 v5 v6 ((v4 * (I 70 11)) + v7) I) ∧ (¬ v8 = 0 → w_X5_addRowsWith_85 rc room Po v1 v2 v5 v6 (-1 : Int32) I)
def w_X5_addRowsWith_40 (rc : Int32 → Int32 → Int32 → Int32 → gI → (gI → Prop) → Prop) (room : Nat) (Po : gI → Prop)  (v1 : Int32) (v2 : Int32) (v3 : Int32) (v4 : Int32) (v5 : Int32) (v6 : Int32) (v7 : Int32) (s0 : Int32) (I : gI) : Prop :=
  wp_X5_fitsInRow room v1 v2 v3 v6 I (fun r6 => (r6 = 0 → Po I) ∧ (¬ r6 = 0 → ((I 70 10) = 0 → w_X5_addRowsWith_66 rc room Po v1 v2 v4 v5 v6 v7 s0 I) ∧ (¬ (I 70 10) = 0 → (¬ s0 = 0 → Po I) ∧ (s0 = 0 → w_X5_addRowsWith_66 rc room Po v1 v2 v4 v5 v6 v7 s0 I))))
def w_X5_addRowsWith_35 (rc : Int32 → Int32 → Int32 → Int32 → gI → (gI → Prop) → Prop) (room : Nat) (Po : gI → Prop)  (v1 : Int32) (v2 : Int32) (v3 : Int32) (v4 : Int32) (v5 : Int32) (v6 : Int32) (v7 : Int32) (I : gI) : Prop :=
  w_X5_addRowsWith_40 rc room Po v1 v2 v3 v4 v5 v6 v7 (1 : Int32) I
def wp_X5_addRowsWith (rc : Int32 → Int32 → Int32 → Int32 → gI → (gI → Prop) → Prop) (room : Nat) (a1 : Int32) (a2 : Int32) (a3 : Int32) (a4 : Int32) (a5 : Int32) (I : gI) (Po : gI → Prop) : Prop :=
  ∀ n1 : Int32, n1 = ((a3 <<< ((3 : Int32) &&& 31)) ||| a1) → vp_in a1 8 ∧ vp_in (I 11 (a1).toNatClampNeg) 10 ∧ ∀ n4 : Int32, n4 = (I 71 ((I 11 (a1).toNatClampNeg)).toNatClampNeg) → (a4 = (-1 : Int32) → w_X5_addRowsWith_35 rc room Po a1 a2 a3 a4 a5 n1 n4 I) ∧ (¬ a4 = (-1 : Int32) → (¬ n4 = (-1 : Int32) → w_X5_addRowsWith_40 rc room Po a1 a2 a3 a4 a5 n1 n4 (0 : Int32) I) ∧ (n4 = (-1 : Int32) → w_X5_addRowsWith_35 rc room Po a1 a2 a3 a4 a5 n1 n4 I))
set_option maxRecDepth 100000 in
set_option maxHeartbeats 4000000 in
theorem t_X5_addRowsWith_85 {X : gX} {l : Launch} {D : va_G} {cy : Nat → ClassId} {nm : String} {V : gV} {rc : Int32 → Int32 → Int32 → Int32 → gI → (gI → Prop) → Prop} {room : Nat} {f0 l0 : Nat} (hTS : gModTS V) (hRG : gModRG room V) (hrc : ∀ (b0 : Int32) (b1 : Int32) (b2 : Int32) (b3 : Int32) (I0 : gI) (J0 : gL) (Q0 : gI → Prop), rc b0 b1 b2 b3 I0 Q0 → gMet l D cy yX5_addRows cX5_addRows 6 none { frames := f0, cells := 0, slots := 0, locals := l0 } V [.ref (V.2.1 70), .int b0, .int b1, .int b2, .int b3] I0 J0 (gPv V (fun I' J' => J0 = J' ∧ Q0 I'))) (C : gC X cX5_addRowsWith RX5 none 11 (rm_X5_addRowsWith f0 l0)) (hX : gIs X l D cy nm) {I : gI} {J : gL} {Po : gI → Prop} (hR : gR X (gPv V (fun I' J' => J = J' ∧ Po I'))) {v1 : Int32} {v2 : Int32} {v5 : Int32} {v6 : Int32} {s0 : Int32} (h : w_X5_addRowsWith_85 rc room Po v1 v2 v5 v6 s0 I) : gJ X V 0 0 85 [(0, .ref (V.2.1 70)), (1, .int v1), (2, .int v2), (5, .int v5), (6, .int v6)] [.int s0] I J := by
  unfold w_X5_addRowsWith_85 at h
  refine j_istore (pc := 85) (lv' := [(9, .int s0), (0, .ref (V.2.1 70)), (1, .int v1), (2, .int v2), (5, .int v5), (6, .int v6)]) C dX5_addRowsWith_85 (by decide) rfl ?_
  refine j_iload (pc := 87) C dX5_addRowsWith_87 4 rfl ?_
  refine j_aload_n (pc := 89) C dX5_addRowsWith_89 rfl 1 rfl ?_
  refine j_getI (pc := 90) C 70 11 (c_70 hRG).1 (c_70 hRG).2 rfl rfl (by decide) inw_X5 wd_365 dX5_addRowsWith_90 ?_
  refine j_imul (pc := 93) C dX5_addRowsWith_93 ?_
  refine j_aload_n (pc := 94) C dX5_addRowsWith_94 rfl 1 rfl ?_
  refine j_getR (pc := 95) C 70 2 71 (c_70 hRG).1 (c_70 hRG).2 rfl rfl (by decide) inw_X5 wd_356 dX5_addRowsWith_95 ?_
  refine j_aload_n (pc := 98) C dX5_addRowsWith_98 rfl 1 rfl ?_
  refine j_getR (pc := 99) C 70 1 10 (c_70 hRG).1 (c_70 hRG).2 rfl rfl (by decide) inw_X5 wd_355 dX5_addRowsWith_99 ?_
  refine j_getR (pc := 102) C 10 2 13 (c_10 hTS).1 (c_10 hTS).2 rfl rfl (by decide) inw_X8 wd_104 dX5_addRowsWith_102 ?_
  refine j_iload_n (pc := 105) C dX5_addRowsWith_105 rfl 2 rfl ?_
  obtain ⟨g10, h⟩ := h
  refine j_iald (pc := 106) C 13 (c_13 hTS).1 (c_13 hTS).2 g10 dX5_addRowsWith_106 ?_
  obtain ⟨g11, h⟩ := h
  refine j_iald (pc := 107) C 71 (c_71 hRG).1 (c_71 hRG).2 g11 dX5_addRowsWith_107 ?_
  refine j_iadd (pc := 108) C dX5_addRowsWith_108 ?_
  refine gJ.topi (fun n12 en12 => ?_)
  have h := h n12 en12
  refine j_istore (pc := 109) (lv' := [(10, .int n12), (9, .int s0), (0, .ref (V.2.1 70)), (1, .int v1), (2, .int v2), (5, .int v5), (6, .int v6)]) C dX5_addRowsWith_109 (by decide) rfl ?_
  refine j_aload_n (pc := 111) C dX5_addRowsWith_111 rfl 2 rfl ?_
  refine j_iload_n (pc := 112) C dX5_addRowsWith_112 rfl 4 rfl ?_
  refine j_iconst (pc := 113) (v := 1) C dX5_addRowsWith_113 (by decide) ?_
  refine j_iadd (pc := 114) C dX5_addRowsWith_114 ?_
  refine j_iload (pc := 115) C dX5_addRowsWith_115 6 rfl ?_
  refine j_iload (pc := 117) C dX5_addRowsWith_117 1 rfl ?_
  refine j_iload (pc := 119) C dX5_addRowsWith_119 0 rfl ?_
  refine j_callV (pc := 121) (As := [.int (v2 + (1 : Int32)), .int v6, .int s0, .int n12]) (st := []) C hX 70 (hrc _ _ _ _ _ _ _ h) (c_70 hRG).1 (c_70 hRG).2 rfl ok_X5_addRows wd_409 wd_411 wd_2 ⟨show f0 + 1 ≤ f0 + 1 by omega, show 8 + (6 + 11) + (l0) ≤ l0 + 25 by omega⟩ rfl rfl (Nat.le_of_ble_eq_true rfl) ⟨Nat.le_refl 0, Nat.le_refl 0⟩ dX5_addRowsWith_121 (fun r V1 I13 J1 hp => ?_)
  obtain ⟨rfl, rfl, rfl, h⟩ := hp
  show gJ X V 0 0 124 _ [] _ _
  exact j_vret (pc := 124) C hR (Nat.zero_le _) (Nat.zero_le _) dX5_addRowsWith_124 ⟨rfl, rfl, rfl, h⟩
set_option maxRecDepth 100000 in
set_option maxHeartbeats 4000000 in
theorem t_X5_addRowsWith_66 {X : gX} {l : Launch} {D : va_G} {cy : Nat → ClassId} {nm : String} {V : gV} {rc : Int32 → Int32 → Int32 → Int32 → gI → (gI → Prop) → Prop} {room : Nat} {f0 l0 : Nat} (hTS : gModTS V) (hRG : gModRG room V) (hrc : ∀ (b0 : Int32) (b1 : Int32) (b2 : Int32) (b3 : Int32) (I0 : gI) (J0 : gL) (Q0 : gI → Prop), rc b0 b1 b2 b3 I0 Q0 → gMet l D cy yX5_addRows cX5_addRows 6 none { frames := f0, cells := 0, slots := 0, locals := l0 } V [.ref (V.2.1 70), .int b0, .int b1, .int b2, .int b3] I0 J0 (gPv V (fun I' J' => J0 = J' ∧ Q0 I'))) (C : gC X cX5_addRowsWith RX5 none 11 (rm_X5_addRowsWith f0 l0)) (hX : gIs X l D cy nm) {I : gI} {J : gL} {Po : gI → Prop} (hR : gR X (gPv V (fun I' J' => J = J' ∧ Po I'))) {v1 : Int32} {v2 : Int32} {v4 : Int32} {v5 : Int32} {v6 : Int32} {v7 : Int32} {v8 : Int32} (h : w_X5_addRowsWith_66 rc room Po v1 v2 v4 v5 v6 v7 v8 I) : gJ X V 0 0 66 [(0, .ref (V.2.1 70)), (1, .int v1), (2, .int v2), (4, .int v4), (5, .int v5), (6, .int v6), (7, .int v7), (8, .int v8)] [] I J := by
  unfold w_X5_addRowsWith_66 at h
  refine j_iload (pc := 66) C dX5_addRowsWith_66 7 rfl ?_
  refine j_if_eq (pc := 68) (tgt := 75) C dX5_addRowsWith_68 (by decide) (fun c9 => ?_) (fun c9 => ?_)
  · have h := h.1 c9
    refine j_iload (pc := 75) C dX5_addRowsWith_75 3 rfl ?_
    refine j_aload_n (pc := 77) C dX5_addRowsWith_77 rfl 0 rfl ?_
    refine j_getI (pc := 78) C 70 11 (c_70 hRG).1 (c_70 hRG).2 rfl rfl (by decide) inw_X5 wd_365 dX5_addRowsWith_78 ?_
    refine j_imul (pc := 81) C dX5_addRowsWith_81 ?_
    refine j_iload (pc := 82) C dX5_addRowsWith_82 6 rfl ?_
    refine j_iadd (pc := 84) C dX5_addRowsWith_84 ?_
    refine gJ.sub [0, 1, 2, 4, 5] rfl ?_
    exact t_X5_addRowsWith_85 hTS hRG hrc C hX hR   h
  · have h := h.2 c9
    refine j_iconst (pc := 71) (v := (-1)) C dX5_addRowsWith_71 (by decide) ?_
    refine j_goto (pc := 72) (tgt := 85) C dX5_addRowsWith_72 (by decide) ?_
    refine gJ.sub [0, 1, 2, 4, 5] rfl ?_
    exact t_X5_addRowsWith_85 hTS hRG hrc C hX hR   h
set_option maxRecDepth 100000 in
set_option maxHeartbeats 4000000 in
theorem t_X5_addRowsWith_40 {X : gX} {l : Launch} {D : va_G} {cy : Nat → ClassId} {nm : String} {V : gV} {rc : Int32 → Int32 → Int32 → Int32 → gI → (gI → Prop) → Prop} {room : Nat} {f0 l0 : Nat} (hTS : gModTS V) (hRG : gModRG room V) (hrc : ∀ (b0 : Int32) (b1 : Int32) (b2 : Int32) (b3 : Int32) (I0 : gI) (J0 : gL) (Q0 : gI → Prop), rc b0 b1 b2 b3 I0 Q0 → gMet l D cy yX5_addRows cX5_addRows 6 none { frames := f0, cells := 0, slots := 0, locals := l0 } V [.ref (V.2.1 70), .int b0, .int b1, .int b2, .int b3] I0 J0 (gPv V (fun I' J' => J0 = J' ∧ Q0 I'))) (C : gC X cX5_addRowsWith RX5 none 11 (rm_X5_addRowsWith f0 l0)) (hX : gIs X l D cy nm) {I : gI} {J : gL} {Po : gI → Prop} (hR : gR X (gPv V (fun I' J' => J = J' ∧ Po I'))) {v1 : Int32} {v2 : Int32} {v3 : Int32} {v4 : Int32} {v5 : Int32} {v6 : Int32} {v7 : Int32} {s0 : Int32} (h : w_X5_addRowsWith_40 rc room Po v1 v2 v3 v4 v5 v6 v7 s0 I) : gJ X V 0 0 40 [(0, .ref (V.2.1 70)), (1, .int v1), (2, .int v2), (3, .int v3), (4, .int v4), (5, .int v5), (6, .int v6), (7, .int v7)] [.int s0] I J := by
  unfold w_X5_addRowsWith_40 at h
  refine j_istore (pc := 40) (lv' := [(8, .int s0), (0, .ref (V.2.1 70)), (1, .int v1), (2, .int v2), (3, .int v3), (4, .int v4), (5, .int v5), (6, .int v6), (7, .int v7)]) C dX5_addRowsWith_40 (by decide) rfl ?_
  refine j_aload_n (pc := 42) C dX5_addRowsWith_42 rfl 1 rfl ?_
  refine j_iload_n (pc := 43) C dX5_addRowsWith_43 rfl 2 rfl ?_
  refine j_iload_n (pc := 44) C dX5_addRowsWith_44 rfl 3 rfl ?_
  refine j_iload_n (pc := 45) C dX5_addRowsWith_45 rfl 4 rfl ?_
  refine j_iload (pc := 46) C dX5_addRowsWith_46 7 rfl ?_
  refine j_callV (pc := 48) (As := [.int v1, .int v2, .int v3, .int v6]) (st := []) C hX 70 (m_X5_fitsInRow hTS hRG  h) (c_70 hRG).1 (c_70 hRG).2 rfl ok_X5_fitsInRow wd_421 wd_423 wd_5 ⟨show 0 + 1 ≤ f0 + 1 by omega, show 8 + (6 + 11) + (0) ≤ l0 + 25 by omega⟩ rfl rfl (Nat.le_of_ble_eq_true rfl) ⟨Nat.le_refl 0, Nat.le_refl 0⟩ dX5_addRowsWith_48 (fun r V1 I1 J1 hp => ?_)
  obtain ⟨r6, rfl, rfl, rfl, rfl, h⟩ := hp
  show gJ X V 0 0 51 _ [.int r6] _ _
  refine j_if_eq (pc := 51) (tgt := 124) C dX5_addRowsWith_51 (by decide) (fun c7 => ?_) (fun c7 => ?_)
  · have h := h.1 c7
    exact j_vret (pc := 124) C hR (Nat.zero_le _) (Nat.zero_le _) dX5_addRowsWith_124 ⟨rfl, rfl, rfl, h⟩
  · have h := h.2 c7
    refine j_aload_n (pc := 54) C dX5_addRowsWith_54 rfl 1 rfl ?_
    refine j_getI (pc := 55) C 70 10 (c_70 hRG).1 (c_70 hRG).2 rfl rfl (by decide) inw_X5 wd_364 dX5_addRowsWith_55 ?_
    refine j_if_eq (pc := 58) (tgt := 66) C dX5_addRowsWith_58 (by decide) (fun c8 => ?_) (fun c8 => ?_)
    · have h := h.1 c8
      refine gJ.sub [1, 2, 3, 5, 6, 7, 8, 0] rfl ?_
      exact t_X5_addRowsWith_66 hTS hRG hrc C hX hR   h
    · have h := h.2 c8
      refine j_iload (pc := 61) C dX5_addRowsWith_61 0 rfl ?_
      refine j_if_ne (pc := 63) (tgt := 124) C dX5_addRowsWith_63 (by decide) (fun c14 => ?_) (fun c14 => ?_)
      · have h := h.1 c14
        exact j_vret (pc := 124) C hR (Nat.zero_le _) (Nat.zero_le _) dX5_addRowsWith_124 ⟨rfl, rfl, rfl, h⟩
      · have h := h.2 c14
        refine gJ.sub [1, 2, 3, 5, 6, 7, 8, 0] rfl ?_
        exact t_X5_addRowsWith_66 hTS hRG hrc C hX hR   h
set_option maxRecDepth 100000 in
set_option maxHeartbeats 4000000 in
theorem t_X5_addRowsWith_35 {X : gX} {l : Launch} {D : va_G} {cy : Nat → ClassId} {nm : String} {V : gV} {rc : Int32 → Int32 → Int32 → Int32 → gI → (gI → Prop) → Prop} {room : Nat} {f0 l0 : Nat} (hTS : gModTS V) (hRG : gModRG room V) (hrc : ∀ (b0 : Int32) (b1 : Int32) (b2 : Int32) (b3 : Int32) (I0 : gI) (J0 : gL) (Q0 : gI → Prop), rc b0 b1 b2 b3 I0 Q0 → gMet l D cy yX5_addRows cX5_addRows 6 none { frames := f0, cells := 0, slots := 0, locals := l0 } V [.ref (V.2.1 70), .int b0, .int b1, .int b2, .int b3] I0 J0 (gPv V (fun I' J' => J0 = J' ∧ Q0 I'))) (C : gC X cX5_addRowsWith RX5 none 11 (rm_X5_addRowsWith f0 l0)) (hX : gIs X l D cy nm) {I : gI} {J : gL} {Po : gI → Prop} (hR : gR X (gPv V (fun I' J' => J = J' ∧ Po I'))) {v1 : Int32} {v2 : Int32} {v3 : Int32} {v4 : Int32} {v5 : Int32} {v6 : Int32} {v7 : Int32} (h : w_X5_addRowsWith_35 rc room Po v1 v2 v3 v4 v5 v6 v7 I) : gJ X V 0 0 35 [(0, .ref (V.2.1 70)), (1, .int v1), (2, .int v2), (3, .int v3), (4, .int v4), (5, .int v5), (6, .int v6), (7, .int v7)] [] I J := by
  unfold w_X5_addRowsWith_35 at h
  refine j_iconst (pc := 35) (v := 1) C dX5_addRowsWith_35 (by decide) ?_
  refine j_goto (pc := 36) (tgt := 40) C dX5_addRowsWith_36 (by decide) ?_
  refine gJ.sub [0, 1, 2, 3, 4, 5, 6, 7] rfl ?_
  exact t_X5_addRowsWith_40 hTS hRG hrc C hX hR   h
set_option maxRecDepth 100000 in
set_option maxHeartbeats 4000000 in
theorem m_X5_addRowsWith {l : Launch} {D : va_G} {cy : Nat → ClassId} {V : gV} {rc : Int32 → Int32 → Int32 → Int32 → gI → (gI → Prop) → Prop} {room : Nat} {f0 l0 : Nat} (hTS : gModTS V) (hRG : gModRG room V) (hrc : ∀ (b0 : Int32) (b1 : Int32) (b2 : Int32) (b3 : Int32) (I0 : gI) (J0 : gL) (Q0 : gI → Prop), rc b0 b1 b2 b3 I0 Q0 → gMet l D cy yX5_addRows cX5_addRows 6 none { frames := f0, cells := 0, slots := 0, locals := l0 } V [.ref (V.2.1 70), .int b0, .int b1, .int b2, .int b3] I0 J0 (gPv V (fun I' J' => J0 = J' ∧ Q0 I'))) {a1 : Int32} {a2 : Int32} {a3 : Int32} {a4 : Int32} {a5 : Int32} {I : gI} {J : gL} {Po : gI → Prop} (h : wp_X5_addRowsWith rc room a1 a2 a3 a4 a5 I Po) : gMet l D cy yX5_addRowsWith cX5_addRowsWith 11 none (rm_X5_addRowsWith f0 l0) V [.ref (V.2.1 70), .int a1, .int a2, .int a3, .int a4, .int a5] I J (gPv V (fun I' J' => J = J' ∧ Po I')) := by
  refine gMet.of (by decide) (Nat.le_of_ble_eq_true rfl) (fun X hX C hR => ?_)
  have C : gC X cX5_addRowsWith RX5 none 11 (rm_X5_addRowsWith f0 l0) := C
  show gJ X V 0 0 0 [(0, .ref (V.2.1 70)), (1, .int a1), (2, .int a2), (3, .int a3), (4, .int a4), (5, .int a5)] [] I J
  unfold wp_X5_addRowsWith at h
  refine j_iload_n (pc := 0) C dX5_addRowsWith_0 rfl 3 rfl ?_
  refine j_iconst (pc := 1) (v := 3) C dX5_addRowsWith_1 (by decide) ?_
  refine j_ishl (pc := 2) C dX5_addRowsWith_2 ?_
  refine j_iload_n (pc := 3) C dX5_addRowsWith_3 rfl 1 rfl ?_
  refine j_ior (pc := 4) C dX5_addRowsWith_4 ?_
  refine gJ.topi (fun n1 en1 => ?_)
  have h := h n1 en1
  refine j_istore (pc := 5) (lv' := [(6, .int n1), (0, .ref (V.2.1 70)), (1, .int a1), (2, .int a2), (3, .int a3), (4, .int a4), (5, .int a5)]) C dX5_addRowsWith_5 (by decide) rfl ?_
  refine j_aload_n (pc := 7) C dX5_addRowsWith_7 rfl 1 rfl ?_
  refine j_getR (pc := 8) C 70 2 71 (c_70 hRG).1 (c_70 hRG).2 rfl rfl (by decide) inw_X5 wd_356 dX5_addRowsWith_8 ?_
  refine j_aload_n (pc := 11) C dX5_addRowsWith_11 rfl 1 rfl ?_
  refine j_getR (pc := 12) C 70 1 10 (c_70 hRG).1 (c_70 hRG).2 rfl rfl (by decide) inw_X5 wd_355 dX5_addRowsWith_12 ?_
  refine j_getR (pc := 15) C 10 0 11 (c_10 hTS).1 (c_10 hTS).2 rfl rfl (by decide) inw_X8 wd_100 dX5_addRowsWith_15 ?_
  refine j_iload_n (pc := 18) C dX5_addRowsWith_18 rfl 2 rfl ?_
  obtain ⟨g2, h⟩ := h
  refine j_iald (pc := 19) C 11 (c_11 hTS).1 (c_11 hTS).2 g2 dX5_addRowsWith_19 ?_
  obtain ⟨g3, h⟩ := h
  refine j_iald (pc := 20) C 71 (c_71 hRG).1 (c_71 hRG).2 g3 dX5_addRowsWith_20 ?_
  refine gJ.topi (fun n4 en4 => ?_)
  have h := h n4 en4
  refine j_istore (pc := 21) (lv' := [(7, .int n4), (6, .int n1), (0, .ref (V.2.1 70)), (1, .int a1), (2, .int a2), (3, .int a3), (4, .int a4), (5, .int a5)]) C dX5_addRowsWith_21 (by decide) rfl ?_
  refine j_iload (pc := 23) C dX5_addRowsWith_23 6 rfl ?_
  refine j_iconst (pc := 25) (v := (-1)) C dX5_addRowsWith_25 (by decide) ?_
  refine j_icmp_eq (pc := 26) (tgt := 35) C dX5_addRowsWith_26 (by decide) (fun c5 => ?_) (fun c5 => ?_)
  · have h := h.1 c5
    refine gJ.sub [2, 3, 4, 5, 6, 7, 1, 0] rfl ?_
    exact t_X5_addRowsWith_35 hTS hRG hrc C hX hR   h
  · have h := h.2 c5
    refine j_iload (pc := 29) C dX5_addRowsWith_29 0 rfl ?_
    refine j_iconst (pc := 31) (v := (-1)) C dX5_addRowsWith_31 (by decide) ?_
    refine j_icmp_ne (pc := 32) (tgt := 39) C dX5_addRowsWith_32 (by decide) (fun c15 => ?_) (fun c15 => ?_)
    · have h := h.1 c15
      refine j_iconst (pc := 39) (v := 0) C dX5_addRowsWith_39 (by decide) ?_
      refine gJ.sub [2, 3, 4, 5, 6, 7, 1, 0] rfl ?_
      exact t_X5_addRowsWith_40 hTS hRG hrc C hX hR   h
    · have h := h.2 c15
      refine gJ.sub [2, 3, 4, 5, 6, 7, 1, 0] rfl ?_
      exact t_X5_addRowsWith_35 hTS hRG hrc C hX hR   h
/-! TileRules$RowGraph.keepRow(III)V -/
abbrev rm_X5_keepRow : Room := { frames := 0, cells := 0, slots := 0, locals := 0 }
theorem ok_X5_keepRow : gOk yX5_keepRow cX5_keepRow 4 none 3 := ⟨wd_416, wd_75, by decide +kernel⟩
def wp_X5_keepRow (room : Nat) (a1 : Int32) (a2 : Int32) (a3 : Int32) (I : gI) (Po : gI → Prop) : Prop :=
  ((I 70 0) ≤ (I 70 13) → Po I) ∧ (¬ (I 70 0) ≤ (I 70 13) → vp_in (I 70 13) room ∧ ∀ I3 : gI, I3 = gup I 72 ((I 70 13)).toNatClampNeg a1 → vp_in (I3 70 13) room ∧ ∀ I5 : gI, I5 = gup I3 73 ((I3 70 13)).toNatClampNeg a2 → vp_in (I5 70 13) room ∧ ∀ I7 : gI, I7 = gup I5 74 ((I5 70 13)).toNatClampNeg a3 → ∀ I8 : gI, I8 = gup I7 70 13 ((I7 70 13) + (1 : Int32)) → Po I8)
set_option maxRecDepth 100000 in
set_option maxHeartbeats 4000000 in
theorem m_X5_keepRow {l : Launch} {D : va_G} {cy : Nat → ClassId} {V : gV} {room : Nat} (hTS : gModTS V) (hRG : gModRG room V) {a1 : Int32} {a2 : Int32} {a3 : Int32} {I : gI} {J : gL} {Po : gI → Prop} (h : wp_X5_keepRow room a1 a2 a3 I Po) : gMet l D cy yX5_keepRow cX5_keepRow 4 none rm_X5_keepRow V [.ref (V.2.1 70), .int a1, .int a2, .int a3] I J (gPv V (fun I' J' => J = J' ∧ Po I')) := by
  refine gMet.of (by decide) (Nat.le_of_ble_eq_true rfl) (fun X hX C hR => ?_)
  have C : gC X cX5_keepRow RX5 none 4 rm_X5_keepRow := C
  show gJ X V 0 0 0 [(0, .ref (V.2.1 70)), (1, .int a1), (2, .int a2), (3, .int a3)] [] I J
  unfold wp_X5_keepRow at h
  refine j_aload_n (pc := 0) C dX5_keepRow_0 rfl 0 rfl ?_
  refine j_getI (pc := 1) C 70 13 (c_70 hRG).1 (c_70 hRG).2 rfl rfl (by decide) inw_X5 wd_367 dX5_keepRow_1 ?_
  refine j_aload_n (pc := 4) C dX5_keepRow_4 rfl 0 rfl ?_
  refine j_getI (pc := 5) C 70 0 (c_70 hRG).1 (c_70 hRG).2 rfl rfl (by decide) inw_X5 wd_353 dX5_keepRow_5 ?_
  refine j_icmp_ge (pc := 8) (tgt := 51) C dX5_keepRow_8 (by decide) (fun c1 => ?_) (fun c1 => ?_)
  · have h := h.1 c1
    exact j_vret (pc := 51) C hR (Nat.zero_le _) (Nat.zero_le _) dX5_keepRow_51 ⟨rfl, rfl, rfl, h⟩
  · have h := h.2 c1
    refine j_aload_n (pc := 11) C dX5_keepRow_11 rfl 0 rfl ?_
    refine j_getR (pc := 12) C 70 3 72 (c_70 hRG).1 (c_70 hRG).2 rfl rfl (by decide) inw_X5 wd_357 dX5_keepRow_12 ?_
    refine j_aload_n (pc := 15) C dX5_keepRow_15 rfl 0 rfl ?_
    refine j_getI (pc := 16) C 70 13 (c_70 hRG).1 (c_70 hRG).2 rfl rfl (by decide) inw_X5 wd_367 dX5_keepRow_16 ?_
    refine j_iload_n (pc := 19) C dX5_keepRow_19 rfl 1 rfl ?_
    obtain ⟨g2, h⟩ := h
    refine j_iast (pc := 20) C 72 (c_72 hRG).1 (c_72 hRG).2 g2 dX5_keepRow_20 ?_
    refine gJ.nmI (fun I3 eI3 => ?_)
    have h := h I3 eI3
    refine j_aload_n (pc := 21) C dX5_keepRow_21 rfl 0 rfl ?_
    refine j_getR (pc := 22) C 70 4 73 (c_70 hRG).1 (c_70 hRG).2 rfl rfl (by decide) inw_X5 wd_358 dX5_keepRow_22 ?_
    refine j_aload_n (pc := 25) C dX5_keepRow_25 rfl 0 rfl ?_
    refine j_getI (pc := 26) C 70 13 (c_70 hRG).1 (c_70 hRG).2 rfl rfl (by decide) inw_X5 wd_367 dX5_keepRow_26 ?_
    refine j_iload_n (pc := 29) C dX5_keepRow_29 rfl 2 rfl ?_
    obtain ⟨g4, h⟩ := h
    refine j_iast (pc := 30) C 73 (c_73 hRG).1 (c_73 hRG).2 g4 dX5_keepRow_30 ?_
    refine gJ.nmI (fun I5 eI5 => ?_)
    have h := h I5 eI5
    refine j_aload_n (pc := 31) C dX5_keepRow_31 rfl 0 rfl ?_
    refine j_getR (pc := 32) C 70 5 74 (c_70 hRG).1 (c_70 hRG).2 rfl rfl (by decide) inw_X5 wd_359 dX5_keepRow_32 ?_
    refine j_aload_n (pc := 35) C dX5_keepRow_35 rfl 0 rfl ?_
    refine j_getI (pc := 36) C 70 13 (c_70 hRG).1 (c_70 hRG).2 rfl rfl (by decide) inw_X5 wd_367 dX5_keepRow_36 ?_
    refine j_iload_n (pc := 39) C dX5_keepRow_39 rfl 3 rfl ?_
    obtain ⟨g6, h⟩ := h
    refine j_iast (pc := 40) C 74 (c_74 hRG).1 (c_74 hRG).2 g6 dX5_keepRow_40 ?_
    refine gJ.nmI (fun I7 eI7 => ?_)
    have h := h I7 eI7
    refine j_aload_n (pc := 41) C dX5_keepRow_41 rfl 0 rfl ?_
    refine j_dup (pc := 42) C dX5_keepRow_42 rfl ?_
    refine j_getI (pc := 43) C 70 13 (c_70 hRG).1 (c_70 hRG).2 rfl rfl (by decide) inw_X5 wd_367 dX5_keepRow_43 ?_
    refine j_iconst (pc := 46) (v := 1) C dX5_keepRow_46 (by decide) ?_
    refine j_iadd (pc := 47) C dX5_keepRow_47 ?_
    refine j_putI (pc := 48) (ft := .int) C tyX5 tyX5_ok nmX5 70 13 (c_70 hRG).1 (c_70 hRG).2 rfl rfl (by decide) inw_X5 wd_367 rfl (by decide +kernel) rfl rfl dX5_keepRow_48 ?_
    refine gJ.nmI (fun I8 eI8 => ?_)
    have h := h I8 eI8
    exact j_vret (pc := 51) C hR (Nat.zero_le _) (Nat.zero_le _) dX5_keepRow_51 ⟨rfl, rfl, rfl, h⟩
