/-! TileRulesModel.isIn(III)Z -/
abbrev rm_X10_isIn : Room := { frames := 0, cells := 0, slots := 0, locals := 0 }
theorem ok_X10_isIn : gOk yX10_isIn cX10_isIn 3 (some .boolean) 3 := ⟨wd_1110, wd_74, by decide +kernel⟩
def wp_X10_isIn (a0 : Int32) (a1 : Int32) (a2 : Int32) (Po : Int32 → Prop) : Prop :=
  (a0 < a1 → Po (0 : Int32)) ∧ (¬ a0 < a1 → (a2 < a0 → Po (0 : Int32)) ∧ (¬ a2 < a0 → Po (1 : Int32)))
set_option maxRecDepth 100000 in
set_option maxHeartbeats 4000000 in
theorem m_X10_isIn {l : Launch} {D : va_G} {cy : Nat → ClassId} {V : gV} {a0 : Int32} {a1 : Int32} {a2 : Int32} {I : gI} {J : gL} {Po : Int32 → Prop} (h : wp_X10_isIn a0 a1 a2 Po) : gMet l D cy yX10_isIn cX10_isIn 3 (some .boolean) rm_X10_isIn V [.int a0, .int a1, .int a2] I J (gPi V (fun x I' J' => I = I' ∧ J = J' ∧ Po x)) := by
  refine gMet.of (by decide) (Nat.le_of_ble_eq_true rfl) (fun X hX C hR => ?_)
  have C : gC X cX10_isIn RX10 (some .boolean) 3 rm_X10_isIn := C
  show gJ X V 0 0 0 [(0, .int a0), (1, .int a1), (2, .int a2)] [] I J
  unfold wp_X10_isIn at h
  refine j_iload_n (pc := 0) C dX10_isIn_0 rfl 0 rfl ?_
  refine j_iload_n (pc := 1) C dX10_isIn_1 rfl 1 rfl ?_
  refine j_icmp_lt (pc := 2) (tgt := 14) C dX10_isIn_2 (by decide) (fun c1 => ?_) (fun c1 => ?_)
  · have h := h.1 c1
    refine j_iconst (pc := 14) (v := 0) C dX10_isIn_14 (by decide) ?_
    exact j_zret (pc := 15) C hR (Or.inl rfl) (Nat.zero_le _) (Nat.zero_le _) dX10_isIn_15 ⟨_, rfl, rfl, rfl, rfl, h⟩
  · have h := h.2 c1
    refine j_iload_n (pc := 5) C dX10_isIn_5 rfl 0 rfl ?_
    refine j_iload_n (pc := 6) C dX10_isIn_6 rfl 2 rfl ?_
    refine j_icmp_gt (pc := 7) (tgt := 14) C dX10_isIn_7 (by decide) (fun c2 => ?_) (fun c2 => ?_)
    · have h := h.1 c2
      refine j_iconst (pc := 14) (v := 0) C dX10_isIn_14 (by decide) ?_
      exact j_zret (pc := 15) C hR (Or.inl rfl) (Nat.zero_le _) (Nat.zero_le _) dX10_isIn_15 ⟨_, rfl, rfl, rfl, rfl, h⟩
    · have h := h.2 c2
      refine j_iconst (pc := 10) (v := 1) C dX10_isIn_10 (by decide) ?_
      refine j_goto (pc := 11) (tgt := 15) C dX10_isIn_11 (by decide) ?_
      exact j_zret (pc := 15) C hR (Or.inr rfl) (Nat.zero_le _) (Nat.zero_le _) dX10_isIn_15 ⟨_, rfl, rfl, rfl, rfl, h⟩
/-! TileRulesModel.tile(IIII)I -/
abbrev rm_X10_tile : Room := { frames := 1, cells := 0, slots := 0, locals := 22 }
theorem ok_X10_tile : gOk yX10_tile cX10_tile 5 (some .int) 4 := ⟨wd_1107, wd_74, by decide +kernel⟩
def wp_X10_tile (a1 : Int32) (a2 : Int32) (a3 : Int32) (a4 : Int32) (I : gI) (Po : Int32 → gI → Prop) : Prop :=
  wp_X10_isIn a1 (0 : Int32) (9 : Int32) (fun r1 => (r1 = 0 → Po (-2 : Int32) I) ∧ (¬ r1 = 0 → wp_X10_isIn a2 (0 : Int32) (9 : Int32) (fun r3 => (r3 = 0 → Po (-2 : Int32) I) ∧ (¬ r3 = 0 → wp_X10_isIn a3 (0 : Int32) (9 : Int32) (fun r5 => (r5 = 0 → Po (-2 : Int32) I) ∧ (¬ r5 = 0 → wp_X10_isIn a4 (0 : Int32) (9 : Int32) (fun r7 => (¬ r7 = 0 → (¬ (I 200 0) = (8 : Int32) → vp_in ((4 : Int32) * (I 200 0)) 32 ∧ ∀ I11 : gI, I11 = gup I 201 (((4 : Int32) * (I 200 0))).toNatClampNeg a1 → vp_in (((4 : Int32) * (I11 200 0)) + (1 : Int32)) 32 ∧ ∀ I13 : gI, I13 = gup I11 201 ((((4 : Int32) * (I11 200 0)) + (1 : Int32))).toNatClampNeg a2 → vp_in (((4 : Int32) * (I13 200 0)) + (2 : Int32)) 32 ∧ ∀ I15 : gI, I15 = gup I13 201 ((((4 : Int32) * (I13 200 0)) + (2 : Int32))).toNatClampNeg a3 → vp_in (((4 : Int32) * (I15 200 0)) + (3 : Int32)) 32 ∧ ∀ I17 : gI, I17 = gup I15 201 ((((4 : Int32) * (I15 200 0)) + (3 : Int32))).toNatClampNeg a4 → ∀ I18 : gI, I18 = gup I17 200 0 ((I17 200 0) + (1 : Int32)) → Po ((I18 200 0) - (1 : Int32)) I18) ∧ ((I 200 0) = (8 : Int32) → Po (-3 : Int32) I)) ∧ (r7 = 0 → Po (-2 : Int32) I))))))))
set_option maxRecDepth 100000 in
set_option maxHeartbeats 4000000 in
theorem m_X10_tile {l : Launch} {D : va_G} {cy : Nat → ClassId} {V : gV} (hM : gModM V) {a1 : Int32} {a2 : Int32} {a3 : Int32} {a4 : Int32} {I : gI} {J : gL} {Po : Int32 → gI → Prop} (h : wp_X10_tile a1 a2 a3 a4 I Po) : gMet l D cy yX10_tile cX10_tile 5 (some .int) rm_X10_tile V [.ref (V.2.1 200), .int a1, .int a2, .int a3, .int a4] I J (gPi V (fun x I' J' => J = J' ∧ Po x I')) := by
  refine gMet.of (by decide) (Nat.le_of_ble_eq_true rfl) (fun X hX C hR => ?_)
  have C : gC X cX10_tile RX10 (some .int) 5 rm_X10_tile := C
  show gJ X V 0 0 0 [(0, .ref (V.2.1 200)), (1, .int a1), (2, .int a2), (3, .int a3), (4, .int a4)] [] I J
  unfold wp_X10_tile at h
  refine j_iload_n (pc := 0) C dX10_tile_0 rfl 1 rfl ?_
  refine j_iconst (pc := 1) (v := 0) C dX10_tile_1 (by decide) ?_
  refine j_bipush (pc := 2) (v := 9) C dX10_tile_2 (by decide) ?_
  refine j_callS (pc := 4) (As := [.int a1, .int (0 : Int32), .int (9 : Int32)]) (st := []) C hX (m_X10_isIn   h) ok_X10_isIn wd_1108 wd_1109 ⟨by decide, by decide⟩ rfl rfl (by decide) ⟨by decide, by decide⟩ dX10_tile_4 (fun r V1 I1 J1 hp => ?_)
  obtain ⟨r1, rfl, rfl, rfl, rfl, h⟩ := hp
  show gJ X V 0 0 7 _ [.int r1] _ _
  refine j_if_eq (pc := 7) (tgt := 41) C dX10_tile_7 (by decide) (fun c2 => ?_) (fun c2 => ?_)
  · have h := h.1 c2
    refine j_bipush (pc := 41) (v := (-2)) C dX10_tile_41 (by decide) ?_
    exact j_iret (pc := 43) C hR (Nat.zero_le _) (Nat.zero_le _) dX10_tile_43 ⟨_, rfl, rfl, rfl, h⟩
  · have h := h.2 c2
    refine j_iload_n (pc := 10) C dX10_tile_10 rfl 2 rfl ?_
    refine j_iconst (pc := 11) (v := 0) C dX10_tile_11 (by decide) ?_
    refine j_bipush (pc := 12) (v := 9) C dX10_tile_12 (by decide) ?_
    refine j_callS (pc := 14) (As := [.int a2, .int (0 : Int32), .int (9 : Int32)]) (st := []) C hX (m_X10_isIn   h) ok_X10_isIn wd_1108 wd_1109 ⟨by decide, by decide⟩ rfl rfl (by decide) ⟨by decide, by decide⟩ dX10_tile_14 (fun r V1 I1 J1 hp => ?_)
    obtain ⟨r3, rfl, rfl, rfl, rfl, h⟩ := hp
    show gJ X V 0 0 17 _ [.int r3] _ _
    refine j_if_eq (pc := 17) (tgt := 41) C dX10_tile_17 (by decide) (fun c4 => ?_) (fun c4 => ?_)
    · have h := h.1 c4
      refine j_bipush (pc := 41) (v := (-2)) C dX10_tile_41 (by decide) ?_
      exact j_iret (pc := 43) C hR (Nat.zero_le _) (Nat.zero_le _) dX10_tile_43 ⟨_, rfl, rfl, rfl, h⟩
    · have h := h.2 c4
      refine j_iload_n (pc := 20) C dX10_tile_20 rfl 3 rfl ?_
      refine j_iconst (pc := 21) (v := 0) C dX10_tile_21 (by decide) ?_
      refine j_bipush (pc := 22) (v := 9) C dX10_tile_22 (by decide) ?_
      refine j_callS (pc := 24) (As := [.int a3, .int (0 : Int32), .int (9 : Int32)]) (st := []) C hX (m_X10_isIn   h) ok_X10_isIn wd_1108 wd_1109 ⟨by decide, by decide⟩ rfl rfl (by decide) ⟨by decide, by decide⟩ dX10_tile_24 (fun r V1 I1 J1 hp => ?_)
      obtain ⟨r5, rfl, rfl, rfl, rfl, h⟩ := hp
      show gJ X V 0 0 27 _ [.int r5] _ _
      refine j_if_eq (pc := 27) (tgt := 41) C dX10_tile_27 (by decide) (fun c6 => ?_) (fun c6 => ?_)
      · have h := h.1 c6
        refine j_bipush (pc := 41) (v := (-2)) C dX10_tile_41 (by decide) ?_
        exact j_iret (pc := 43) C hR (Nat.zero_le _) (Nat.zero_le _) dX10_tile_43 ⟨_, rfl, rfl, rfl, h⟩
      · have h := h.2 c6
        refine j_iload (pc := 30) C dX10_tile_30 4 rfl ?_
        refine j_iconst (pc := 32) (v := 0) C dX10_tile_32 (by decide) ?_
        refine j_bipush (pc := 33) (v := 9) C dX10_tile_33 (by decide) ?_
        refine j_callS (pc := 35) (As := [.int a4, .int (0 : Int32), .int (9 : Int32)]) (st := []) C hX (m_X10_isIn   h) ok_X10_isIn wd_1108 wd_1109 ⟨by decide, by decide⟩ rfl rfl (by decide) ⟨by decide, by decide⟩ dX10_tile_35 (fun r V1 I1 J1 hp => ?_)
        obtain ⟨r7, rfl, rfl, rfl, rfl, h⟩ := hp
        show gJ X V 0 0 38 _ [.int r7] _ _
        refine j_if_ne (pc := 38) (tgt := 44) C dX10_tile_38 (by decide) (fun c8 => ?_) (fun c8 => ?_)
        · have h := h.1 c8
          refine j_aload_n (pc := 44) C dX10_tile_44 rfl 0 rfl ?_
          refine j_getI (pc := 45) C 200 0 (c_200 hM).1 (c_200 hM).2 rfl rfl (by decide) inw_X10 wd_966 dX10_tile_45 ?_
          refine j_bipush (pc := 48) (v := 8) C dX10_tile_48 (by decide) ?_
          refine j_icmp_ne (pc := 50) (tgt := 56) C dX10_tile_50 (by decide) (fun c9 => ?_) (fun c9 => ?_)
          · have h := h.1 c9
            refine j_aload_n (pc := 56) C dX10_tile_56 rfl 0 rfl ?_
            refine j_getR (pc := 57) C 200 1 201 (c_200 hM).1 (c_200 hM).2 rfl rfl (by decide) inw_X10 wd_967 dX10_tile_57 ?_
            refine j_iconst (pc := 60) (v := 4) C dX10_tile_60 (by decide) ?_
            refine j_aload_n (pc := 61) C dX10_tile_61 rfl 0 rfl ?_
            refine j_getI (pc := 62) C 200 0 (c_200 hM).1 (c_200 hM).2 rfl rfl (by decide) inw_X10 wd_966 dX10_tile_62 ?_
            refine j_imul (pc := 65) C dX10_tile_65 ?_
            refine j_iload_n (pc := 66) C dX10_tile_66 rfl 1 rfl ?_
            obtain ⟨g10, h⟩ := h
            refine j_iast (pc := 67) C 201 (c_201 hM).1 (c_201 hM).2 g10 dX10_tile_67 ?_
            refine gJ.nmI (fun I11 eI11 => ?_)
            have h := h I11 eI11
            refine j_aload_n (pc := 68) C dX10_tile_68 rfl 0 rfl ?_
            refine j_getR (pc := 69) C 200 1 201 (c_200 hM).1 (c_200 hM).2 rfl rfl (by decide) inw_X10 wd_967 dX10_tile_69 ?_
            refine j_iconst (pc := 72) (v := 4) C dX10_tile_72 (by decide) ?_
            refine j_aload_n (pc := 73) C dX10_tile_73 rfl 0 rfl ?_
            refine j_getI (pc := 74) C 200 0 (c_200 hM).1 (c_200 hM).2 rfl rfl (by decide) inw_X10 wd_966 dX10_tile_74 ?_
            refine j_imul (pc := 77) C dX10_tile_77 ?_
            refine j_iconst (pc := 78) (v := 1) C dX10_tile_78 (by decide) ?_
            refine j_iadd (pc := 79) C dX10_tile_79 ?_
            refine j_iload_n (pc := 80) C dX10_tile_80 rfl 2 rfl ?_
            obtain ⟨g12, h⟩ := h
            refine j_iast (pc := 81) C 201 (c_201 hM).1 (c_201 hM).2 g12 dX10_tile_81 ?_
            refine gJ.nmI (fun I13 eI13 => ?_)
            have h := h I13 eI13
            refine j_aload_n (pc := 82) C dX10_tile_82 rfl 0 rfl ?_
            refine j_getR (pc := 83) C 200 1 201 (c_200 hM).1 (c_200 hM).2 rfl rfl (by decide) inw_X10 wd_967 dX10_tile_83 ?_
            refine j_iconst (pc := 86) (v := 4) C dX10_tile_86 (by decide) ?_
            refine j_aload_n (pc := 87) C dX10_tile_87 rfl 0 rfl ?_
            refine j_getI (pc := 88) C 200 0 (c_200 hM).1 (c_200 hM).2 rfl rfl (by decide) inw_X10 wd_966 dX10_tile_88 ?_
            refine j_imul (pc := 91) C dX10_tile_91 ?_
            refine j_iconst (pc := 92) (v := 2) C dX10_tile_92 (by decide) ?_
            refine j_iadd (pc := 93) C dX10_tile_93 ?_
            refine j_iload_n (pc := 94) C dX10_tile_94 rfl 3 rfl ?_
            obtain ⟨g14, h⟩ := h
            refine j_iast (pc := 95) C 201 (c_201 hM).1 (c_201 hM).2 g14 dX10_tile_95 ?_
            refine gJ.nmI (fun I15 eI15 => ?_)
            have h := h I15 eI15
            refine j_aload_n (pc := 96) C dX10_tile_96 rfl 0 rfl ?_
            refine j_getR (pc := 97) C 200 1 201 (c_200 hM).1 (c_200 hM).2 rfl rfl (by decide) inw_X10 wd_967 dX10_tile_97 ?_
            refine j_iconst (pc := 100) (v := 4) C dX10_tile_100 (by decide) ?_
            refine j_aload_n (pc := 101) C dX10_tile_101 rfl 0 rfl ?_
            refine j_getI (pc := 102) C 200 0 (c_200 hM).1 (c_200 hM).2 rfl rfl (by decide) inw_X10 wd_966 dX10_tile_102 ?_
            refine j_imul (pc := 105) C dX10_tile_105 ?_
            refine j_iconst (pc := 106) (v := 3) C dX10_tile_106 (by decide) ?_
            refine j_iadd (pc := 107) C dX10_tile_107 ?_
            refine j_iload (pc := 108) C dX10_tile_108 4 rfl ?_
            obtain ⟨g16, h⟩ := h
            refine j_iast (pc := 110) C 201 (c_201 hM).1 (c_201 hM).2 g16 dX10_tile_110 ?_
            refine gJ.nmI (fun I17 eI17 => ?_)
            have h := h I17 eI17
            refine j_aload_n (pc := 111) C dX10_tile_111 rfl 0 rfl ?_
            refine j_dup (pc := 112) C dX10_tile_112 rfl ?_
            refine j_getI (pc := 113) C 200 0 (c_200 hM).1 (c_200 hM).2 rfl rfl (by decide) inw_X10 wd_966 dX10_tile_113 ?_
            refine j_iconst (pc := 116) (v := 1) C dX10_tile_116 (by decide) ?_
            refine j_iadd (pc := 117) C dX10_tile_117 ?_
            refine j_putI (pc := 118) (ft := .int) C tyX10 tyX10_ok nmX10 200 0 (c_200 hM).1 (c_200 hM).2 rfl rfl (by decide) inw_X10 wd_966 rfl (by decide +kernel) rfl rfl dX10_tile_118 ?_
            refine gJ.nmI (fun I18 eI18 => ?_)
            have h := h I18 eI18
            refine j_aload_n (pc := 121) C dX10_tile_121 rfl 0 rfl ?_
            refine j_getI (pc := 122) C 200 0 (c_200 hM).1 (c_200 hM).2 rfl rfl (by decide) inw_X10 wd_966 dX10_tile_122 ?_
            refine j_iconst (pc := 125) (v := 1) C dX10_tile_125 (by decide) ?_
            refine j_isub (pc := 126) C dX10_tile_126 ?_
            exact j_iret (pc := 127) C hR (Nat.zero_le _) (Nat.zero_le _) dX10_tile_127 ⟨_, rfl, rfl, rfl, h⟩
          · have h := h.2 c9
            refine j_bipush (pc := 53) (v := (-3)) C dX10_tile_53 (by decide) ?_
            exact j_iret (pc := 55) C hR (Nat.zero_le _) (Nat.zero_le _) dX10_tile_55 ⟨_, rfl, rfl, rfl, h⟩
        · have h := h.2 c8
          refine j_bipush (pc := 41) (v := (-2)) C dX10_tile_41 (by decide) ?_
          exact j_iret (pc := 43) C hR (Nat.zero_le _) (Nat.zero_le _) dX10_tile_43 ⟨_, rfl, rfl, rfl, h⟩
/-! TileRulesModel.untile()I -/
abbrev rm_X10_untile : Room := { frames := 0, cells := 0, slots := 0, locals := 0 }
theorem ok_X10_untile : gOk yX10_untile cX10_untile 1 (some .int) 0 := ⟨wd_1114, wd_74, by decide +kernel⟩
def wp_X10_untile (I : gI) (Po : Int32 → gI → Prop) : Prop :=
  (¬ (I 200 0) = 0 → ∀ I2 : gI, I2 = gup I 200 0 ((I 200 0) - (1 : Int32)) → Po (I2 200 0) I2) ∧ ((I 200 0) = 0 → Po (-1 : Int32) I)
set_option maxRecDepth 100000 in
set_option maxHeartbeats 4000000 in
theorem m_X10_untile {l : Launch} {D : va_G} {cy : Nat → ClassId} {V : gV} (hM : gModM V) {I : gI} {J : gL} {Po : Int32 → gI → Prop} (h : wp_X10_untile I Po) : gMet l D cy yX10_untile cX10_untile 1 (some .int) rm_X10_untile V [.ref (V.2.1 200)] I J (gPi V (fun x I' J' => J = J' ∧ Po x I')) := by
  refine gMet.of (by decide) (Nat.le_of_ble_eq_true rfl) (fun X hX C hR => ?_)
  have C : gC X cX10_untile RX10 (some .int) 1 rm_X10_untile := C
  show gJ X V 0 0 0 [(0, .ref (V.2.1 200))] [] I J
  unfold wp_X10_untile at h
  refine j_aload_n (pc := 0) C dX10_untile_0 rfl 0 rfl ?_
  refine j_getI (pc := 1) C 200 0 (c_200 hM).1 (c_200 hM).2 rfl rfl (by decide) inw_X10 wd_966 dX10_untile_1 ?_
  refine j_if_ne (pc := 4) (tgt := 9) C dX10_untile_4 (by decide) (fun c1 => ?_) (fun c1 => ?_)
  · have h := h.1 c1
    refine j_aload_n (pc := 9) C dX10_untile_9 rfl 0 rfl ?_
    refine j_dup (pc := 10) C dX10_untile_10 rfl ?_
    refine j_getI (pc := 11) C 200 0 (c_200 hM).1 (c_200 hM).2 rfl rfl (by decide) inw_X10 wd_966 dX10_untile_11 ?_
    refine j_iconst (pc := 14) (v := 1) C dX10_untile_14 (by decide) ?_
    refine j_isub (pc := 15) C dX10_untile_15 ?_
    refine j_putI (pc := 16) (ft := .int) C tyX10 tyX10_ok nmX10 200 0 (c_200 hM).1 (c_200 hM).2 rfl rfl (by decide) inw_X10 wd_966 rfl (by decide +kernel) rfl rfl dX10_untile_16 ?_
    refine gJ.nmI (fun I2 eI2 => ?_)
    have h := h I2 eI2
    refine j_aload_n (pc := 19) C dX10_untile_19 rfl 0 rfl ?_
    refine j_getI (pc := 20) C 200 0 (c_200 hM).1 (c_200 hM).2 rfl rfl (by decide) inw_X10 wd_966 dX10_untile_20 ?_
    exact j_iret (pc := 23) C hR (Nat.zero_le _) (Nat.zero_le _) dX10_untile_23 ⟨_, rfl, rfl, rfl, h⟩
  · have h := h.2 c1
    refine j_iconst (pc := 7) (v := (-1)) C dX10_untile_7 (by decide) ?_
    exact j_iret (pc := 8) C hR (Nat.zero_le _) (Nat.zero_le _) dX10_untile_8 ⟨_, rfl, rfl, rfl, h⟩
/-! TileRulesModel.count(I)I -/
abbrev rm_X10_count : Room := { frames := 0, cells := 0, slots := 0, locals := 0 }
theorem ok_X10_count : gOk yX10_count cX10_count 2 (some .int) 1 := ⟨wd_1324, wd_74, by decide +kernel⟩
def wp_X10_count (a1 : Int32) (I : gI) (Po : Int32 → Prop) : Prop :=
  ((a1).toInt < 0 ∨ 5 < (a1).toInt → Po (-2 : Int32)) ∧ ((a1).toInt = 0 → Po (I 200 0)) ∧ ((a1).toInt = 1 → Po (I 200 11)) ∧ ((a1).toInt = 2 → Po (I 200 41)) ∧ ((a1).toInt = 3 → Po (I 200 31)) ∧ ((a1).toInt = 4 → Po ((I 200 13) * (I 200 14))) ∧ ((a1).toInt = 5 → Po (I 200 40))
set_option maxRecDepth 100000 in
set_option maxHeartbeats 4000000 in
theorem m_X10_count {l : Launch} {D : va_G} {cy : Nat → ClassId} {V : gV} (hM : gModM V) {a1 : Int32} {I : gI} {J : gL} {Po : Int32 → Prop} (h : wp_X10_count a1 I Po) : gMet l D cy yX10_count cX10_count 2 (some .int) rm_X10_count V [.ref (V.2.1 200), .int a1] I J (gPi V (fun x I' J' => I = I' ∧ J = J' ∧ Po x)) := by
  refine gMet.of (by decide) (Nat.le_of_ble_eq_true rfl) (fun X hX C hR => ?_)
  have C : gC X cX10_count RX10 (some .int) 2 rm_X10_count := C
  show gJ X V 0 0 0 [(0, .ref (V.2.1 200)), (1, .int a1)] [] I J
  unfold wp_X10_count at h
  refine j_iload_n (pc := 0) C dX10_count_0 rfl 1 rfl ?_
  by_cases ctab : (a1).toInt < 0 ∨ 5 < (a1).toInt
  · have h := h.1 ctab
    refine j_tableOut (pc := 1) (tgt := 75) C dX10_count_1 ctab (by decide) ?_
    refine j_bipush (pc := 75) (v := (-2)) C dX10_count_75 (by decide) ?_
    exact j_iret (pc := 77) C hR (Nat.zero_le _) (Nat.zero_le _) dX10_count_77 ⟨_, rfl, rfl, rfl, rfl, h⟩
  · have h := h.2
    rcases (show (a1).toInt = 0 ∨ (a1).toInt = 1 ∨ (a1).toInt = 2 ∨ (a1).toInt = 3 ∨ (a1).toInt = 4 ∨ (a1).toInt = 5 by omega) with ctab2 | ctab2 | ctab2 | ctab2 | ctab2 | ctab2
    · have h := h.1 ctab2
      refine j_tableIn (pc := 1) (off := 39) (tgt := 40) C dX10_count_1 (by omega) (by omega) (by rw [ctab2]; rfl) (by decide) ?_
      refine j_aload_n (pc := 40) C dX10_count_40 rfl 0 rfl ?_
      refine j_getI (pc := 41) C 200 0 (c_200 hM).1 (c_200 hM).2 rfl rfl (by decide) inw_X10 wd_966 dX10_count_41 ?_
      exact j_iret (pc := 44) C hR (Nat.zero_le _) (Nat.zero_le _) dX10_count_44 ⟨_, rfl, rfl, rfl, rfl, h⟩
    · have h := h.2.1 ctab2
      refine j_tableIn (pc := 1) (off := 44) (tgt := 45) C dX10_count_1 (by omega) (by omega) (by rw [ctab2]; rfl) (by decide) ?_
      refine j_aload_n (pc := 45) C dX10_count_45 rfl 0 rfl ?_
      refine j_getI (pc := 46) C 200 11 (c_200 hM).1 (c_200 hM).2 rfl rfl (by decide) inw_X10 wd_977 dX10_count_46 ?_
      exact j_iret (pc := 49) C hR (Nat.zero_le _) (Nat.zero_le _) dX10_count_49 ⟨_, rfl, rfl, rfl, rfl, h⟩
    · have h := h.2.2.1 ctab2
      refine j_tableIn (pc := 1) (off := 49) (tgt := 50) C dX10_count_1 (by omega) (by omega) (by rw [ctab2]; rfl) (by decide) ?_
      refine j_aload_n (pc := 50) C dX10_count_50 rfl 0 rfl ?_
      refine j_getI (pc := 51) C 200 41 (c_200 hM).1 (c_200 hM).2 rfl rfl (by decide) inw_X10 wd_1007 dX10_count_51 ?_
      exact j_iret (pc := 54) C hR (Nat.zero_le _) (Nat.zero_le _) dX10_count_54 ⟨_, rfl, rfl, rfl, rfl, h⟩
    · have h := h.2.2.2.1 ctab2
      refine j_tableIn (pc := 1) (off := 54) (tgt := 55) C dX10_count_1 (by omega) (by omega) (by rw [ctab2]; rfl) (by decide) ?_
      refine j_aload_n (pc := 55) C dX10_count_55 rfl 0 rfl ?_
      refine j_getI (pc := 56) C 200 31 (c_200 hM).1 (c_200 hM).2 rfl rfl (by decide) inw_X10 wd_997 dX10_count_56 ?_
      exact j_iret (pc := 59) C hR (Nat.zero_le _) (Nat.zero_le _) dX10_count_59 ⟨_, rfl, rfl, rfl, rfl, h⟩
    · have h := h.2.2.2.2.1 ctab2
      refine j_tableIn (pc := 1) (off := 59) (tgt := 60) C dX10_count_1 (by omega) (by omega) (by rw [ctab2]; rfl) (by decide) ?_
      refine j_aload_n (pc := 60) C dX10_count_60 rfl 0 rfl ?_
      refine j_getI (pc := 61) C 200 13 (c_200 hM).1 (c_200 hM).2 rfl rfl (by decide) inw_X10 wd_979 dX10_count_61 ?_
      refine j_aload_n (pc := 64) C dX10_count_64 rfl 0 rfl ?_
      refine j_getI (pc := 65) C 200 14 (c_200 hM).1 (c_200 hM).2 rfl rfl (by decide) inw_X10 wd_980 dX10_count_65 ?_
      refine j_imul (pc := 68) C dX10_count_68 ?_
      exact j_iret (pc := 69) C hR (Nat.zero_le _) (Nat.zero_le _) dX10_count_69 ⟨_, rfl, rfl, rfl, rfl, h⟩
    · have h := h.2.2.2.2.2 ctab2
      refine j_tableIn (pc := 1) (off := 69) (tgt := 70) C dX10_count_1 (by omega) (by omega) (by rw [ctab2]; rfl) (by decide) ?_
      refine j_aload_n (pc := 70) C dX10_count_70 rfl 0 rfl ?_
      refine j_getI (pc := 71) C 200 40 (c_200 hM).1 (c_200 hM).2 rfl rfl (by decide) inw_X10 wd_1006 dX10_count_71 ?_
      exact j_iret (pc := 74) C hR (Nat.zero_le _) (Nat.zero_le _) dX10_count_74 ⟨_, rfl, rfl, rfl, rfl, h⟩
/-! TileRulesModel.ones(I)I -/
abbrev rm_X10_ones : Room := { frames := 0, cells := 0, slots := 0, locals := 0 }
theorem ok_X10_ones : gOk yX10_ones cX10_ones 3 (some .int) 1 := ⟨wd_1166, wd_74, by decide +kernel⟩
def w_X10_ones_4b  (Po : Int32 → Prop) (K4 : Int32 → Int32 → Prop) (v0 : Int32) (v1 : Int32) (v2 : Int32) : Prop :=
  ((25 : Int32) ≤ v2 → Po v1) ∧ (¬ (25 : Int32) ≤ v2 → ∀ n2 : Int32, n2 = (v1 + ((v0 >>> (v2 &&& 31)) &&& (1 : Int32))) → ∀ n3 : Int32, n3 = v2 + 1 → K4 n2 n3)
def w_X10_ones_4  (Po : Int32 → Prop)  (v0 : Int32) (v1 : Int32) (v2 : Int32) : Prop :=
  ∃ (Inv : Int32 → Int32 → Prop) (mu : Int32 → Int32 → Nat), Inv v1 v2 ∧ ∀ (v1 : Int32) (v2 : Int32), Inv v1 v2 → w_X10_ones_4b  Po  (fun u1 u2 => Inv u1 u2 ∧ mu u1 u2 < mu v1 v2) v0 v1 v2
def wp_X10_ones (a0 : Int32) (Po : Int32 → Prop) : Prop :=
  w_X10_ones_4 Po a0 (0 : Int32) (0 : Int32)
set_option maxRecDepth 100000 in
set_option maxHeartbeats 4000000 in
theorem t_X10_ones_4b {X : gX} {l : Launch} {D : va_G} {cy : Nat → ClassId} {nm : String} {V : gV} (C : gC X cX10_ones RX10 (some .int) 3 rm_X10_ones) (hX : gIs X l D cy nm) {I : gI} {J : gL} {Po : Int32 → Prop} (hR : gR X (gPi V (fun x I' J' => I = I' ∧ J = J' ∧ Po x))) {v0 : Int32} {v1 : Int32} {v2 : Int32} {K4 : Int32 → Int32 → Prop} (hK4 : ∀ (y1 : Int32) (y2 : Int32), K4 y1 y2 → gJ X V 0 0 4 [(0, .int v0), (1, .int y1), (2, .int y2)] [] I J) (h : w_X10_ones_4b Po K4 v0 v1 v2) : gJ X V 0 0 4 [(0, .int v0), (1, .int v1), (2, .int v2)] [] I J := by
  unfold w_X10_ones_4b at h
  refine j_iload_n (pc := 4) C dX10_ones_4 rfl 2 rfl ?_
  refine j_bipush (pc := 5) (v := 25) C dX10_ones_5 (by decide) ?_
  refine j_icmp_ge (pc := 7) (tgt := 24) C dX10_ones_7 (by decide) (fun c1 => ?_) (fun c1 => ?_)
  · have h := h.1 c1
    refine j_iload_n (pc := 24) C dX10_ones_24 rfl 1 rfl ?_
    exact j_iret (pc := 25) C hR (Nat.zero_le _) (Nat.zero_le _) dX10_ones_25 ⟨_, rfl, rfl, rfl, rfl, h⟩
  · have h := h.2 c1
    refine j_iload_n (pc := 10) C dX10_ones_10 rfl 1 rfl ?_
    refine j_iload_n (pc := 11) C dX10_ones_11 rfl 0 rfl ?_
    refine j_iload_n (pc := 12) C dX10_ones_12 rfl 2 rfl ?_
    refine j_ishr (pc := 13) C dX10_ones_13 ?_
    refine j_iconst (pc := 14) (v := 1) C dX10_ones_14 (by decide) ?_
    refine j_iand (pc := 15) C dX10_ones_15 ?_
    refine j_iadd (pc := 16) C dX10_ones_16 ?_
    refine gJ.topi (fun n2 en2 => ?_)
    have h := h n2 en2
    refine j_istore_n (pc := 17) (lv' := [(1, .int n2), (0, .int v0), (2, .int v2)]) C dX10_ones_17 rfl (by decide) rfl ?_
    obtain ⟨n3, en3⟩ : ∃ z : Int32, z = v2 + 1 := ⟨_, rfl⟩
    have h := h n3 en3
    refine j_iinc (pc := 18) (v := n3) (lv' := [(2, .int n3), (1, .int n2), (0, .int v0)]) C dX10_ones_18 2 rfl (by rw [en3]; rfl) (by decide) rfl ?_
    refine j_goto (pc := 21) (tgt := 4) C dX10_ones_21 (by decide) ?_
    refine gJ.sub [2, 1, 0] rfl ?_
    exact hK4 _ _ h
set_option maxRecDepth 100000 in
set_option maxHeartbeats 4000000 in
theorem t_X10_ones_4 {X : gX} {l : Launch} {D : va_G} {cy : Nat → ClassId} {nm : String} {V : gV} (C : gC X cX10_ones RX10 (some .int) 3 rm_X10_ones) (hX : gIs X l D cy nm) {I : gI} {J : gL} {Po : Int32 → Prop} (hR : gR X (gPi V (fun x I' J' => I = I' ∧ J = J' ∧ Po x))) {v0 : Int32} {v1 : Int32} {v2 : Int32} (h : w_X10_ones_4 Po v0 v1 v2) : gJ X V 0 0 4 [(0, .int v0), (1, .int v1), (2, .int v2)] [] I J := by
  unfold w_X10_ones_4 at h
  obtain ⟨Inv, mu, h0, hs⟩ := h
  have key : ∀ (n : Nat) (v1 : Int32) (v2 : Int32), Inv v1 v2 → mu v1 v2 < n → gJ X V 0 0 4 [(0, .int v0), (1, .int v1), (2, .int v2)] [] I J := by
    intro n
    induction n with
    | zero => intro v1 v2 hi hn; exact absurd hn (Nat.not_lt_zero _)
    | succ n ih =>
      intro v1 v2 hi hn
      exact t_X10_ones_4b   C hX hR  (fun u1 u2 hk => ih u1 u2 hk.1 (Nat.lt_of_lt_of_le hk.2 (Nat.le_of_lt_succ hn))) (hs v1 v2 hi)
  exact key _ v1 v2 h0 (Nat.lt_succ_self _)
set_option maxRecDepth 100000 in
set_option maxHeartbeats 4000000 in
theorem m_X10_ones {l : Launch} {D : va_G} {cy : Nat → ClassId} {V : gV} {a0 : Int32} {I : gI} {J : gL} {Po : Int32 → Prop} (h : wp_X10_ones a0 Po) : gMet l D cy yX10_ones cX10_ones 3 (some .int) rm_X10_ones V [.int a0] I J (gPi V (fun x I' J' => I = I' ∧ J = J' ∧ Po x)) := by
  refine gMet.of (by decide) (Nat.le_of_ble_eq_true rfl) (fun X hX C hR => ?_)
  have C : gC X cX10_ones RX10 (some .int) 3 rm_X10_ones := C
  show gJ X V 0 0 0 [(0, .int a0)] [] I J
  unfold wp_X10_ones at h
  refine j_iconst (pc := 0) (v := 0) C dX10_ones_0 (by decide) ?_
  refine j_istore_n (pc := 1) (lv' := [(1, .int (0 : Int32)), (0, .int a0)]) C dX10_ones_1 rfl (by decide) rfl ?_
  refine j_iconst (pc := 2) (v := 0) C dX10_ones_2 (by decide) ?_
  refine j_istore_n (pc := 3) (lv' := [(2, .int (0 : Int32)), (1, .int (0 : Int32)), (0, .int a0)]) C dX10_ones_3 rfl (by decide) rfl ?_
  refine gJ.sub [2, 1, 0] rfl ?_
  exact t_X10_ones_4   C hX hR  h
/-! TileRulesModel.layRows(IZ)V -/
abbrev rm_X10_layRows : Room := { frames := 0, cells := 0, slots := 0, locals := 0 }
theorem ok_X10_layRows : gOk yX10_layRows cX10_layRows 10 none 2 := ⟨wd_1129, wd_74, by decide +kernel⟩
def w_X10_layRows_296  (Po : gI → Prop) (K32 : Int32 → gI → Prop) (v1 : Int32) (v2 : Int32) (v3 : Int32) (v4 : Int32) (I : gI) : Prop :=
  ∀ n9 : Int32, n9 = v4 + 1 → K32 n9 I
def w_X10_layRows_194  (Po : gI → Prop) (K32 : Int32 → gI → Prop) (K136 : Int32 → Int32 → Int32 → Int32 → Prop) (v1 : Int32) (v2 : Int32) (v3 : Int32) (v4 : Int32) (v7 : Int32) (v8 : Int32) (v9 : Int32) (s0 : Int32) (I : gI) : Prop :=
  vp_in v9 4 ∧ vp_in ((4 : Int32) * (I 205 (v9).toNatClampNeg)) 32 ∧ ∀ n20 : Int32, n20 = (((10 : Int32) * v7) + (I 201 (((4 : Int32) * (I 205 (v9).toNatClampNeg))).toNatClampNeg)) → vp_in v9 4 ∧ vp_in (((4 : Int32) * (I 205 (v9).toNatClampNeg)) + (2 : Int32)) 32 ∧ ∀ n23 : Int32, n23 = (((10 : Int32) * v8) + (I 201 ((((4 : Int32) * (I 205 (v9).toNatClampNeg)) + (2 : Int32))).toNatClampNeg)) → ∀ n24 : Int32, n24 = v9 + 1 → K136 s0 n20 n23 n24
def w_X10_layRows_193  (Po : gI → Prop) (K32 : Int32 → gI → Prop) (K136 : Int32 → Int32 → Int32 → Int32 → Prop) (v1 : Int32) (v2 : Int32) (v3 : Int32) (v4 : Int32) (v7 : Int32) (v8 : Int32) (v9 : Int32) (I : gI) : Prop :=
  w_X10_layRows_194 Po K32 K136 v1 v2 v3 v4 v7 v8 v9 (0 : Int32) I
def w_X10_layRows_189  (Po : gI → Prop) (K32 : Int32 → gI → Prop) (K136 : Int32 → Int32 → Int32 → Int32 → Prop) (v1 : Int32) (v2 : Int32) (v3 : Int32) (v4 : Int32) (v7 : Int32) (v8 : Int32) (v9 : Int32) (I : gI) : Prop :=
  w_X10_layRows_194 Po K32 K136 v1 v2 v3 v4 v7 v8 v9 (1 : Int32) I
def w_X10_layRows_136b  (Po : gI → Prop) (K32 : Int32 → gI → Prop) (K136 : Int32 → Int32 → Int32 → Int32 → Prop) (v1 : Int32) (v2 : Int32) (v3 : Int32) (v4 : Int32) (v6 : Int32) (v7 : Int32) (v8 : Int32) (v9 : Int32) (I : gI) : Prop :=
  (v1 ≤ v9 → (v6 = 0 → w_X10_layRows_296 Po K32 v1 v2 v3 v4 I) ∧ (¬ v6 = 0 → vp_in (I 200 5) 4096 ∧ ∀ I11 : gI, I11 = gup I 202 ((I 200 5)).toNatClampNeg v4 → vp_in (I11 200 5) 4096 ∧ ∀ I13 : gI, I13 = gup I11 203 ((I11 200 5)).toNatClampNeg v7 → vp_in (I13 200 5) 4096 ∧ ∀ I15 : gI, I15 = gup I13 204 ((I13 200 5)).toNatClampNeg v8 → ∀ I16 : gI, I16 = gup I15 200 5 ((I15 200 5) + (1 : Int32)) → w_X10_layRows_296 Po K32 v1 v2 v3 v4 I16)) ∧ (¬ v1 ≤ v9 → (v6 = 0 → w_X10_layRows_193 Po K32 K136 v1 v2 v3 v4 v7 v8 v9 I) ∧ (¬ v6 = 0 → (v9 = 0 → w_X10_layRows_189 Po K32 K136 v1 v2 v3 v4 v7 v8 v9 I) ∧ (¬ v9 = 0 → vp_in (v9 - (1 : Int32)) 4 ∧ vp_in (((4 : Int32) * (I 205 ((v9 - (1 : Int32))).toNatClampNeg)) + (1 : Int32)) 32 ∧ vp_in v9 4 ∧ vp_in (((4 : Int32) * (I 205 (v9).toNatClampNeg)) + (3 : Int32)) 32 ∧ (¬ (I 201 ((((4 : Int32) * (I 205 ((v9 - (1 : Int32))).toNatClampNeg)) + (1 : Int32))).toNatClampNeg) = (I 201 ((((4 : Int32) * (I 205 (v9).toNatClampNeg)) + (3 : Int32))).toNatClampNeg) → w_X10_layRows_193 Po K32 K136 v1 v2 v3 v4 v7 v8 v9 I) ∧ ((I 201 ((((4 : Int32) * (I 205 ((v9 - (1 : Int32))).toNatClampNeg)) + (1 : Int32))).toNatClampNeg) = (I 201 ((((4 : Int32) * (I 205 (v9).toNatClampNeg)) + (3 : Int32))).toNatClampNeg) → w_X10_layRows_189 Po K32 K136 v1 v2 v3 v4 v7 v8 v9 I))))
def w_X10_layRows_136  (Po : gI → Prop) (K32 : Int32 → gI → Prop) (v1 : Int32) (v2 : Int32) (v3 : Int32) (v4 : Int32) (v6 : Int32) (v7 : Int32) (v8 : Int32) (v9 : Int32) (I : gI) : Prop :=
  ∃ (Inv : Int32 → Int32 → Int32 → Int32 → Prop) (mu : Int32 → Int32 → Int32 → Int32 → Nat), Inv v6 v7 v8 v9 ∧ ∀ (v6 : Int32) (v7 : Int32) (v8 : Int32) (v9 : Int32), Inv v6 v7 v8 v9 → w_X10_layRows_136b  Po K32 (fun u6 u7 u8 u9 => Inv u6 u7 u8 u9 ∧ mu u6 u7 u8 u9 < mu v6 v7 v8 v9) v1 v2 v3 v4 v6 v7 v8 v9 I
def w_X10_layRows_125  (Po : gI → Prop) (K32 : Int32 → gI → Prop) (v1 : Int32) (v2 : Int32) (v3 : Int32) (v4 : Int32) (s0 : Int32) (I : gI) : Prop :=
  w_X10_layRows_136 Po K32 v1 v2 v3 v4 s0 (0 : Int32) (0 : Int32) (0 : Int32) I
def w_X10_layRows_120  (Po : gI → Prop) (K32 : Int32 → gI → Prop) (v1 : Int32) (v2 : Int32) (v3 : Int32) (v4 : Int32) (I : gI) : Prop :=
  w_X10_layRows_125 Po K32 v1 v2 v3 v4 (1 : Int32) I
def w_X10_layRows_47b  (Po : gI → Prop) (K32 : Int32 → gI → Prop) (K47 : Int32 → Int32 → gI → Prop) (v1 : Int32) (v2 : Int32) (v3 : Int32) (v4 : Int32) (v5 : Int32) (v6 : Int32) (I : gI) : Prop :=
  (v6 < 0 → (v2 = 0 → w_X10_layRows_120 Po K32 v1 v2 v3 v4 I) ∧ (¬ v2 = 0 → vp_in (v1 - (1 : Int32)) 4 ∧ vp_in (((4 : Int32) * (I 205 ((v1 - (1 : Int32))).toNatClampNeg)) + (1 : Int32)) 32 ∧ vp_in (0 : Int32) 4 ∧ vp_in (((4 : Int32) * (I 205 ((0 : Int32)).toNatClampNeg)) + (3 : Int32)) 32 ∧ (¬ (I 201 ((((4 : Int32) * (I 205 ((v1 - (1 : Int32))).toNatClampNeg)) + (1 : Int32))).toNatClampNeg) = (I 201 ((((4 : Int32) * (I 205 ((0 : Int32)).toNatClampNeg)) + (3 : Int32))).toNatClampNeg) → w_X10_layRows_125 Po K32 v1 v2 v3 v4 (0 : Int32) I) ∧ ((I 201 ((((4 : Int32) * (I 205 ((v1 - (1 : Int32))).toNatClampNeg)) + (1 : Int32))).toNatClampNeg) = (I 201 ((((4 : Int32) * (I 205 ((0 : Int32)).toNatClampNeg)) + (3 : Int32))).toNatClampNeg) → w_X10_layRows_120 Po K32 v1 v2 v3 v4 I))) ∧ (¬ v6 < 0 → ¬ (I 200 0) = 0 ∧ vp_in v6 4 ∧ ∀ I38 : gI, I38 = gup I 205 (v6).toNatClampNeg (v5 - v5 / (I 200 0) * (I 200 0)) → ¬ (I38 200 0) = 0 ∧ ∀ n40 : Int32, n40 = (v5 / (I38 200 0)) → ∀ n41 : Int32, n41 = v6 + (-1) → K47 n40 n41 I38)
def w_X10_layRows_47  (Po : gI → Prop) (K32 : Int32 → gI → Prop) (v1 : Int32) (v2 : Int32) (v3 : Int32) (v4 : Int32) (v5 : Int32) (v6 : Int32) (I : gI) : Prop :=
  ∃ (Inv : Int32 → Int32 → gI → Prop) (mu : Int32 → Int32 → gI → Nat), Inv v5 v6 I ∧ ∀ (v5 : Int32) (v6 : Int32) (I : gI), Inv v5 v6 I → w_X10_layRows_47b  Po K32 (fun u5 u6 I1 => Inv u5 u6 I1 ∧ mu u5 u6 I1 < mu v5 v6 I) v1 v2 v3 v4 v5 v6 I
def w_X10_layRows_32b  (Po : gI → Prop) (K32 : Int32 → gI → Prop) (v1 : Int32) (v2 : Int32) (v3 : Int32) (v4 : Int32) (I : gI) : Prop :=
  (v3 ≤ v4 → Po I) ∧ (¬ v3 ≤ v4 → ∀ n4 : Int32, n4 = (v1 - (1 : Int32)) → w_X10_layRows_47 Po K32 v1 v2 v3 v4 v4 n4 I)
def w_X10_layRows_32  (Po : gI → Prop)  (v1 : Int32) (v2 : Int32) (v3 : Int32) (v4 : Int32) (I : gI) : Prop :=
  ∃ (Inv : Int32 → gI → Prop) (mu : Int32 → gI → Nat), Inv v4 I ∧ ∀ (v4 : Int32) (I : gI), Inv v4 I → w_X10_layRows_32b  Po  (fun u4 I1 => Inv u4 I1 ∧ mu u4 I1 < mu v4 I) v1 v2 v3 v4 I
def w_X10_layRows_10b  (Po : gI → Prop) (K10 : Int32 → Int32 → Prop) (v1 : Int32) (v2 : Int32) (v3 : Int32) (v4 : Int32) (I : gI) : Prop :=
  (v1 ≤ v4 → w_X10_layRows_32 Po v1 v2 v3 (0 : Int32) I) ∧ (¬ v1 ≤ v4 → ∀ n42 : Int32, n42 = (v3 * (I 200 0)) → ∀ n43 : Int32, n43 = v4 + 1 → K10 n42 n43)
def w_X10_layRows_10  (Po : gI → Prop)  (v1 : Int32) (v2 : Int32) (v3 : Int32) (v4 : Int32) (I : gI) : Prop :=
  ∃ (Inv : Int32 → Int32 → Prop) (mu : Int32 → Int32 → Nat), Inv v3 v4 ∧ ∀ (v3 : Int32) (v4 : Int32), Inv v3 v4 → w_X10_layRows_10b  Po  (fun u3 u4 => Inv u3 u4 ∧ mu u3 u4 < mu v3 v4) v1 v2 v3 v4 I
def wp_X10_layRows (a1 : Int32) (a2 : Int32) (I : gI) (Po : gI → Prop) : Prop :=
  ∀ I1 : gI, I1 = gup I 200 5 (0 : Int32) → w_X10_layRows_10 Po a1 a2 (1 : Int32) (0 : Int32) I1
set_option maxRecDepth 100000 in
set_option maxHeartbeats 4000000 in
theorem t_X10_layRows_296 {X : gX} {l : Launch} {D : va_G} {cy : Nat → ClassId} {nm : String} {V : gV} (hM : gModM V) (C : gC X cX10_layRows RX10 none 10 rm_X10_layRows) (hX : gIs X l D cy nm) {I : gI} {J : gL} {Po : gI → Prop} (hR : gR X (gPv V (fun I' J' => J = J' ∧ Po I'))) {v1 : Int32} {v2 : Int32} {v3 : Int32} {v4 : Int32} {K32 : Int32 → gI → Prop} (hK32 : ∀ (y4 : Int32) (I1 : gI), K32 y4 I1 → gJ X V 0 0 32 [(0, .ref (V.2.1 200)), (1, .int v1), (2, .int v2), (3, .int v3), (4, .int y4)] [] I1 J) (h : w_X10_layRows_296 Po K32 v1 v2 v3 v4 I) : gJ X V 0 0 296 [(0, .ref (V.2.1 200)), (1, .int v1), (2, .int v2), (3, .int v3), (4, .int v4)] [] I J := by
  unfold w_X10_layRows_296 at h
  obtain ⟨n9, en9⟩ : ∃ z : Int32, z = v4 + 1 := ⟨_, rfl⟩
  have h := h n9 en9
  refine j_iinc (pc := 296) (v := n9) (lv' := [(4, .int n9), (0, .ref (V.2.1 200)), (1, .int v1), (2, .int v2), (3, .int v3)]) C dX10_layRows_296 4 rfl (by rw [en9]; rfl) (by decide) rfl ?_
  refine j_goto (pc := 299) (tgt := 32) C dX10_layRows_299 (by decide) ?_
  refine gJ.sub [1, 2, 3, 4, 0] rfl ?_
  exact hK32 _ _ h
set_option maxRecDepth 100000 in
set_option maxHeartbeats 4000000 in
theorem t_X10_layRows_194 {X : gX} {l : Launch} {D : va_G} {cy : Nat → ClassId} {nm : String} {V : gV} (hM : gModM V) (C : gC X cX10_layRows RX10 none 10 rm_X10_layRows) (hX : gIs X l D cy nm) {I : gI} {J : gL} {Po : gI → Prop} (hR : gR X (gPv V (fun I' J' => J = J' ∧ Po I'))) {v1 : Int32} {v2 : Int32} {v3 : Int32} {v4 : Int32} {v7 : Int32} {v8 : Int32} {v9 : Int32} {s0 : Int32} {K32 : Int32 → gI → Prop} {K136 : Int32 → Int32 → Int32 → Int32 → Prop} (hK32 : ∀ (y4 : Int32) (I1 : gI), K32 y4 I1 → gJ X V 0 0 32 [(0, .ref (V.2.1 200)), (1, .int v1), (2, .int v2), (3, .int v3), (4, .int y4)] [] I1 J) (hK136 : ∀ (y6 : Int32) (y7 : Int32) (y8 : Int32) (y9 : Int32), K136 y6 y7 y8 y9 → gJ X V 0 0 136 [(0, .ref (V.2.1 200)), (1, .int v1), (2, .int v2), (3, .int v3), (4, .int v4), (6, .int y6), (7, .int y7), (8, .int y8), (9, .int y9)] [] I J) (h : w_X10_layRows_194 Po K32 K136 v1 v2 v3 v4 v7 v8 v9 s0 I) : gJ X V 0 0 194 [(0, .ref (V.2.1 200)), (1, .int v1), (2, .int v2), (3, .int v3), (4, .int v4), (7, .int v7), (8, .int v8), (9, .int v9)] [.int s0] I J := by
  unfold w_X10_layRows_194 at h
  refine j_istore (pc := 194) (lv' := [(6, .int s0), (0, .ref (V.2.1 200)), (1, .int v1), (2, .int v2), (3, .int v3), (4, .int v4), (7, .int v7), (8, .int v8), (9, .int v9)]) C dX10_layRows_194 (by decide) rfl ?_
  refine j_bipush (pc := 196) (v := 10) C dX10_layRows_196 (by decide) ?_
  refine j_iload (pc := 198) C dX10_layRows_198 6 rfl ?_
  refine j_imul (pc := 200) C dX10_layRows_200 ?_
  refine j_aload_n (pc := 201) C dX10_layRows_201 rfl 1 rfl ?_
  refine j_getR (pc := 202) C 200 1 201 (c_200 hM).1 (c_200 hM).2 rfl rfl (by decide) inw_X10 wd_967 dX10_layRows_202 ?_
  refine j_iconst (pc := 205) (v := 4) C dX10_layRows_205 (by decide) ?_
  refine j_aload_n (pc := 206) C dX10_layRows_206 rfl 1 rfl ?_
  refine j_getR (pc := 207) C 200 6 205 (c_200 hM).1 (c_200 hM).2 rfl rfl (by decide) inw_X10 wd_972 dX10_layRows_207 ?_
  refine j_iload (pc := 210) C dX10_layRows_210 8 rfl ?_
  obtain ⟨g18, h⟩ := h
  refine j_iald (pc := 212) C 205 (c_205 hM).1 (c_205 hM).2 g18 dX10_layRows_212 ?_
  refine j_imul (pc := 213) C dX10_layRows_213 ?_
  obtain ⟨g19, h⟩ := h
  refine j_iald (pc := 214) C 201 (c_201 hM).1 (c_201 hM).2 g19 dX10_layRows_214 ?_
  refine j_iadd (pc := 215) C dX10_layRows_215 ?_
  refine gJ.topi (fun n20 en20 => ?_)
  have h := h n20 en20
  refine j_istore (pc := 216) (lv' := [(7, .int n20), (6, .int s0), (0, .ref (V.2.1 200)), (1, .int v1), (2, .int v2), (3, .int v3), (4, .int v4), (8, .int v8), (9, .int v9)]) C dX10_layRows_216 (by decide) rfl ?_
  refine j_bipush (pc := 218) (v := 10) C dX10_layRows_218 (by decide) ?_
  refine j_iload (pc := 220) C dX10_layRows_220 7 rfl ?_
  refine j_imul (pc := 222) C dX10_layRows_222 ?_
  refine j_aload_n (pc := 223) C dX10_layRows_223 rfl 2 rfl ?_
  refine j_getR (pc := 224) C 200 1 201 (c_200 hM).1 (c_200 hM).2 rfl rfl (by decide) inw_X10 wd_967 dX10_layRows_224 ?_
  refine j_iconst (pc := 227) (v := 4) C dX10_layRows_227 (by decide) ?_
  refine j_aload_n (pc := 228) C dX10_layRows_228 rfl 2 rfl ?_
  refine j_getR (pc := 229) C 200 6 205 (c_200 hM).1 (c_200 hM).2 rfl rfl (by decide) inw_X10 wd_972 dX10_layRows_229 ?_
  refine j_iload (pc := 232) C dX10_layRows_232 8 rfl ?_
  obtain ⟨g21, h⟩ := h
  refine j_iald (pc := 234) C 205 (c_205 hM).1 (c_205 hM).2 g21 dX10_layRows_234 ?_
  refine j_imul (pc := 235) C dX10_layRows_235 ?_
  refine j_iconst (pc := 236) (v := 2) C dX10_layRows_236 (by decide) ?_
  refine j_iadd (pc := 237) C dX10_layRows_237 ?_
  obtain ⟨g22, h⟩ := h
  refine j_iald (pc := 238) C 201 (c_201 hM).1 (c_201 hM).2 g22 dX10_layRows_238 ?_
  refine j_iadd (pc := 239) C dX10_layRows_239 ?_
  refine gJ.topi (fun n23 en23 => ?_)
  have h := h n23 en23
  refine j_istore (pc := 240) (lv' := [(8, .int n23), (7, .int n20), (6, .int s0), (0, .ref (V.2.1 200)), (1, .int v1), (2, .int v2), (3, .int v3), (4, .int v4), (9, .int v9)]) C dX10_layRows_240 (by decide) rfl ?_
  obtain ⟨n24, en24⟩ : ∃ z : Int32, z = v9 + 1 := ⟨_, rfl⟩
  have h := h n24 en24
  refine j_iinc (pc := 242) (v := n24) (lv' := [(9, .int n24), (8, .int n23), (7, .int n20), (6, .int s0), (0, .ref (V.2.1 200)), (1, .int v1), (2, .int v2), (3, .int v3), (4, .int v4)]) C dX10_layRows_242 8 rfl (by rw [en24]; rfl) (by decide) rfl ?_
  refine j_goto (pc := 245) (tgt := 136) C dX10_layRows_245 (by decide) ?_
  refine gJ.sub [4, 5, 6, 7, 8, 3, 2, 1, 0] rfl ?_
  exact hK136 _ _ _ _ h
set_option maxRecDepth 100000 in
set_option maxHeartbeats 4000000 in
theorem t_X10_layRows_193 {X : gX} {l : Launch} {D : va_G} {cy : Nat → ClassId} {nm : String} {V : gV} (hM : gModM V) (C : gC X cX10_layRows RX10 none 10 rm_X10_layRows) (hX : gIs X l D cy nm) {I : gI} {J : gL} {Po : gI → Prop} (hR : gR X (gPv V (fun I' J' => J = J' ∧ Po I'))) {v1 : Int32} {v2 : Int32} {v3 : Int32} {v4 : Int32} {v7 : Int32} {v8 : Int32} {v9 : Int32} {K32 : Int32 → gI → Prop} {K136 : Int32 → Int32 → Int32 → Int32 → Prop} (hK32 : ∀ (y4 : Int32) (I1 : gI), K32 y4 I1 → gJ X V 0 0 32 [(0, .ref (V.2.1 200)), (1, .int v1), (2, .int v2), (3, .int v3), (4, .int y4)] [] I1 J) (hK136 : ∀ (y6 : Int32) (y7 : Int32) (y8 : Int32) (y9 : Int32), K136 y6 y7 y8 y9 → gJ X V 0 0 136 [(0, .ref (V.2.1 200)), (1, .int v1), (2, .int v2), (3, .int v3), (4, .int v4), (6, .int y6), (7, .int y7), (8, .int y8), (9, .int y9)] [] I J) (h : w_X10_layRows_193 Po K32 K136 v1 v2 v3 v4 v7 v8 v9 I) : gJ X V 0 0 193 [(0, .ref (V.2.1 200)), (1, .int v1), (2, .int v2), (3, .int v3), (4, .int v4), (7, .int v7), (8, .int v8), (9, .int v9)] [] I J := by
  unfold w_X10_layRows_193 at h
  refine j_iconst (pc := 193) (v := 0) C dX10_layRows_193 (by decide) ?_
  refine gJ.sub [0, 1, 2, 3, 4, 5, 6, 7] rfl ?_
  exact t_X10_layRows_194 hM  C hX hR hK32 hK136 h
set_option maxRecDepth 100000 in
set_option maxHeartbeats 4000000 in
theorem t_X10_layRows_189 {X : gX} {l : Launch} {D : va_G} {cy : Nat → ClassId} {nm : String} {V : gV} (hM : gModM V) (C : gC X cX10_layRows RX10 none 10 rm_X10_layRows) (hX : gIs X l D cy nm) {I : gI} {J : gL} {Po : gI → Prop} (hR : gR X (gPv V (fun I' J' => J = J' ∧ Po I'))) {v1 : Int32} {v2 : Int32} {v3 : Int32} {v4 : Int32} {v7 : Int32} {v8 : Int32} {v9 : Int32} {K32 : Int32 → gI → Prop} {K136 : Int32 → Int32 → Int32 → Int32 → Prop} (hK32 : ∀ (y4 : Int32) (I1 : gI), K32 y4 I1 → gJ X V 0 0 32 [(0, .ref (V.2.1 200)), (1, .int v1), (2, .int v2), (3, .int v3), (4, .int y4)] [] I1 J) (hK136 : ∀ (y6 : Int32) (y7 : Int32) (y8 : Int32) (y9 : Int32), K136 y6 y7 y8 y9 → gJ X V 0 0 136 [(0, .ref (V.2.1 200)), (1, .int v1), (2, .int v2), (3, .int v3), (4, .int v4), (6, .int y6), (7, .int y7), (8, .int y8), (9, .int y9)] [] I J) (h : w_X10_layRows_189 Po K32 K136 v1 v2 v3 v4 v7 v8 v9 I) : gJ X V 0 0 189 [(0, .ref (V.2.1 200)), (1, .int v1), (2, .int v2), (3, .int v3), (4, .int v4), (7, .int v7), (8, .int v8), (9, .int v9)] [] I J := by
  unfold w_X10_layRows_189 at h
  refine j_iconst (pc := 189) (v := 1) C dX10_layRows_189 (by decide) ?_
  refine j_goto (pc := 190) (tgt := 194) C dX10_layRows_190 (by decide) ?_
  refine gJ.sub [0, 1, 2, 3, 4, 5, 6, 7] rfl ?_
  exact t_X10_layRows_194 hM  C hX hR hK32 hK136 h
set_option maxRecDepth 100000 in
set_option maxHeartbeats 4000000 in
theorem t_X10_layRows_136b {X : gX} {l : Launch} {D : va_G} {cy : Nat → ClassId} {nm : String} {V : gV} (hM : gModM V) (C : gC X cX10_layRows RX10 none 10 rm_X10_layRows) (hX : gIs X l D cy nm) {I : gI} {J : gL} {Po : gI → Prop} (hR : gR X (gPv V (fun I' J' => J = J' ∧ Po I'))) {v1 : Int32} {v2 : Int32} {v3 : Int32} {v4 : Int32} {v6 : Int32} {v7 : Int32} {v8 : Int32} {v9 : Int32} {K32 : Int32 → gI → Prop} {K136 : Int32 → Int32 → Int32 → Int32 → Prop} (hK32 : ∀ (y4 : Int32) (I1 : gI), K32 y4 I1 → gJ X V 0 0 32 [(0, .ref (V.2.1 200)), (1, .int v1), (2, .int v2), (3, .int v3), (4, .int y4)] [] I1 J) (hK136 : ∀ (y6 : Int32) (y7 : Int32) (y8 : Int32) (y9 : Int32), K136 y6 y7 y8 y9 → gJ X V 0 0 136 [(0, .ref (V.2.1 200)), (1, .int v1), (2, .int v2), (3, .int v3), (4, .int v4), (6, .int y6), (7, .int y7), (8, .int y8), (9, .int y9)] [] I J) (h : w_X10_layRows_136b Po K32 K136 v1 v2 v3 v4 v6 v7 v8 v9 I) : gJ X V 0 0 136 [(0, .ref (V.2.1 200)), (1, .int v1), (2, .int v2), (3, .int v3), (4, .int v4), (6, .int v6), (7, .int v7), (8, .int v8), (9, .int v9)] [] I J := by
  unfold w_X10_layRows_136b at h
  refine j_iload (pc := 136) C dX10_layRows_136 8 rfl ?_
  refine j_iload_n (pc := 138) C dX10_layRows_138 rfl 1 rfl ?_
  refine j_icmp_ge (pc := 139) (tgt := 248) C dX10_layRows_139 (by decide) (fun c7 => ?_) (fun c7 => ?_)
  · have h := h.1 c7
    refine j_iload (pc := 248) C dX10_layRows_248 5 rfl ?_
    refine j_if_eq (pc := 250) (tgt := 296) C dX10_layRows_250 (by decide) (fun c8 => ?_) (fun c8 => ?_)
    · have h := h.1 c8
      refine gJ.sub [0, 1, 2, 3, 4] rfl ?_
      exact t_X10_layRows_296 hM  C hX hR hK32 h
    · have h := h.2 c8
      refine j_aload_n (pc := 253) C dX10_layRows_253 rfl 0 rfl ?_
      refine j_getR (pc := 254) C 200 2 202 (c_200 hM).1 (c_200 hM).2 rfl rfl (by decide) inw_X10 wd_968 dX10_layRows_254 ?_
      refine j_aload_n (pc := 257) C dX10_layRows_257 rfl 0 rfl ?_
      refine j_getI (pc := 258) C 200 5 (c_200 hM).1 (c_200 hM).2 rfl rfl (by decide) inw_X10 wd_971 dX10_layRows_258 ?_
      refine j_iload (pc := 261) C dX10_layRows_261 4 rfl ?_
      obtain ⟨g10, h⟩ := h
      refine j_iast (pc := 263) C 202 (c_202 hM).1 (c_202 hM).2 g10 dX10_layRows_263 ?_
      refine gJ.nmI (fun I11 eI11 => ?_)
      have h := h I11 eI11
      refine j_aload_n (pc := 264) C dX10_layRows_264 rfl 0 rfl ?_
      refine j_getR (pc := 265) C 200 3 203 (c_200 hM).1 (c_200 hM).2 rfl rfl (by decide) inw_X10 wd_969 dX10_layRows_265 ?_
      refine j_aload_n (pc := 268) C dX10_layRows_268 rfl 0 rfl ?_
      refine j_getI (pc := 269) C 200 5 (c_200 hM).1 (c_200 hM).2 rfl rfl (by decide) inw_X10 wd_971 dX10_layRows_269 ?_
      refine j_iload (pc := 272) C dX10_layRows_272 6 rfl ?_
      obtain ⟨g12, h⟩ := h
      refine j_iast (pc := 274) C 203 (c_203 hM).1 (c_203 hM).2 g12 dX10_layRows_274 ?_
      refine gJ.nmI (fun I13 eI13 => ?_)
      have h := h I13 eI13
      refine j_aload_n (pc := 275) C dX10_layRows_275 rfl 0 rfl ?_
      refine j_getR (pc := 276) C 200 4 204 (c_200 hM).1 (c_200 hM).2 rfl rfl (by decide) inw_X10 wd_970 dX10_layRows_276 ?_
      refine j_aload_n (pc := 279) C dX10_layRows_279 rfl 0 rfl ?_
      refine j_getI (pc := 280) C 200 5 (c_200 hM).1 (c_200 hM).2 rfl rfl (by decide) inw_X10 wd_971 dX10_layRows_280 ?_
      refine j_iload (pc := 283) C dX10_layRows_283 7 rfl ?_
      obtain ⟨g14, h⟩ := h
      refine j_iast (pc := 285) C 204 (c_204 hM).1 (c_204 hM).2 g14 dX10_layRows_285 ?_
      refine gJ.nmI (fun I15 eI15 => ?_)
      have h := h I15 eI15
      refine j_aload_n (pc := 286) C dX10_layRows_286 rfl 0 rfl ?_
      refine j_dup (pc := 287) C dX10_layRows_287 rfl ?_
      refine j_getI (pc := 288) C 200 5 (c_200 hM).1 (c_200 hM).2 rfl rfl (by decide) inw_X10 wd_971 dX10_layRows_288 ?_
      refine j_iconst (pc := 291) (v := 1) C dX10_layRows_291 (by decide) ?_
      refine j_iadd (pc := 292) C dX10_layRows_292 ?_
      refine j_putI (pc := 293) (ft := .int) C tyX10 tyX10_ok nmX10 200 5 (c_200 hM).1 (c_200 hM).2 rfl rfl (by decide) inw_X10 wd_971 rfl (by decide +kernel) rfl rfl dX10_layRows_293 ?_
      refine gJ.nmI (fun I16 eI16 => ?_)
      have h := h I16 eI16
      refine gJ.sub [0, 1, 2, 3, 4] rfl ?_
      exact t_X10_layRows_296 hM  C hX hR hK32 h
  · have h := h.2 c7
    refine j_iload (pc := 142) C dX10_layRows_142 5 rfl ?_
    refine j_if_eq (pc := 144) (tgt := 193) C dX10_layRows_144 (by decide) (fun c17 => ?_) (fun c17 => ?_)
    · have h := h.1 c17
      refine gJ.sub [0, 1, 2, 3, 4, 6, 7, 8] rfl ?_
      exact t_X10_layRows_193 hM  C hX hR hK32 hK136 h
    · have h := h.2 c17
      refine j_iload (pc := 147) C dX10_layRows_147 8 rfl ?_
      refine j_if_eq (pc := 149) (tgt := 189) C dX10_layRows_149 (by decide) (fun c25 => ?_) (fun c25 => ?_)
      · have h := h.1 c25
        refine gJ.sub [0, 1, 2, 3, 4, 6, 7, 8] rfl ?_
        exact t_X10_layRows_189 hM  C hX hR hK32 hK136 h
      · have h := h.2 c25
        refine j_aload_n (pc := 152) C dX10_layRows_152 rfl 0 rfl ?_
        refine j_getR (pc := 153) C 200 1 201 (c_200 hM).1 (c_200 hM).2 rfl rfl (by decide) inw_X10 wd_967 dX10_layRows_153 ?_
        refine j_iconst (pc := 156) (v := 4) C dX10_layRows_156 (by decide) ?_
        refine j_aload_n (pc := 157) C dX10_layRows_157 rfl 0 rfl ?_
        refine j_getR (pc := 158) C 200 6 205 (c_200 hM).1 (c_200 hM).2 rfl rfl (by decide) inw_X10 wd_972 dX10_layRows_158 ?_
        refine j_iload (pc := 161) C dX10_layRows_161 8 rfl ?_
        refine j_iconst (pc := 163) (v := 1) C dX10_layRows_163 (by decide) ?_
        refine j_isub (pc := 164) C dX10_layRows_164 ?_
        obtain ⟨g26, h⟩ := h
        refine j_iald (pc := 165) C 205 (c_205 hM).1 (c_205 hM).2 g26 dX10_layRows_165 ?_
        refine j_imul (pc := 166) C dX10_layRows_166 ?_
        refine j_iconst (pc := 167) (v := 1) C dX10_layRows_167 (by decide) ?_
        refine j_iadd (pc := 168) C dX10_layRows_168 ?_
        obtain ⟨g27, h⟩ := h
        refine j_iald (pc := 169) C 201 (c_201 hM).1 (c_201 hM).2 g27 dX10_layRows_169 ?_
        refine j_aload_n (pc := 170) C dX10_layRows_170 rfl 0 rfl ?_
        refine j_getR (pc := 171) C 200 1 201 (c_200 hM).1 (c_200 hM).2 rfl rfl (by decide) inw_X10 wd_967 dX10_layRows_171 ?_
        refine j_iconst (pc := 174) (v := 4) C dX10_layRows_174 (by decide) ?_
        refine j_aload_n (pc := 175) C dX10_layRows_175 rfl 0 rfl ?_
        refine j_getR (pc := 176) C 200 6 205 (c_200 hM).1 (c_200 hM).2 rfl rfl (by decide) inw_X10 wd_972 dX10_layRows_176 ?_
        refine j_iload (pc := 179) C dX10_layRows_179 8 rfl ?_
        obtain ⟨g28, h⟩ := h
        refine j_iald (pc := 181) C 205 (c_205 hM).1 (c_205 hM).2 g28 dX10_layRows_181 ?_
        refine j_imul (pc := 182) C dX10_layRows_182 ?_
        refine j_iconst (pc := 183) (v := 3) C dX10_layRows_183 (by decide) ?_
        refine j_iadd (pc := 184) C dX10_layRows_184 ?_
        obtain ⟨g29, h⟩ := h
        refine j_iald (pc := 185) C 201 (c_201 hM).1 (c_201 hM).2 g29 dX10_layRows_185 ?_
        refine j_icmp_ne (pc := 186) (tgt := 193) C dX10_layRows_186 (by decide) (fun c30 => ?_) (fun c30 => ?_)
        · have h := h.1 c30
          refine gJ.sub [0, 1, 2, 3, 4, 6, 7, 8] rfl ?_
          exact t_X10_layRows_193 hM  C hX hR hK32 hK136 h
        · have h := h.2 c30
          refine gJ.sub [0, 1, 2, 3, 4, 6, 7, 8] rfl ?_
          exact t_X10_layRows_189 hM  C hX hR hK32 hK136 h
set_option maxRecDepth 100000 in
set_option maxHeartbeats 4000000 in
theorem t_X10_layRows_136 {X : gX} {l : Launch} {D : va_G} {cy : Nat → ClassId} {nm : String} {V : gV} (hM : gModM V) (C : gC X cX10_layRows RX10 none 10 rm_X10_layRows) (hX : gIs X l D cy nm) {I : gI} {J : gL} {Po : gI → Prop} (hR : gR X (gPv V (fun I' J' => J = J' ∧ Po I'))) {v1 : Int32} {v2 : Int32} {v3 : Int32} {v4 : Int32} {v6 : Int32} {v7 : Int32} {v8 : Int32} {v9 : Int32} {K32 : Int32 → gI → Prop} (hK32 : ∀ (y4 : Int32) (I1 : gI), K32 y4 I1 → gJ X V 0 0 32 [(0, .ref (V.2.1 200)), (1, .int v1), (2, .int v2), (3, .int v3), (4, .int y4)] [] I1 J) (h : w_X10_layRows_136 Po K32 v1 v2 v3 v4 v6 v7 v8 v9 I) : gJ X V 0 0 136 [(0, .ref (V.2.1 200)), (1, .int v1), (2, .int v2), (3, .int v3), (4, .int v4), (6, .int v6), (7, .int v7), (8, .int v8), (9, .int v9)] [] I J := by
  unfold w_X10_layRows_136 at h
  obtain ⟨Inv, mu, h0, hs⟩ := h
  have key : ∀ (n : Nat) (v6 : Int32) (v7 : Int32) (v8 : Int32) (v9 : Int32), Inv v6 v7 v8 v9 → mu v6 v7 v8 v9 < n → gJ X V 0 0 136 [(0, .ref (V.2.1 200)), (1, .int v1), (2, .int v2), (3, .int v3), (4, .int v4), (6, .int v6), (7, .int v7), (8, .int v8), (9, .int v9)] [] I J := by
    intro n
    induction n with
    | zero => intro v6 v7 v8 v9 hi hn; exact absurd hn (Nat.not_lt_zero _)
    | succ n ih =>
      intro v6 v7 v8 v9 hi hn
      exact t_X10_layRows_136b hM  C hX hR hK32 (fun u6 u7 u8 u9 hk => ih u6 u7 u8 u9 hk.1 (Nat.lt_of_lt_of_le hk.2 (Nat.le_of_lt_succ hn))) (hs v6 v7 v8 v9 hi)
  exact key _ v6 v7 v8 v9 h0 (Nat.lt_succ_self _)
set_option maxRecDepth 100000 in
set_option maxHeartbeats 4000000 in
theorem t_X10_layRows_125 {X : gX} {l : Launch} {D : va_G} {cy : Nat → ClassId} {nm : String} {V : gV} (hM : gModM V) (C : gC X cX10_layRows RX10 none 10 rm_X10_layRows) (hX : gIs X l D cy nm) {I : gI} {J : gL} {Po : gI → Prop} (hR : gR X (gPv V (fun I' J' => J = J' ∧ Po I'))) {v1 : Int32} {v2 : Int32} {v3 : Int32} {v4 : Int32} {s0 : Int32} {K32 : Int32 → gI → Prop} (hK32 : ∀ (y4 : Int32) (I1 : gI), K32 y4 I1 → gJ X V 0 0 32 [(0, .ref (V.2.1 200)), (1, .int v1), (2, .int v2), (3, .int v3), (4, .int y4)] [] I1 J) (h : w_X10_layRows_125 Po K32 v1 v2 v3 v4 s0 I) : gJ X V 0 0 125 [(0, .ref (V.2.1 200)), (1, .int v1), (2, .int v2), (3, .int v3), (4, .int v4)] [.int s0] I J := by
  unfold w_X10_layRows_125 at h
  refine j_istore (pc := 125) (lv' := [(6, .int s0), (0, .ref (V.2.1 200)), (1, .int v1), (2, .int v2), (3, .int v3), (4, .int v4)]) C dX10_layRows_125 (by decide) rfl ?_
  refine j_iconst (pc := 127) (v := 0) C dX10_layRows_127 (by decide) ?_
  refine j_istore (pc := 128) (lv' := [(7, .int (0 : Int32)), (6, .int s0), (0, .ref (V.2.1 200)), (1, .int v1), (2, .int v2), (3, .int v3), (4, .int v4)]) C dX10_layRows_128 (by decide) rfl ?_
  refine j_iconst (pc := 130) (v := 0) C dX10_layRows_130 (by decide) ?_
  refine j_istore (pc := 131) (lv' := [(8, .int (0 : Int32)), (7, .int (0 : Int32)), (6, .int s0), (0, .ref (V.2.1 200)), (1, .int v1), (2, .int v2), (3, .int v3), (4, .int v4)]) C dX10_layRows_131 (by decide) rfl ?_
  refine j_iconst (pc := 133) (v := 0) C dX10_layRows_133 (by decide) ?_
  refine j_istore (pc := 134) (lv' := [(9, .int (0 : Int32)), (8, .int (0 : Int32)), (7, .int (0 : Int32)), (6, .int s0), (0, .ref (V.2.1 200)), (1, .int v1), (2, .int v2), (3, .int v3), (4, .int v4)]) C dX10_layRows_134 (by decide) rfl ?_
  refine gJ.sub [4, 5, 6, 7, 8, 3, 2, 1, 0] rfl ?_
  exact t_X10_layRows_136 hM  C hX hR hK32 h
set_option maxRecDepth 100000 in
set_option maxHeartbeats 4000000 in
theorem t_X10_layRows_120 {X : gX} {l : Launch} {D : va_G} {cy : Nat → ClassId} {nm : String} {V : gV} (hM : gModM V) (C : gC X cX10_layRows RX10 none 10 rm_X10_layRows) (hX : gIs X l D cy nm) {I : gI} {J : gL} {Po : gI → Prop} (hR : gR X (gPv V (fun I' J' => J = J' ∧ Po I'))) {v1 : Int32} {v2 : Int32} {v3 : Int32} {v4 : Int32} {K32 : Int32 → gI → Prop} (hK32 : ∀ (y4 : Int32) (I1 : gI), K32 y4 I1 → gJ X V 0 0 32 [(0, .ref (V.2.1 200)), (1, .int v1), (2, .int v2), (3, .int v3), (4, .int y4)] [] I1 J) (h : w_X10_layRows_120 Po K32 v1 v2 v3 v4 I) : gJ X V 0 0 120 [(0, .ref (V.2.1 200)), (1, .int v1), (2, .int v2), (3, .int v3), (4, .int v4)] [] I J := by
  unfold w_X10_layRows_120 at h
  refine j_iconst (pc := 120) (v := 1) C dX10_layRows_120 (by decide) ?_
  refine j_goto (pc := 121) (tgt := 125) C dX10_layRows_121 (by decide) ?_
  refine gJ.sub [0, 1, 2, 3, 4] rfl ?_
  exact t_X10_layRows_125 hM  C hX hR hK32 h
set_option maxRecDepth 100000 in
set_option maxHeartbeats 4000000 in
theorem t_X10_layRows_47b {X : gX} {l : Launch} {D : va_G} {cy : Nat → ClassId} {nm : String} {V : gV} (hM : gModM V) (C : gC X cX10_layRows RX10 none 10 rm_X10_layRows) (hX : gIs X l D cy nm) {I : gI} {J : gL} {Po : gI → Prop} (hR : gR X (gPv V (fun I' J' => J = J' ∧ Po I'))) {v1 : Int32} {v2 : Int32} {v3 : Int32} {v4 : Int32} {v5 : Int32} {v6 : Int32} {K32 : Int32 → gI → Prop} {K47 : Int32 → Int32 → gI → Prop} (hK32 : ∀ (y4 : Int32) (I1 : gI), K32 y4 I1 → gJ X V 0 0 32 [(0, .ref (V.2.1 200)), (1, .int v1), (2, .int v2), (3, .int v3), (4, .int y4)] [] I1 J) (hK47 : ∀ (y5 : Int32) (y6 : Int32) (I1 : gI), K47 y5 y6 I1 → gJ X V 0 0 47 [(0, .ref (V.2.1 200)), (1, .int v1), (2, .int v2), (3, .int v3), (4, .int v4), (5, .int y5), (6, .int y6)] [] I1 J) (h : w_X10_layRows_47b Po K32 K47 v1 v2 v3 v4 v5 v6 I) : gJ X V 0 0 47 [(0, .ref (V.2.1 200)), (1, .int v1), (2, .int v2), (3, .int v3), (4, .int v4), (5, .int v5), (6, .int v6)] [] I J := by
  unfold w_X10_layRows_47b at h
  refine j_iload (pc := 47) C dX10_layRows_47 6 rfl ?_
  refine j_if_lt (pc := 49) (tgt := 81) C dX10_layRows_49 (by decide) (fun c5 => ?_) (fun c5 => ?_)
  · have h := h.1 c5
    refine j_iload_n (pc := 81) C dX10_layRows_81 rfl 2 rfl ?_
    refine j_if_eq (pc := 82) (tgt := 120) C dX10_layRows_82 (by decide) (fun c6 => ?_) (fun c6 => ?_)
    · have h := h.1 c6
      refine gJ.sub [0, 1, 2, 3, 4] rfl ?_
      exact t_X10_layRows_120 hM  C hX hR hK32 h
    · have h := h.2 c6
      refine j_aload_n (pc := 85) C dX10_layRows_85 rfl 0 rfl ?_
      refine j_getR (pc := 86) C 200 1 201 (c_200 hM).1 (c_200 hM).2 rfl rfl (by decide) inw_X10 wd_967 dX10_layRows_86 ?_
      refine j_iconst (pc := 89) (v := 4) C dX10_layRows_89 (by decide) ?_
      refine j_aload_n (pc := 90) C dX10_layRows_90 rfl 0 rfl ?_
      refine j_getR (pc := 91) C 200 6 205 (c_200 hM).1 (c_200 hM).2 rfl rfl (by decide) inw_X10 wd_972 dX10_layRows_91 ?_
      refine j_iload_n (pc := 94) C dX10_layRows_94 rfl 1 rfl ?_
      refine j_iconst (pc := 95) (v := 1) C dX10_layRows_95 (by decide) ?_
      refine j_isub (pc := 96) C dX10_layRows_96 ?_
      obtain ⟨g31, h⟩ := h
      refine j_iald (pc := 97) C 205 (c_205 hM).1 (c_205 hM).2 g31 dX10_layRows_97 ?_
      refine j_imul (pc := 98) C dX10_layRows_98 ?_
      refine j_iconst (pc := 99) (v := 1) C dX10_layRows_99 (by decide) ?_
      refine j_iadd (pc := 100) C dX10_layRows_100 ?_
      obtain ⟨g32, h⟩ := h
      refine j_iald (pc := 101) C 201 (c_201 hM).1 (c_201 hM).2 g32 dX10_layRows_101 ?_
      refine j_aload_n (pc := 102) C dX10_layRows_102 rfl 0 rfl ?_
      refine j_getR (pc := 103) C 200 1 201 (c_200 hM).1 (c_200 hM).2 rfl rfl (by decide) inw_X10 wd_967 dX10_layRows_103 ?_
      refine j_iconst (pc := 106) (v := 4) C dX10_layRows_106 (by decide) ?_
      refine j_aload_n (pc := 107) C dX10_layRows_107 rfl 0 rfl ?_
      refine j_getR (pc := 108) C 200 6 205 (c_200 hM).1 (c_200 hM).2 rfl rfl (by decide) inw_X10 wd_972 dX10_layRows_108 ?_
      refine j_iconst (pc := 111) (v := 0) C dX10_layRows_111 (by decide) ?_
      obtain ⟨g33, h⟩ := h
      refine j_iald (pc := 112) C 205 (c_205 hM).1 (c_205 hM).2 g33 dX10_layRows_112 ?_
      refine j_imul (pc := 113) C dX10_layRows_113 ?_
      refine j_iconst (pc := 114) (v := 3) C dX10_layRows_114 (by decide) ?_
      refine j_iadd (pc := 115) C dX10_layRows_115 ?_
      obtain ⟨g34, h⟩ := h
      refine j_iald (pc := 116) C 201 (c_201 hM).1 (c_201 hM).2 g34 dX10_layRows_116 ?_
      refine j_icmp_ne (pc := 117) (tgt := 124) C dX10_layRows_117 (by decide) (fun c35 => ?_) (fun c35 => ?_)
      · have h := h.1 c35
        refine j_iconst (pc := 124) (v := 0) C dX10_layRows_124 (by decide) ?_
        refine gJ.sub [0, 1, 2, 3, 4] rfl ?_
        exact t_X10_layRows_125 hM  C hX hR hK32 h
      · have h := h.2 c35
        refine gJ.sub [0, 1, 2, 3, 4] rfl ?_
        exact t_X10_layRows_120 hM  C hX hR hK32 h
  · have h := h.2 c5
    refine j_aload_n (pc := 52) C dX10_layRows_52 rfl 0 rfl ?_
    refine j_getR (pc := 53) C 200 6 205 (c_200 hM).1 (c_200 hM).2 rfl rfl (by decide) inw_X10 wd_972 dX10_layRows_53 ?_
    refine j_iload (pc := 56) C dX10_layRows_56 6 rfl ?_
    refine j_iload (pc := 58) C dX10_layRows_58 5 rfl ?_
    refine j_aload_n (pc := 60) C dX10_layRows_60 rfl 0 rfl ?_
    refine j_getI (pc := 61) C 200 0 (c_200 hM).1 (c_200 hM).2 rfl rfl (by decide) inw_X10 wd_966 dX10_layRows_61 ?_
    obtain ⟨g36, h⟩ := h
    refine j_irem (pc := 64) C dX10_layRows_64 g36 ?_
    obtain ⟨g37, h⟩ := h
    refine j_iast (pc := 65) C 205 (c_205 hM).1 (c_205 hM).2 g37 dX10_layRows_65 ?_
    refine gJ.nmI (fun I38 eI38 => ?_)
    have h := h I38 eI38
    refine j_iload (pc := 66) C dX10_layRows_66 5 rfl ?_
    refine j_aload_n (pc := 68) C dX10_layRows_68 rfl 0 rfl ?_
    refine j_getI (pc := 69) C 200 0 (c_200 hM).1 (c_200 hM).2 rfl rfl (by decide) inw_X10 wd_966 dX10_layRows_69 ?_
    obtain ⟨g39, h⟩ := h
    refine j_idiv (pc := 72) C dX10_layRows_72 g39 ?_
    refine gJ.topi (fun n40 en40 => ?_)
    have h := h n40 en40
    refine j_istore (pc := 73) (lv' := [(5, .int n40), (0, .ref (V.2.1 200)), (1, .int v1), (2, .int v2), (3, .int v3), (4, .int v4), (6, .int v6)]) C dX10_layRows_73 (by decide) rfl ?_
    obtain ⟨n41, en41⟩ : ∃ z : Int32, z = v6 + (-1) := ⟨_, rfl⟩
    have h := h n41 en41
    refine j_iinc (pc := 75) (v := n41) (lv' := [(6, .int n41), (5, .int n40), (0, .ref (V.2.1 200)), (1, .int v1), (2, .int v2), (3, .int v3), (4, .int v4)]) C dX10_layRows_75 6 rfl (by rw [en41]; rfl) (by decide) rfl ?_
    refine j_goto (pc := 78) (tgt := 47) C dX10_layRows_78 (by decide) ?_
    refine gJ.sub [2, 3, 4, 5, 6, 1, 0] rfl ?_
    exact hK47 _ _ _ h
set_option maxRecDepth 100000 in
set_option maxHeartbeats 4000000 in
theorem t_X10_layRows_47 {X : gX} {l : Launch} {D : va_G} {cy : Nat → ClassId} {nm : String} {V : gV} (hM : gModM V) (C : gC X cX10_layRows RX10 none 10 rm_X10_layRows) (hX : gIs X l D cy nm) {I : gI} {J : gL} {Po : gI → Prop} (hR : gR X (gPv V (fun I' J' => J = J' ∧ Po I'))) {v1 : Int32} {v2 : Int32} {v3 : Int32} {v4 : Int32} {v5 : Int32} {v6 : Int32} {K32 : Int32 → gI → Prop} (hK32 : ∀ (y4 : Int32) (I1 : gI), K32 y4 I1 → gJ X V 0 0 32 [(0, .ref (V.2.1 200)), (1, .int v1), (2, .int v2), (3, .int v3), (4, .int y4)] [] I1 J) (h : w_X10_layRows_47 Po K32 v1 v2 v3 v4 v5 v6 I) : gJ X V 0 0 47 [(0, .ref (V.2.1 200)), (1, .int v1), (2, .int v2), (3, .int v3), (4, .int v4), (5, .int v5), (6, .int v6)] [] I J := by
  unfold w_X10_layRows_47 at h
  obtain ⟨Inv, mu, h0, hs⟩ := h
  have key : ∀ (n : Nat) (v5 : Int32) (v6 : Int32) (I : gI), Inv v5 v6 I → mu v5 v6 I < n → gJ X V 0 0 47 [(0, .ref (V.2.1 200)), (1, .int v1), (2, .int v2), (3, .int v3), (4, .int v4), (5, .int v5), (6, .int v6)] [] I J := by
    intro n
    induction n with
    | zero => intro v5 v6 I hi hn; exact absurd hn (Nat.not_lt_zero _)
    | succ n ih =>
      intro v5 v6 I hi hn
      exact t_X10_layRows_47b hM  C hX hR hK32 (fun u5 u6 I1 hk => ih u5 u6 I1 hk.1 (Nat.lt_of_lt_of_le hk.2 (Nat.le_of_lt_succ hn))) (hs v5 v6 I hi)
  exact key _ v5 v6 I h0 (Nat.lt_succ_self _)
set_option maxRecDepth 100000 in
set_option maxHeartbeats 4000000 in
theorem t_X10_layRows_32b {X : gX} {l : Launch} {D : va_G} {cy : Nat → ClassId} {nm : String} {V : gV} (hM : gModM V) (C : gC X cX10_layRows RX10 none 10 rm_X10_layRows) (hX : gIs X l D cy nm) {I : gI} {J : gL} {Po : gI → Prop} (hR : gR X (gPv V (fun I' J' => J = J' ∧ Po I'))) {v1 : Int32} {v2 : Int32} {v3 : Int32} {v4 : Int32} {K32 : Int32 → gI → Prop} (hK32 : ∀ (y4 : Int32) (I1 : gI), K32 y4 I1 → gJ X V 0 0 32 [(0, .ref (V.2.1 200)), (1, .int v1), (2, .int v2), (3, .int v3), (4, .int y4)] [] I1 J) (h : w_X10_layRows_32b Po K32 v1 v2 v3 v4 I) : gJ X V 0 0 32 [(0, .ref (V.2.1 200)), (1, .int v1), (2, .int v2), (3, .int v3), (4, .int v4)] [] I J := by
  unfold w_X10_layRows_32b at h
  refine j_iload (pc := 32) C dX10_layRows_32 4 rfl ?_
  refine j_iload_n (pc := 34) C dX10_layRows_34 rfl 3 rfl ?_
  refine j_icmp_ge (pc := 35) (tgt := 302) C dX10_layRows_35 (by decide) (fun c3 => ?_) (fun c3 => ?_)
  · have h := h.1 c3
    exact j_vret (pc := 302) C hR (Nat.zero_le _) (Nat.zero_le _) dX10_layRows_302 ⟨rfl, rfl, rfl, h⟩
  · have h := h.2 c3
    refine j_iload (pc := 38) C dX10_layRows_38 4 rfl ?_
    refine j_istore (pc := 40) (lv' := [(5, .int v4), (0, .ref (V.2.1 200)), (1, .int v1), (2, .int v2), (3, .int v3), (4, .int v4)]) C dX10_layRows_40 (by decide) rfl ?_
    refine j_iload_n (pc := 42) C dX10_layRows_42 rfl 2 rfl ?_
    refine j_iconst (pc := 43) (v := 1) C dX10_layRows_43 (by decide) ?_
    refine j_isub (pc := 44) C dX10_layRows_44 ?_
    refine gJ.topi (fun n4 en4 => ?_)
    have h := h n4 en4
    refine j_istore (pc := 45) (lv' := [(6, .int n4), (5, .int v4), (0, .ref (V.2.1 200)), (1, .int v1), (2, .int v2), (3, .int v3), (4, .int v4)]) C dX10_layRows_45 (by decide) rfl ?_
    refine gJ.sub [2, 3, 4, 5, 6, 1, 0] rfl ?_
    exact t_X10_layRows_47 hM  C hX hR hK32 h
set_option maxRecDepth 100000 in
set_option maxHeartbeats 4000000 in
theorem t_X10_layRows_32 {X : gX} {l : Launch} {D : va_G} {cy : Nat → ClassId} {nm : String} {V : gV} (hM : gModM V) (C : gC X cX10_layRows RX10 none 10 rm_X10_layRows) (hX : gIs X l D cy nm) {I : gI} {J : gL} {Po : gI → Prop} (hR : gR X (gPv V (fun I' J' => J = J' ∧ Po I'))) {v1 : Int32} {v2 : Int32} {v3 : Int32} {v4 : Int32} (h : w_X10_layRows_32 Po v1 v2 v3 v4 I) : gJ X V 0 0 32 [(0, .ref (V.2.1 200)), (1, .int v1), (2, .int v2), (3, .int v3), (4, .int v4)] [] I J := by
  unfold w_X10_layRows_32 at h
  obtain ⟨Inv, mu, h0, hs⟩ := h
  have key : ∀ (n : Nat) (v4 : Int32) (I : gI), Inv v4 I → mu v4 I < n → gJ X V 0 0 32 [(0, .ref (V.2.1 200)), (1, .int v1), (2, .int v2), (3, .int v3), (4, .int v4)] [] I J := by
    intro n
    induction n with
    | zero => intro v4 I hi hn; exact absurd hn (Nat.not_lt_zero _)
    | succ n ih =>
      intro v4 I hi hn
      exact t_X10_layRows_32b hM  C hX hR  (fun u4 I1 hk => ih u4 I1 hk.1 (Nat.lt_of_lt_of_le hk.2 (Nat.le_of_lt_succ hn))) (hs v4 I hi)
  exact key _ v4 I h0 (Nat.lt_succ_self _)
set_option maxRecDepth 100000 in
set_option maxHeartbeats 4000000 in
theorem t_X10_layRows_10b {X : gX} {l : Launch} {D : va_G} {cy : Nat → ClassId} {nm : String} {V : gV} (hM : gModM V) (C : gC X cX10_layRows RX10 none 10 rm_X10_layRows) (hX : gIs X l D cy nm) {I : gI} {J : gL} {Po : gI → Prop} (hR : gR X (gPv V (fun I' J' => J = J' ∧ Po I'))) {v1 : Int32} {v2 : Int32} {v3 : Int32} {v4 : Int32} {K10 : Int32 → Int32 → Prop} (hK10 : ∀ (y3 : Int32) (y4 : Int32), K10 y3 y4 → gJ X V 0 0 10 [(0, .ref (V.2.1 200)), (1, .int v1), (2, .int v2), (3, .int y3), (4, .int y4)] [] I J) (h : w_X10_layRows_10b Po K10 v1 v2 v3 v4 I) : gJ X V 0 0 10 [(0, .ref (V.2.1 200)), (1, .int v1), (2, .int v2), (3, .int v3), (4, .int v4)] [] I J := by
  unfold w_X10_layRows_10b at h
  refine j_iload (pc := 10) C dX10_layRows_10 4 rfl ?_
  refine j_iload_n (pc := 12) C dX10_layRows_12 rfl 1 rfl ?_
  refine j_icmp_ge (pc := 13) (tgt := 29) C dX10_layRows_13 (by decide) (fun c2 => ?_) (fun c2 => ?_)
  · have h := h.1 c2
    refine j_iconst (pc := 29) (v := 0) C dX10_layRows_29 (by decide) ?_
    refine j_istore (pc := 30) (lv' := [(4, .int (0 : Int32)), (0, .ref (V.2.1 200)), (1, .int v1), (2, .int v2), (3, .int v3)]) C dX10_layRows_30 (by decide) rfl ?_
    refine gJ.sub [1, 2, 3, 4, 0] rfl ?_
    exact t_X10_layRows_32 hM  C hX hR  h
  · have h := h.2 c2
    refine j_iload_n (pc := 16) C dX10_layRows_16 rfl 3 rfl ?_
    refine j_aload_n (pc := 17) C dX10_layRows_17 rfl 0 rfl ?_
    refine j_getI (pc := 18) C 200 0 (c_200 hM).1 (c_200 hM).2 rfl rfl (by decide) inw_X10 wd_966 dX10_layRows_18 ?_
    refine j_imul (pc := 21) C dX10_layRows_21 ?_
    refine gJ.topi (fun n42 en42 => ?_)
    have h := h n42 en42
    refine j_istore_n (pc := 22) (lv' := [(3, .int n42), (0, .ref (V.2.1 200)), (1, .int v1), (2, .int v2), (4, .int v4)]) C dX10_layRows_22 rfl (by decide) rfl ?_
    obtain ⟨n43, en43⟩ : ∃ z : Int32, z = v4 + 1 := ⟨_, rfl⟩
    have h := h n43 en43
    refine j_iinc (pc := 23) (v := n43) (lv' := [(4, .int n43), (3, .int n42), (0, .ref (V.2.1 200)), (1, .int v1), (2, .int v2)]) C dX10_layRows_23 4 rfl (by rw [en43]; rfl) (by decide) rfl ?_
    refine j_goto (pc := 26) (tgt := 10) C dX10_layRows_26 (by decide) ?_
    refine gJ.sub [2, 3, 4, 1, 0] rfl ?_
    exact hK10 _ _ h
set_option maxRecDepth 100000 in
set_option maxHeartbeats 4000000 in
theorem t_X10_layRows_10 {X : gX} {l : Launch} {D : va_G} {cy : Nat → ClassId} {nm : String} {V : gV} (hM : gModM V) (C : gC X cX10_layRows RX10 none 10 rm_X10_layRows) (hX : gIs X l D cy nm) {I : gI} {J : gL} {Po : gI → Prop} (hR : gR X (gPv V (fun I' J' => J = J' ∧ Po I'))) {v1 : Int32} {v2 : Int32} {v3 : Int32} {v4 : Int32} (h : w_X10_layRows_10 Po v1 v2 v3 v4 I) : gJ X V 0 0 10 [(0, .ref (V.2.1 200)), (1, .int v1), (2, .int v2), (3, .int v3), (4, .int v4)] [] I J := by
  unfold w_X10_layRows_10 at h
  obtain ⟨Inv, mu, h0, hs⟩ := h
  have key : ∀ (n : Nat) (v3 : Int32) (v4 : Int32), Inv v3 v4 → mu v3 v4 < n → gJ X V 0 0 10 [(0, .ref (V.2.1 200)), (1, .int v1), (2, .int v2), (3, .int v3), (4, .int v4)] [] I J := by
    intro n
    induction n with
    | zero => intro v3 v4 hi hn; exact absurd hn (Nat.not_lt_zero _)
    | succ n ih =>
      intro v3 v4 hi hn
      exact t_X10_layRows_10b hM  C hX hR  (fun u3 u4 hk => ih u3 u4 hk.1 (Nat.lt_of_lt_of_le hk.2 (Nat.le_of_lt_succ hn))) (hs v3 v4 hi)
  exact key _ v3 v4 h0 (Nat.lt_succ_self _)
set_option maxRecDepth 100000 in
set_option maxHeartbeats 4000000 in
theorem m_X10_layRows {l : Launch} {D : va_G} {cy : Nat → ClassId} {V : gV} (hM : gModM V) {a1 : Int32} {a2 : Int32} {I : gI} {J : gL} {Po : gI → Prop} (h : wp_X10_layRows a1 a2 I Po) : gMet l D cy yX10_layRows cX10_layRows 10 none rm_X10_layRows V [.ref (V.2.1 200), .int a1, .int a2] I J (gPv V (fun I' J' => J = J' ∧ Po I')) := by
  refine gMet.of (by decide) (Nat.le_of_ble_eq_true rfl) (fun X hX C hR => ?_)
  have C : gC X cX10_layRows RX10 none 10 rm_X10_layRows := C
  show gJ X V 0 0 0 [(0, .ref (V.2.1 200)), (1, .int a1), (2, .int a2)] [] I J
  unfold wp_X10_layRows at h
  refine j_aload_n (pc := 0) C dX10_layRows_0 rfl 0 rfl ?_
  refine j_iconst (pc := 1) (v := 0) C dX10_layRows_1 (by decide) ?_
  refine j_putI (pc := 2) (ft := .int) C tyX10 tyX10_ok nmX10 200 5 (c_200 hM).1 (c_200 hM).2 rfl rfl (by decide) inw_X10 wd_971 rfl (by decide +kernel) rfl rfl dX10_layRows_2 ?_
  refine gJ.nmI (fun I1 eI1 => ?_)
  have h := h I1 eI1
  refine j_iconst (pc := 5) (v := 1) C dX10_layRows_5 (by decide) ?_
  refine j_istore_n (pc := 6) (lv' := [(3, .int (1 : Int32)), (0, .ref (V.2.1 200)), (1, .int a1), (2, .int a2)]) C dX10_layRows_6 rfl (by decide) rfl ?_
  refine j_iconst (pc := 7) (v := 0) C dX10_layRows_7 (by decide) ?_
  refine j_istore (pc := 8) (lv' := [(4, .int (0 : Int32)), (3, .int (1 : Int32)), (0, .ref (V.2.1 200)), (1, .int a1), (2, .int a2)]) C dX10_layRows_8 (by decide) rfl ?_
  refine gJ.sub [2, 3, 4, 1, 0] rfl ?_
  exact t_X10_layRows_10 hM  C hX hR  h
/-! TileRulesModel.tellWays(II)V -/
abbrev rm_X10_tellWays : Room := { frames := 0, cells := 0, slots := 0, locals := 0 }
theorem ok_X10_tellWays : gOk yX10_tellWays cX10_tellWays 5 none 2 := ⟨wd_1133, wd_74, by decide +kernel⟩
def w_X10_tellWays_77b  (Po : gL → Prop) (K38 : Int32 → gL → Prop) (K77 : Int32 → gL → Prop) (v1 : Int32) (v3 : Int32) (v4 : Int32) (I : gI) (J : gL) : Prop :=
  ((I 200 5) ≤ v4 → ∀ n5 : Int32, n5 = v3 + 1 → K38 n5 J) ∧ (¬ (I 200 5) ≤ v4 → vp_in v4 4096 ∧ vp_in (((10000 : Int32) * v3) + (I 203 (v4).toNatClampNeg)) 50000 ∧ vp_in v4 4096 ∧ vp_in (((10000 : Int32) * (v3 - (1 : Int32))) + (I 204 (v4).toNatClampNeg)) 50000 ∧ vp_in (((10000 : Int32) * v3) + (I 203 (v4).toNatClampNeg)) 50000 ∧ ∀ J11 : gL, J11 = gup J 206 ((((10000 : Int32) * v3) + (I 203 (v4).toNatClampNeg))).toNatClampNeg ((J 206 ((((10000 : Int32) * v3) + (I 203 (v4).toNatClampNeg))).toNatClampNeg) + (J 206 ((((10000 : Int32) * (v3 - (1 : Int32))) + (I 204 (v4).toNatClampNeg))).toNatClampNeg)) → ∀ n12 : Int32, n12 = v4 + 1 → K77 n12 J11)
def w_X10_tellWays_77  (Po : gL → Prop) (K38 : Int32 → gL → Prop) (v1 : Int32) (v3 : Int32) (v4 : Int32) (I : gI) (J : gL) : Prop :=
  ∃ (Inv : Int32 → gL → Prop) (mu : Int32 → gL → Nat), Inv v4 J ∧ ∀ (v4 : Int32) (J : gL), Inv v4 J → w_X10_tellWays_77b  Po K38 (fun u4 J1 => Inv u4 J1 ∧ mu u4 J1 < mu v4 J) v1 v3 v4 I J
def w_X10_tellWays_46b  (Po : gL → Prop) (K38 : Int32 → gL → Prop) (K46 : Int32 → gL → Prop) (v1 : Int32) (v3 : Int32) (v4 : Int32) (I : gI) (J : gL) : Prop :=
  ((10000 : Int32) ≤ v4 → w_X10_tellWays_77 Po K38 v1 v3 (0 : Int32) I J) ∧ (¬ (10000 : Int32) ≤ v4 → vp_in (((10000 : Int32) * v3) + v4) 50000 ∧ ∀ J14 : gL, J14 = gup J 206 ((((10000 : Int32) * v3) + v4)).toNatClampNeg (0 : Int64) → ∀ n15 : Int32, n15 = v4 + 1 → K46 n15 J14)
def w_X10_tellWays_46  (Po : gL → Prop) (K38 : Int32 → gL → Prop) (v1 : Int32) (v3 : Int32) (v4 : Int32) (I : gI) (J : gL) : Prop :=
  ∃ (Inv : Int32 → gL → Prop) (mu : Int32 → gL → Nat), Inv v4 J ∧ ∀ (v4 : Int32) (J : gL), Inv v4 J → w_X10_tellWays_46b  Po K38 (fun u4 J1 => Inv u4 J1 ∧ mu u4 J1 < mu v4 J) v1 v3 v4 I J
def w_X10_tellWays_38b  (Po : gL → Prop) (K38 : Int32 → gL → Prop) (v1 : Int32) (v3 : Int32) (I : gI) (J : gL) : Prop :=
  (v1 < v3 → Po J) ∧ (¬ v1 < v3 → w_X10_tellWays_46 Po K38 v1 v3 (0 : Int32) I J)
def w_X10_tellWays_38  (Po : gL → Prop)  (v1 : Int32) (v3 : Int32) (I : gI) (J : gL) : Prop :=
  ∃ (Inv : Int32 → gL → Prop) (mu : Int32 → gL → Nat), Inv v3 J ∧ ∀ (v3 : Int32) (J : gL), Inv v3 J → w_X10_tellWays_38b  Po  (fun u3 J1 => Inv u3 J1 ∧ mu u3 J1 < mu v3 J) v1 v3 I J
def w_X10_tellWays_29  (Po : gL → Prop) (K2 : Int32 → gL → Prop) (v1 : Int32) (v2 : Int32) (v3 : Int32) (s0 : Int64) (s1 : Int32) (I : gI) (J : gL) : Prop :=
  vp_in s1 50000 ∧ ∀ J18 : gL, J18 = gup J 206 (s1).toNatClampNeg s0 → ∀ n19 : Int32, n19 = v3 + 1 → K2 n19 J18
def w_X10_tellWays_24  (Po : gL → Prop) (K2 : Int32 → gL → Prop) (v1 : Int32) (v2 : Int32) (v3 : Int32) (s0 : Int32) (I : gI) (J : gL) : Prop :=
  w_X10_tellWays_29 Po K2 v1 v2 v3 (1 : Int64) s0 I J
def w_X10_tellWays_2b  (Po : gL → Prop) (K2 : Int32 → gL → Prop) (v1 : Int32) (v2 : Int32) (v3 : Int32) (I : gI) (J : gL) : Prop :=
  ((10000 : Int32) ≤ v3 → w_X10_tellWays_38 Po v1 (1 : Int32) I J) ∧ (¬ (10000 : Int32) ≤ v3 → (v2 = (-1 : Int32) → w_X10_tellWays_24 Po K2 v1 v2 v3 v3 I J) ∧ (¬ v2 = (-1 : Int32) → (¬ v3 = v2 → w_X10_tellWays_29 Po K2 v1 v2 v3 (0 : Int64) v3 I J) ∧ (v3 = v2 → w_X10_tellWays_24 Po K2 v1 v2 v3 v3 I J)))
def w_X10_tellWays_2  (Po : gL → Prop)  (v1 : Int32) (v2 : Int32) (v3 : Int32) (I : gI) (J : gL) : Prop :=
  ∃ (Inv : Int32 → gL → Prop) (mu : Int32 → gL → Nat), Inv v3 J ∧ ∀ (v3 : Int32) (J : gL), Inv v3 J → w_X10_tellWays_2b  Po  (fun u3 J1 => Inv u3 J1 ∧ mu u3 J1 < mu v3 J) v1 v2 v3 I J
def wp_X10_tellWays (a1 : Int32) (a2 : Int32) (I : gI) (J : gL) (Po : gL → Prop) : Prop :=
  w_X10_tellWays_2 Po a1 a2 (0 : Int32) I J
set_option maxRecDepth 100000 in
set_option maxHeartbeats 4000000 in
theorem t_X10_tellWays_77b {X : gX} {l : Launch} {D : va_G} {cy : Nat → ClassId} {nm : String} {V : gV} (hM : gModM V) (C : gC X cX10_tellWays RX10 none 5 rm_X10_tellWays) (hX : gIs X l D cy nm) {I : gI} {J : gL} {Po : gL → Prop} (hR : gR X (gPv V (fun I' J' => I = I' ∧ Po J'))) {v1 : Int32} {v3 : Int32} {v4 : Int32} {K38 : Int32 → gL → Prop} {K77 : Int32 → gL → Prop} (hK38 : ∀ (y3 : Int32) (J1 : gL), K38 y3 J1 → gJ X V 0 0 38 [(0, .ref (V.2.1 200)), (1, .int v1), (3, .int y3)] [] I J1) (hK77 : ∀ (y4 : Int32) (J1 : gL), K77 y4 J1 → gJ X V 0 0 77 [(0, .ref (V.2.1 200)), (1, .int v1), (3, .int v3), (4, .int y4)] [] I J1) (h : w_X10_tellWays_77b Po K38 K77 v1 v3 v4 I J) : gJ X V 0 0 77 [(0, .ref (V.2.1 200)), (1, .int v1), (3, .int v3), (4, .int v4)] [] I J := by
  unfold w_X10_tellWays_77b at h
  refine j_iload (pc := 77) C dX10_tellWays_77 3 rfl ?_
  refine j_aload_n (pc := 79) C dX10_tellWays_79 rfl 0 rfl ?_
  refine j_getI (pc := 80) C 200 5 (c_200 hM).1 (c_200 hM).2 rfl rfl (by decide) inw_X10 wd_971 dX10_tellWays_80 ?_
  refine j_icmp_ge (pc := 83) (tgt := 133) C dX10_tellWays_83 (by decide) (fun c4 => ?_) (fun c4 => ?_)
  · have h := h.1 c4
    obtain ⟨n5, en5⟩ : ∃ z : Int32, z = v3 + 1 := ⟨_, rfl⟩
    have h := h n5 en5
    refine j_iinc (pc := 133) (v := n5) (lv' := [(3, .int n5), (0, .ref (V.2.1 200)), (1, .int v1), (4, .int v4)]) C dX10_tellWays_133 2 rfl (by rw [en5]; rfl) (by decide) rfl ?_
    refine j_goto (pc := 136) (tgt := 38) C dX10_tellWays_136 (by decide) ?_
    refine gJ.sub [1, 2, 0] rfl ?_
    exact hK38 _ _ h
  · have h := h.2 c4
    refine j_aload_n (pc := 86) C dX10_tellWays_86 rfl 0 rfl ?_
    refine j_getR (pc := 87) C 200 7 206 (c_200 hM).1 (c_200 hM).2 rfl rfl (by decide) inw_X10 wd_973 dX10_tellWays_87 ?_
    refine j_sipush (pc := 90) (v := 10000) C dX10_tellWays_90 (by decide) ?_
    refine j_iload_n (pc := 93) C dX10_tellWays_93 rfl 2 rfl ?_
    refine j_imul (pc := 94) C dX10_tellWays_94 ?_
    refine j_aload_n (pc := 95) C dX10_tellWays_95 rfl 0 rfl ?_
    refine j_getR (pc := 96) C 200 3 203 (c_200 hM).1 (c_200 hM).2 rfl rfl (by decide) inw_X10 wd_969 dX10_tellWays_96 ?_
    refine j_iload (pc := 99) C dX10_tellWays_99 3 rfl ?_
    obtain ⟨g6, h⟩ := h
    refine j_iald (pc := 101) C 203 (c_203 hM).1 (c_203 hM).2 g6 dX10_tellWays_101 ?_
    refine j_iadd (pc := 102) C dX10_tellWays_102 ?_
    refine j_dup2_11 (pc := 103) C dX10_tellWays_103 rfl rfl ?_
    obtain ⟨g7, h⟩ := h
    refine j_lald (pc := 104) C 206 (c_206 hM).1 (c_206 hM).2 g7 dX10_tellWays_104 ?_
    refine j_aload_n (pc := 105) C dX10_tellWays_105 rfl 0 rfl ?_
    refine j_getR (pc := 106) C 200 7 206 (c_200 hM).1 (c_200 hM).2 rfl rfl (by decide) inw_X10 wd_973 dX10_tellWays_106 ?_
    refine j_sipush (pc := 109) (v := 10000) C dX10_tellWays_109 (by decide) ?_
    refine j_iload_n (pc := 112) C dX10_tellWays_112 rfl 2 rfl ?_
    refine j_iconst (pc := 113) (v := 1) C dX10_tellWays_113 (by decide) ?_
    refine j_isub (pc := 114) C dX10_tellWays_114 ?_
    refine j_imul (pc := 115) C dX10_tellWays_115 ?_
    refine j_aload_n (pc := 116) C dX10_tellWays_116 rfl 0 rfl ?_
    refine j_getR (pc := 117) C 200 4 204 (c_200 hM).1 (c_200 hM).2 rfl rfl (by decide) inw_X10 wd_970 dX10_tellWays_117 ?_
    refine j_iload (pc := 120) C dX10_tellWays_120 3 rfl ?_
    obtain ⟨g8, h⟩ := h
    refine j_iald (pc := 122) C 204 (c_204 hM).1 (c_204 hM).2 g8 dX10_tellWays_122 ?_
    refine j_iadd (pc := 123) C dX10_tellWays_123 ?_
    obtain ⟨g9, h⟩ := h
    refine j_lald (pc := 124) C 206 (c_206 hM).1 (c_206 hM).2 g9 dX10_tellWays_124 ?_
    refine j_ladd (pc := 125) C dX10_tellWays_125 ?_
    obtain ⟨g10, h⟩ := h
    refine j_last (pc := 126) C 206 (c_206 hM).1 (c_206 hM).2 g10 dX10_tellWays_126 ?_
    refine gJ.nmJ (fun J11 eJ11 => ?_)
    have h := h J11 eJ11
    obtain ⟨n12, en12⟩ : ∃ z : Int32, z = v4 + 1 := ⟨_, rfl⟩
    have h := h n12 en12
    refine j_iinc (pc := 127) (v := n12) (lv' := [(4, .int n12), (0, .ref (V.2.1 200)), (1, .int v1), (3, .int v3)]) C dX10_tellWays_127 3 rfl (by rw [en12]; rfl) (by decide) rfl ?_
    refine j_goto (pc := 130) (tgt := 77) C dX10_tellWays_130 (by decide) ?_
    refine gJ.sub [1, 2, 3, 0] rfl ?_
    exact hK77 _ _ h
set_option maxRecDepth 100000 in
set_option maxHeartbeats 4000000 in
theorem t_X10_tellWays_77 {X : gX} {l : Launch} {D : va_G} {cy : Nat → ClassId} {nm : String} {V : gV} (hM : gModM V) (C : gC X cX10_tellWays RX10 none 5 rm_X10_tellWays) (hX : gIs X l D cy nm) {I : gI} {J : gL} {Po : gL → Prop} (hR : gR X (gPv V (fun I' J' => I = I' ∧ Po J'))) {v1 : Int32} {v3 : Int32} {v4 : Int32} {K38 : Int32 → gL → Prop} (hK38 : ∀ (y3 : Int32) (J1 : gL), K38 y3 J1 → gJ X V 0 0 38 [(0, .ref (V.2.1 200)), (1, .int v1), (3, .int y3)] [] I J1) (h : w_X10_tellWays_77 Po K38 v1 v3 v4 I J) : gJ X V 0 0 77 [(0, .ref (V.2.1 200)), (1, .int v1), (3, .int v3), (4, .int v4)] [] I J := by
  unfold w_X10_tellWays_77 at h
  obtain ⟨Inv, mu, h0, hs⟩ := h
  have key : ∀ (n : Nat) (v4 : Int32) (J : gL), Inv v4 J → mu v4 J < n → gJ X V 0 0 77 [(0, .ref (V.2.1 200)), (1, .int v1), (3, .int v3), (4, .int v4)] [] I J := by
    intro n
    induction n with
    | zero => intro v4 J hi hn; exact absurd hn (Nat.not_lt_zero _)
    | succ n ih =>
      intro v4 J hi hn
      exact t_X10_tellWays_77b hM  C hX hR hK38 (fun u4 J1 hk => ih u4 J1 hk.1 (Nat.lt_of_lt_of_le hk.2 (Nat.le_of_lt_succ hn))) (hs v4 J hi)
  exact key _ v4 J h0 (Nat.lt_succ_self _)
set_option maxRecDepth 100000 in
set_option maxHeartbeats 4000000 in
theorem t_X10_tellWays_46b {X : gX} {l : Launch} {D : va_G} {cy : Nat → ClassId} {nm : String} {V : gV} (hM : gModM V) (C : gC X cX10_tellWays RX10 none 5 rm_X10_tellWays) (hX : gIs X l D cy nm) {I : gI} {J : gL} {Po : gL → Prop} (hR : gR X (gPv V (fun I' J' => I = I' ∧ Po J'))) {v1 : Int32} {v3 : Int32} {v4 : Int32} {K38 : Int32 → gL → Prop} {K46 : Int32 → gL → Prop} (hK38 : ∀ (y3 : Int32) (J1 : gL), K38 y3 J1 → gJ X V 0 0 38 [(0, .ref (V.2.1 200)), (1, .int v1), (3, .int y3)] [] I J1) (hK46 : ∀ (y4 : Int32) (J1 : gL), K46 y4 J1 → gJ X V 0 0 46 [(0, .ref (V.2.1 200)), (1, .int v1), (3, .int v3), (4, .int y4)] [] I J1) (h : w_X10_tellWays_46b Po K38 K46 v1 v3 v4 I J) : gJ X V 0 0 46 [(0, .ref (V.2.1 200)), (1, .int v1), (3, .int v3), (4, .int v4)] [] I J := by
  unfold w_X10_tellWays_46b at h
  refine j_iload (pc := 46) C dX10_tellWays_46 3 rfl ?_
  refine j_sipush (pc := 48) (v := 10000) C dX10_tellWays_48 (by decide) ?_
  refine j_icmp_ge (pc := 51) (tgt := 74) C dX10_tellWays_51 (by decide) (fun c3 => ?_) (fun c3 => ?_)
  · have h := h.1 c3
    refine j_iconst (pc := 74) (v := 0) C dX10_tellWays_74 (by decide) ?_
    refine j_istore (pc := 75) (lv' := [(4, .int (0 : Int32)), (0, .ref (V.2.1 200)), (1, .int v1), (3, .int v3)]) C dX10_tellWays_75 (by decide) rfl ?_
    refine gJ.sub [1, 2, 3, 0] rfl ?_
    exact t_X10_tellWays_77 hM  C hX hR hK38 h
  · have h := h.2 c3
    refine j_aload_n (pc := 54) C dX10_tellWays_54 rfl 0 rfl ?_
    refine j_getR (pc := 55) C 200 7 206 (c_200 hM).1 (c_200 hM).2 rfl rfl (by decide) inw_X10 wd_973 dX10_tellWays_55 ?_
    refine j_sipush (pc := 58) (v := 10000) C dX10_tellWays_58 (by decide) ?_
    refine j_iload_n (pc := 61) C dX10_tellWays_61 rfl 2 rfl ?_
    refine j_imul (pc := 62) C dX10_tellWays_62 ?_
    refine j_iload (pc := 63) C dX10_tellWays_63 3 rfl ?_
    refine j_iadd (pc := 65) C dX10_tellWays_65 ?_
    refine j_lconst (pc := 66) (v := 0) C dX10_tellWays_66 (by decide) ?_
    obtain ⟨g13, h⟩ := h
    refine j_last (pc := 67) C 206 (c_206 hM).1 (c_206 hM).2 g13 dX10_tellWays_67 ?_
    refine gJ.nmJ (fun J14 eJ14 => ?_)
    have h := h J14 eJ14
    obtain ⟨n15, en15⟩ : ∃ z : Int32, z = v4 + 1 := ⟨_, rfl⟩
    have h := h n15 en15
    refine j_iinc (pc := 68) (v := n15) (lv' := [(4, .int n15), (0, .ref (V.2.1 200)), (1, .int v1), (3, .int v3)]) C dX10_tellWays_68 3 rfl (by rw [en15]; rfl) (by decide) rfl ?_
    refine j_goto (pc := 71) (tgt := 46) C dX10_tellWays_71 (by decide) ?_
    refine gJ.sub [1, 2, 3, 0] rfl ?_
    exact hK46 _ _ h
set_option maxRecDepth 100000 in
set_option maxHeartbeats 4000000 in
theorem t_X10_tellWays_46 {X : gX} {l : Launch} {D : va_G} {cy : Nat → ClassId} {nm : String} {V : gV} (hM : gModM V) (C : gC X cX10_tellWays RX10 none 5 rm_X10_tellWays) (hX : gIs X l D cy nm) {I : gI} {J : gL} {Po : gL → Prop} (hR : gR X (gPv V (fun I' J' => I = I' ∧ Po J'))) {v1 : Int32} {v3 : Int32} {v4 : Int32} {K38 : Int32 → gL → Prop} (hK38 : ∀ (y3 : Int32) (J1 : gL), K38 y3 J1 → gJ X V 0 0 38 [(0, .ref (V.2.1 200)), (1, .int v1), (3, .int y3)] [] I J1) (h : w_X10_tellWays_46 Po K38 v1 v3 v4 I J) : gJ X V 0 0 46 [(0, .ref (V.2.1 200)), (1, .int v1), (3, .int v3), (4, .int v4)] [] I J := by
  unfold w_X10_tellWays_46 at h
  obtain ⟨Inv, mu, h0, hs⟩ := h
  have key : ∀ (n : Nat) (v4 : Int32) (J : gL), Inv v4 J → mu v4 J < n → gJ X V 0 0 46 [(0, .ref (V.2.1 200)), (1, .int v1), (3, .int v3), (4, .int v4)] [] I J := by
    intro n
    induction n with
    | zero => intro v4 J hi hn; exact absurd hn (Nat.not_lt_zero _)
    | succ n ih =>
      intro v4 J hi hn
      exact t_X10_tellWays_46b hM  C hX hR hK38 (fun u4 J1 hk => ih u4 J1 hk.1 (Nat.lt_of_lt_of_le hk.2 (Nat.le_of_lt_succ hn))) (hs v4 J hi)
  exact key _ v4 J h0 (Nat.lt_succ_self _)
set_option maxRecDepth 100000 in
set_option maxHeartbeats 4000000 in
theorem t_X10_tellWays_38b {X : gX} {l : Launch} {D : va_G} {cy : Nat → ClassId} {nm : String} {V : gV} (hM : gModM V) (C : gC X cX10_tellWays RX10 none 5 rm_X10_tellWays) (hX : gIs X l D cy nm) {I : gI} {J : gL} {Po : gL → Prop} (hR : gR X (gPv V (fun I' J' => I = I' ∧ Po J'))) {v1 : Int32} {v3 : Int32} {K38 : Int32 → gL → Prop} (hK38 : ∀ (y3 : Int32) (J1 : gL), K38 y3 J1 → gJ X V 0 0 38 [(0, .ref (V.2.1 200)), (1, .int v1), (3, .int y3)] [] I J1) (h : w_X10_tellWays_38b Po K38 v1 v3 I J) : gJ X V 0 0 38 [(0, .ref (V.2.1 200)), (1, .int v1), (3, .int v3)] [] I J := by
  unfold w_X10_tellWays_38b at h
  refine j_iload_n (pc := 38) C dX10_tellWays_38 rfl 2 rfl ?_
  refine j_iload_n (pc := 39) C dX10_tellWays_39 rfl 1 rfl ?_
  refine j_icmp_gt (pc := 40) (tgt := 139) C dX10_tellWays_40 (by decide) (fun c2 => ?_) (fun c2 => ?_)
  · have h := h.1 c2
    exact j_vret (pc := 139) C hR (Nat.zero_le _) (Nat.zero_le _) dX10_tellWays_139 ⟨rfl, rfl, rfl, h⟩
  · have h := h.2 c2
    refine j_iconst (pc := 43) (v := 0) C dX10_tellWays_43 (by decide) ?_
    refine j_istore (pc := 44) (lv' := [(4, .int (0 : Int32)), (0, .ref (V.2.1 200)), (1, .int v1), (3, .int v3)]) C dX10_tellWays_44 (by decide) rfl ?_
    refine gJ.sub [1, 2, 3, 0] rfl ?_
    exact t_X10_tellWays_46 hM  C hX hR hK38 h
set_option maxRecDepth 100000 in
set_option maxHeartbeats 4000000 in
theorem t_X10_tellWays_38 {X : gX} {l : Launch} {D : va_G} {cy : Nat → ClassId} {nm : String} {V : gV} (hM : gModM V) (C : gC X cX10_tellWays RX10 none 5 rm_X10_tellWays) (hX : gIs X l D cy nm) {I : gI} {J : gL} {Po : gL → Prop} (hR : gR X (gPv V (fun I' J' => I = I' ∧ Po J'))) {v1 : Int32} {v3 : Int32} (h : w_X10_tellWays_38 Po v1 v3 I J) : gJ X V 0 0 38 [(0, .ref (V.2.1 200)), (1, .int v1), (3, .int v3)] [] I J := by
  unfold w_X10_tellWays_38 at h
  obtain ⟨Inv, mu, h0, hs⟩ := h
  have key : ∀ (n : Nat) (v3 : Int32) (J : gL), Inv v3 J → mu v3 J < n → gJ X V 0 0 38 [(0, .ref (V.2.1 200)), (1, .int v1), (3, .int v3)] [] I J := by
    intro n
    induction n with
    | zero => intro v3 J hi hn; exact absurd hn (Nat.not_lt_zero _)
    | succ n ih =>
      intro v3 J hi hn
      exact t_X10_tellWays_38b hM  C hX hR  (fun u3 J1 hk => ih u3 J1 hk.1 (Nat.lt_of_lt_of_le hk.2 (Nat.le_of_lt_succ hn))) (hs v3 J hi)
  exact key _ v3 J h0 (Nat.lt_succ_self _)
set_option maxRecDepth 100000 in
set_option maxHeartbeats 4000000 in
theorem t_X10_tellWays_29 {X : gX} {l : Launch} {D : va_G} {cy : Nat → ClassId} {nm : String} {V : gV} (hM : gModM V) (C : gC X cX10_tellWays RX10 none 5 rm_X10_tellWays) (hX : gIs X l D cy nm) {I : gI} {J : gL} {Po : gL → Prop} (hR : gR X (gPv V (fun I' J' => I = I' ∧ Po J'))) {v1 : Int32} {v2 : Int32} {v3 : Int32} {s0 : Int64} {s1 : Int32} {K2 : Int32 → gL → Prop} (hK2 : ∀ (y3 : Int32) (J1 : gL), K2 y3 J1 → gJ X V 0 0 2 [(0, .ref (V.2.1 200)), (1, .int v1), (2, .int v2), (3, .int y3)] [] I J1) (h : w_X10_tellWays_29 Po K2 v1 v2 v3 s0 s1 I J) : gJ X V 0 0 29 [(0, .ref (V.2.1 200)), (1, .int v1), (2, .int v2), (3, .int v3)] [.long s0, .int s1, .ref (V.2.1 206)] I J := by
  unfold w_X10_tellWays_29 at h
  obtain ⟨g17, h⟩ := h
  refine j_last (pc := 29) C 206 (c_206 hM).1 (c_206 hM).2 g17 dX10_tellWays_29 ?_
  refine gJ.nmJ (fun J18 eJ18 => ?_)
  have h := h J18 eJ18
  obtain ⟨n19, en19⟩ : ∃ z : Int32, z = v3 + 1 := ⟨_, rfl⟩
  have h := h n19 en19
  refine j_iinc (pc := 30) (v := n19) (lv' := [(3, .int n19), (0, .ref (V.2.1 200)), (1, .int v1), (2, .int v2)]) C dX10_tellWays_30 3 rfl (by rw [en19]; rfl) (by decide) rfl ?_
  refine j_goto (pc := 33) (tgt := 2) C dX10_tellWays_33 (by decide) ?_
  refine gJ.sub [1, 2, 3, 0] rfl ?_
  exact hK2 _ _ h
set_option maxRecDepth 100000 in
set_option maxHeartbeats 4000000 in
theorem t_X10_tellWays_24 {X : gX} {l : Launch} {D : va_G} {cy : Nat → ClassId} {nm : String} {V : gV} (hM : gModM V) (C : gC X cX10_tellWays RX10 none 5 rm_X10_tellWays) (hX : gIs X l D cy nm) {I : gI} {J : gL} {Po : gL → Prop} (hR : gR X (gPv V (fun I' J' => I = I' ∧ Po J'))) {v1 : Int32} {v2 : Int32} {v3 : Int32} {s0 : Int32} {K2 : Int32 → gL → Prop} (hK2 : ∀ (y3 : Int32) (J1 : gL), K2 y3 J1 → gJ X V 0 0 2 [(0, .ref (V.2.1 200)), (1, .int v1), (2, .int v2), (3, .int y3)] [] I J1) (h : w_X10_tellWays_24 Po K2 v1 v2 v3 s0 I J) : gJ X V 0 0 24 [(0, .ref (V.2.1 200)), (1, .int v1), (2, .int v2), (3, .int v3)] [.int s0, .ref (V.2.1 206)] I J := by
  unfold w_X10_tellWays_24 at h
  refine j_lconst (pc := 24) (v := 1) C dX10_tellWays_24 (by decide) ?_
  refine j_goto (pc := 25) (tgt := 29) C dX10_tellWays_25 (by decide) ?_
  refine gJ.sub [0, 1, 2, 3] rfl ?_
  exact t_X10_tellWays_29 hM  C hX hR hK2 h
set_option maxRecDepth 100000 in
set_option maxHeartbeats 4000000 in
theorem t_X10_tellWays_2b {X : gX} {l : Launch} {D : va_G} {cy : Nat → ClassId} {nm : String} {V : gV} (hM : gModM V) (C : gC X cX10_tellWays RX10 none 5 rm_X10_tellWays) (hX : gIs X l D cy nm) {I : gI} {J : gL} {Po : gL → Prop} (hR : gR X (gPv V (fun I' J' => I = I' ∧ Po J'))) {v1 : Int32} {v2 : Int32} {v3 : Int32} {K2 : Int32 → gL → Prop} (hK2 : ∀ (y3 : Int32) (J1 : gL), K2 y3 J1 → gJ X V 0 0 2 [(0, .ref (V.2.1 200)), (1, .int v1), (2, .int v2), (3, .int y3)] [] I J1) (h : w_X10_tellWays_2b Po K2 v1 v2 v3 I J) : gJ X V 0 0 2 [(0, .ref (V.2.1 200)), (1, .int v1), (2, .int v2), (3, .int v3)] [] I J := by
  unfold w_X10_tellWays_2b at h
  refine j_iload_n (pc := 2) C dX10_tellWays_2 rfl 3 rfl ?_
  refine j_sipush (pc := 3) (v := 10000) C dX10_tellWays_3 (by decide) ?_
  refine j_icmp_ge (pc := 6) (tgt := 36) C dX10_tellWays_6 (by decide) (fun c1 => ?_) (fun c1 => ?_)
  · have h := h.1 c1
    refine j_iconst (pc := 36) (v := 1) C dX10_tellWays_36 (by decide) ?_
    refine j_istore_n (pc := 37) (lv' := [(3, .int (1 : Int32)), (0, .ref (V.2.1 200)), (1, .int v1), (2, .int v2)]) C dX10_tellWays_37 rfl (by decide) rfl ?_
    refine gJ.sub [1, 2, 0] rfl ?_
    exact t_X10_tellWays_38 hM  C hX hR  h
  · have h := h.2 c1
    refine j_aload_n (pc := 9) C dX10_tellWays_9 rfl 0 rfl ?_
    refine j_getR (pc := 10) C 200 7 206 (c_200 hM).1 (c_200 hM).2 rfl rfl (by decide) inw_X10 wd_973 dX10_tellWays_10 ?_
    refine j_iload_n (pc := 13) C dX10_tellWays_13 rfl 3 rfl ?_
    refine j_iload_n (pc := 14) C dX10_tellWays_14 rfl 2 rfl ?_
    refine j_iconst (pc := 15) (v := (-1)) C dX10_tellWays_15 (by decide) ?_
    refine j_icmp_eq (pc := 16) (tgt := 24) C dX10_tellWays_16 (by decide) (fun c16 => ?_) (fun c16 => ?_)
    · have h := h.1 c16
      refine gJ.sub [0, 1, 2, 3] rfl ?_
      exact t_X10_tellWays_24 hM  C hX hR hK2 h
    · have h := h.2 c16
      refine j_iload_n (pc := 19) C dX10_tellWays_19 rfl 3 rfl ?_
      refine j_iload_n (pc := 20) C dX10_tellWays_20 rfl 2 rfl ?_
      refine j_icmp_ne (pc := 21) (tgt := 28) C dX10_tellWays_21 (by decide) (fun c20 => ?_) (fun c20 => ?_)
      · have h := h.1 c20
        refine j_lconst (pc := 28) (v := 0) C dX10_tellWays_28 (by decide) ?_
        refine gJ.sub [0, 1, 2, 3] rfl ?_
        exact t_X10_tellWays_29 hM  C hX hR hK2 h
      · have h := h.2 c20
        refine gJ.sub [0, 1, 2, 3] rfl ?_
        exact t_X10_tellWays_24 hM  C hX hR hK2 h
set_option maxRecDepth 100000 in
set_option maxHeartbeats 4000000 in
theorem t_X10_tellWays_2 {X : gX} {l : Launch} {D : va_G} {cy : Nat → ClassId} {nm : String} {V : gV} (hM : gModM V) (C : gC X cX10_tellWays RX10 none 5 rm_X10_tellWays) (hX : gIs X l D cy nm) {I : gI} {J : gL} {Po : gL → Prop} (hR : gR X (gPv V (fun I' J' => I = I' ∧ Po J'))) {v1 : Int32} {v2 : Int32} {v3 : Int32} (h : w_X10_tellWays_2 Po v1 v2 v3 I J) : gJ X V 0 0 2 [(0, .ref (V.2.1 200)), (1, .int v1), (2, .int v2), (3, .int v3)] [] I J := by
  unfold w_X10_tellWays_2 at h
  obtain ⟨Inv, mu, h0, hs⟩ := h
  have key : ∀ (n : Nat) (v3 : Int32) (J : gL), Inv v3 J → mu v3 J < n → gJ X V 0 0 2 [(0, .ref (V.2.1 200)), (1, .int v1), (2, .int v2), (3, .int v3)] [] I J := by
    intro n
    induction n with
    | zero => intro v3 J hi hn; exact absurd hn (Nat.not_lt_zero _)
    | succ n ih =>
      intro v3 J hi hn
      exact t_X10_tellWays_2b hM  C hX hR  (fun u3 J1 hk => ih u3 J1 hk.1 (Nat.lt_of_lt_of_le hk.2 (Nat.le_of_lt_succ hn))) (hs v3 J hi)
  exact key _ v3 J h0 (Nat.lt_succ_self _)
set_option maxRecDepth 100000 in
set_option maxHeartbeats 4000000 in
theorem m_X10_tellWays {l : Launch} {D : va_G} {cy : Nat → ClassId} {V : gV} (hM : gModM V) {a1 : Int32} {a2 : Int32} {I : gI} {J : gL} {Po : gL → Prop} (h : wp_X10_tellWays a1 a2 I J Po) : gMet l D cy yX10_tellWays cX10_tellWays 5 none rm_X10_tellWays V [.ref (V.2.1 200), .int a1, .int a2] I J (gPv V (fun I' J' => I = I' ∧ Po J')) := by
  refine gMet.of (by decide) (Nat.le_of_ble_eq_true rfl) (fun X hX C hR => ?_)
  have C : gC X cX10_tellWays RX10 none 5 rm_X10_tellWays := C
  show gJ X V 0 0 0 [(0, .ref (V.2.1 200)), (1, .int a1), (2, .int a2)] [] I J
  unfold wp_X10_tellWays at h
  refine j_iconst (pc := 0) (v := 0) C dX10_tellWays_0 (by decide) ?_
  refine j_istore_n (pc := 1) (lv' := [(3, .int (0 : Int32)), (0, .ref (V.2.1 200)), (1, .int a1), (2, .int a2)]) C dX10_tellWays_1 rfl (by decide) rfl ?_
  refine gJ.sub [1, 2, 3, 0] rfl ?_
  exact t_X10_tellWays_2 hM  C hX hR  h
