/-! TileRulesModel.isIn(III)Z -/
abbrev rm_X10_isIn : Room := { frames := 0, cells := 0, slots := 0, locals := 0 }
theorem ok_X10_isIn : gOk yX10_isIn cX10_isIn 3 (some .boolean) 3 := ⟨wd_1110, wd_74, by decide +kernel⟩
def wp_X10_isIn (a0 : Int32) (a1 : Int32) (a2 : Int32) (Po : Int32 → Prop) : Prop :=
  (a0 < a1 → Po (0 : Int32)) ∧ (¬ a0 < a1 → (a2 < a0 → Po (0 : Int32)) ∧ (¬ a2 < a0 → Po (1 : Int32)))
set_option maxRecDepth 100000 in
set_option maxHeartbeats 4000000 in
theorem m_X10_isIn {l : Launch} {D : va_G} {cy : Nat → ClassId} {V : gV} {a0 : Int32} {a1 : Int32} {a2 : Int32} {I : gI} {J : gL} {Po : Int32 → Prop} (h : wp_X10_isIn a0 a1 a2 Po) : gMet l D cy yX10_isIn cX10_isIn 3 (some .boolean) rm_X10_isIn V [.int a0, .int a1, .int a2] I J (gPi V (fun x I' J' => I = I' ∧ J = J' ∧ Po x)) := by
  refine gMet.of (by decide) (Nat.le_of_ble_eq_true rfl) (fun X hX C hR => ?_)
  have C : gC X cX10_isIn RX10 (some .boolean) 3 rm_X10_isIn := C
  show gJ X V 0 0 0 [(0, .int a0), (1, .int a1), (2, .int a2)] [] I J
  unfold wp_X10_isIn at h
  refine j_iload_n (pc := 0) C dX10_isIn_0 rfl 0 rfl ?_
  refine j_iload_n (pc := 1) C dX10_isIn_1 rfl 1 rfl ?_
  refine j_icmp_lt (pc := 2) (tgt := 14) C dX10_isIn_2 (by decide) (fun c1 => ?_) (fun c1 => ?_)
  · have h := h.1 c1
    refine j_iconst (pc := 14) (v := 0) C dX10_isIn_14 (by decide) ?_
    exact j_zret (pc := 15) C hR (Or.inl rfl) (Nat.zero_le _) (Nat.zero_le _) dX10_isIn_15 ⟨_, rfl, rfl, rfl, rfl, h⟩
  · have h := h.2 c1
    refine j_iload_n (pc := 5) C dX10_isIn_5 rfl 0 rfl ?_
    refine j_iload_n (pc := 6) C dX10_isIn_6 rfl 2 rfl ?_
    refine j_icmp_gt (pc := 7) (tgt := 14) C dX10_isIn_7 (by decide) (fun c2 => ?_) (fun c2 => ?_)
    · have h := h.1 c2
      refine j_iconst (pc := 14) (v := 0) C dX10_isIn_14 (by decide) ?_
      exact j_zret (pc := 15) C hR (Or.inl rfl) (Nat.zero_le _) (Nat.zero_le _) dX10_isIn_15 ⟨_, rfl, rfl, rfl, rfl, h⟩
    · have h := h.2 c2
      refine j_iconst (pc := 10) (v := 1) C dX10_isIn_10 (by decide) ?_
      refine j_goto (pc := 11) (tgt := 15) C dX10_isIn_11 (by decide) ?_
      exact j_zret (pc := 15) C hR (Or.inr rfl) (Nat.zero_le _) (Nat.zero_le _) dX10_isIn_15 ⟨_, rfl, rfl, rfl, rfl, h⟩
/-! TileRulesModel.tile(IIII)I -/
abbrev rm_X10_tile : Room := { frames := 1, cells := 0, slots := 0, locals := 22 }
theorem ok_X10_tile : gOk yX10_tile cX10_tile 5 (some .int) 4 := ⟨wd_1107, wd_74, by decide +kernel⟩
def wp_X10_tile (a1 : Int32) (a2 : Int32) (a3 : Int32) (a4 : Int32) (I : gI) (Po : Int32 → gI → Prop) : Prop :=
  wp_X10_isIn a1 (0 : Int32) (9 : Int32) (fun r1 => (r1 = 0 → Po (-2 : Int32) I) ∧ (¬ r1 = 0 → wp_X10_isIn a2 (0 : Int32) (9 : Int32) (fun r3 => (r3 = 0 → Po (-2 : Int32) I) ∧ (¬ r3 = 0 → wp_X10_isIn a3 (0 : Int32) (9 : Int32) (fun r5 => (r5 = 0 → Po (-2 : Int32) I) ∧ (¬ r5 = 0 → wp_X10_isIn a4 (0 : Int32) (9 : Int32) (fun r7 => (¬ r7 = 0 → (¬ (I 200 0) = (8 : Int32) → vp_in ((4 : Int32) * (I 200 0)) 32 ∧ ∀ I11 : gI, I11 = gup I 201 (((4 : Int32) * (I 200 0))).toNatClampNeg a1 → vp_in (((4 : Int32) * (I11 200 0)) + (1 : Int32)) 32 ∧ ∀ I13 : gI, I13 = gup I11 201 ((((4 : Int32) * (I11 200 0)) + (1 : Int32))).toNatClampNeg a2 → vp_in (((4 : Int32) * (I13 200 0)) + (2 : Int32)) 32 ∧ ∀ I15 : gI, I15 = gup I13 201 ((((4 : Int32) * (I13 200 0)) + (2 : Int32))).toNatClampNeg a3 → vp_in (((4 : Int32) * (I15 200 0)) + (3 : Int32)) 32 ∧ ∀ I17 : gI, I17 = gup I15 201 ((((4 : Int32) * (I15 200 0)) + (3 : Int32))).toNatClampNeg a4 → ∀ I18 : gI, I18 = gup I17 200 0 ((I17 200 0) + (1 : Int32)) → Po ((I18 200 0) - (1 : Int32)) I18) ∧ ((I 200 0) = (8 : Int32) → Po (-3 : Int32) I)) ∧ (r7 = 0 → Po (-2 : Int32) I))))))))
set_option maxRecDepth 100000 in
set_option maxHeartbeats 4000000 in
theorem m_X10_tile {l : Launch} {D : va_G} {cy : Nat → ClassId} {V : gV} (hM : gModM V) {a1 : Int32} {a2 : Int32} {a3 : Int32} {a4 : Int32} {I : gI} {J : gL} {Po : Int32 → gI → Prop} (h : wp_X10_tile a1 a2 a3 a4 I Po) : gMet l D cy yX10_tile cX10_tile 5 (some .int) rm_X10_tile V [.ref (V.2.1 200), .int a1, .int a2, .int a3, .int a4] I J (gPi V (fun x I' J' => J = J' ∧ Po x I')) := by
  refine gMet.of (by decide) (Nat.le_of_ble_eq_true rfl) (fun X hX C hR => ?_)
  have C : gC X cX10_tile RX10 (some .int) 5 rm_X10_tile := C
  show gJ X V 0 0 0 [(0, .ref (V.2.1 200)), (1, .int a1), (2, .int a2), (3, .int a3), (4, .int a4)] [] I J
  unfold wp_X10_tile at h
  refine j_iload_n (pc := 0) C dX10_tile_0 rfl 1 rfl ?_
  refine j_iconst (pc := 1) (v := 0) C dX10_tile_1 (by decide) ?_
  refine j_bipush (pc := 2) (v := 9) C dX10_tile_2 (by decide) ?_
  refine j_callS (pc := 4) (As := [.int a1, .int (0 : Int32), .int (9 : Int32)]) (st := []) C hX (m_X10_isIn   h) ok_X10_isIn wd_1108 wd_1109 ⟨by decide, by decide⟩ rfl rfl (Nat.le_of_ble_eq_true rfl) ⟨Nat.le_refl 0, Nat.le_refl 0⟩ dX10_tile_4 (fun r V1 I1 J1 hp => ?_)
  obtain ⟨r1, rfl, rfl, rfl, rfl, h⟩ := hp
  show gJ X V 0 0 7 _ [.int r1] _ _
  refine j_if_eq (pc := 7) (tgt := 41) C dX10_tile_7 (by decide) (fun c2 => ?_) (fun c2 => ?_)
  · have h := h.1 c2
    refine j_bipush (pc := 41) (v := (-2)) C dX10_tile_41 (by decide) ?_
    exact j_iret (pc := 43) C hR (Nat.zero_le _) (Nat.zero_le _) dX10_tile_43 ⟨_, rfl, rfl, rfl, h⟩
  · have h := h.2 c2
    refine j_iload_n (pc := 10) C dX10_tile_10 rfl 2 rfl ?_
    refine j_iconst (pc := 11) (v := 0) C dX10_tile_11 (by decide) ?_
    refine j_bipush (pc := 12) (v := 9) C dX10_tile_12 (by decide) ?_
    refine j_callS (pc := 14) (As := [.int a2, .int (0 : Int32), .int (9 : Int32)]) (st := []) C hX (m_X10_isIn   h) ok_X10_isIn wd_1108 wd_1109 ⟨by decide, by decide⟩ rfl rfl (Nat.le_of_ble_eq_true rfl) ⟨Nat.le_refl 0, Nat.le_refl 0⟩ dX10_tile_14 (fun r V1 I1 J1 hp => ?_)
    obtain ⟨r3, rfl, rfl, rfl, rfl, h⟩ := hp
    show gJ X V 0 0 17 _ [.int r3] _ _
    refine j_if_eq (pc := 17) (tgt := 41) C dX10_tile_17 (by decide) (fun c4 => ?_) (fun c4 => ?_)
    · have h := h.1 c4
      refine j_bipush (pc := 41) (v := (-2)) C dX10_tile_41 (by decide) ?_
      exact j_iret (pc := 43) C hR (Nat.zero_le _) (Nat.zero_le _) dX10_tile_43 ⟨_, rfl, rfl, rfl, h⟩
    · have h := h.2 c4
      refine j_iload_n (pc := 20) C dX10_tile_20 rfl 3 rfl ?_
      refine j_iconst (pc := 21) (v := 0) C dX10_tile_21 (by decide) ?_
      refine j_bipush (pc := 22) (v := 9) C dX10_tile_22 (by decide) ?_
      refine j_callS (pc := 24) (As := [.int a3, .int (0 : Int32), .int (9 : Int32)]) (st := []) C hX (m_X10_isIn   h) ok_X10_isIn wd_1108 wd_1109 ⟨by decide, by decide⟩ rfl rfl (Nat.le_of_ble_eq_true rfl) ⟨Nat.le_refl 0, Nat.le_refl 0⟩ dX10_tile_24 (fun r V1 I1 J1 hp => ?_)
      obtain ⟨r5, rfl, rfl, rfl, rfl, h⟩ := hp
      show gJ X V 0 0 27 _ [.int r5] _ _
      refine j_if_eq (pc := 27) (tgt := 41) C dX10_tile_27 (by decide) (fun c6 => ?_) (fun c6 => ?_)
      · have h := h.1 c6
        refine j_bipush (pc := 41) (v := (-2)) C dX10_tile_41 (by decide) ?_
        exact j_iret (pc := 43) C hR (Nat.zero_le _) (Nat.zero_le _) dX10_tile_43 ⟨_, rfl, rfl, rfl, h⟩
      · have h := h.2 c6
        refine j_iload (pc := 30) C dX10_tile_30 4 rfl ?_
        refine j_iconst (pc := 32) (v := 0) C dX10_tile_32 (by decide) ?_
        refine j_bipush (pc := 33) (v := 9) C dX10_tile_33 (by decide) ?_
        refine j_callS (pc := 35) (As := [.int a4, .int (0 : Int32), .int (9 : Int32)]) (st := []) C hX (m_X10_isIn   h) ok_X10_isIn wd_1108 wd_1109 ⟨by decide, by decide⟩ rfl rfl (Nat.le_of_ble_eq_true rfl) ⟨Nat.le_refl 0, Nat.le_refl 0⟩ dX10_tile_35 (fun r V1 I1 J1 hp => ?_)
        obtain ⟨r7, rfl, rfl, rfl, rfl, h⟩ := hp
        show gJ X V 0 0 38 _ [.int r7] _ _
        refine j_if_ne (pc := 38) (tgt := 44) C dX10_tile_38 (by decide) (fun c8 => ?_) (fun c8 => ?_)
        · have h := h.1 c8
          refine j_aload_n (pc := 44) C dX10_tile_44 rfl 0 rfl ?_
          refine j_getI (pc := 45) C 200 0 (c_200 hM).1 (c_200 hM).2 rfl rfl (by decide) inw_X10 wd_966 dX10_tile_45 ?_
          refine j_bipush (pc := 48) (v := 8) C dX10_tile_48 (by decide) ?_
          refine j_icmp_ne (pc := 50) (tgt := 56) C dX10_tile_50 (by decide) (fun c9 => ?_) (fun c9 => ?_)
          · have h := h.1 c9
            refine j_aload_n (pc := 56) C dX10_tile_56 rfl 0 rfl ?_
            refine j_getR (pc := 57) C 200 1 201 (c_200 hM).1 (c_200 hM).2 rfl rfl (by decide) inw_X10 wd_967 dX10_tile_57 ?_
            refine j_iconst (pc := 60) (v := 4) C dX10_tile_60 (by decide) ?_
            refine j_aload_n (pc := 61) C dX10_tile_61 rfl 0 rfl ?_
            refine j_getI (pc := 62) C 200 0 (c_200 hM).1 (c_200 hM).2 rfl rfl (by decide) inw_X10 wd_966 dX10_tile_62 ?_
            refine j_imul (pc := 65) C dX10_tile_65 ?_
            refine j_iload_n (pc := 66) C dX10_tile_66 rfl 1 rfl ?_
            obtain ⟨g10, h⟩ := h
            refine j_iast (pc := 67) C 201 (c_201 hM).1 (c_201 hM).2 g10 dX10_tile_67 ?_
            refine gJ.nmI (fun I11 eI11 => ?_)
            have h := h I11 eI11
            refine j_aload_n (pc := 68) C dX10_tile_68 rfl 0 rfl ?_
            refine j_getR (pc := 69) C 200 1 201 (c_200 hM).1 (c_200 hM).2 rfl rfl (by decide) inw_X10 wd_967 dX10_tile_69 ?_
            refine j_iconst (pc := 72) (v := 4) C dX10_tile_72 (by decide) ?_
            refine j_aload_n (pc := 73) C dX10_tile_73 rfl 0 rfl ?_
            refine j_getI (pc := 74) C 200 0 (c_200 hM).1 (c_200 hM).2 rfl rfl (by decide) inw_X10 wd_966 dX10_tile_74 ?_
            refine j_imul (pc := 77) C dX10_tile_77 ?_
            refine j_iconst (pc := 78) (v := 1) C dX10_tile_78 (by decide) ?_
            refine j_iadd (pc := 79) C dX10_tile_79 ?_
            refine j_iload_n (pc := 80) C dX10_tile_80 rfl 2 rfl ?_
            obtain ⟨g12, h⟩ := h
            refine j_iast (pc := 81) C 201 (c_201 hM).1 (c_201 hM).2 g12 dX10_tile_81 ?_
            refine gJ.nmI (fun I13 eI13 => ?_)
            have h := h I13 eI13
            refine j_aload_n (pc := 82) C dX10_tile_82 rfl 0 rfl ?_
            refine j_getR (pc := 83) C 200 1 201 (c_200 hM).1 (c_200 hM).2 rfl rfl (by decide) inw_X10 wd_967 dX10_tile_83 ?_
            refine j_iconst (pc := 86) (v := 4) C dX10_tile_86 (by decide) ?_
            refine j_aload_n (pc := 87) C dX10_tile_87 rfl 0 rfl ?_
            refine j_getI (pc := 88) C 200 0 (c_200 hM).1 (c_200 hM).2 rfl rfl (by decide) inw_X10 wd_966 dX10_tile_88 ?_
            refine j_imul (pc := 91) C dX10_tile_91 ?_
            refine j_iconst (pc := 92) (v := 2) C dX10_tile_92 (by decide) ?_
            refine j_iadd (pc := 93) C dX10_tile_93 ?_
            refine j_iload_n (pc := 94) C dX10_tile_94 rfl 3 rfl ?_
            obtain ⟨g14, h⟩ := h
            refine j_iast (pc := 95) C 201 (c_201 hM).1 (c_201 hM).2 g14 dX10_tile_95 ?_
            refine gJ.nmI (fun I15 eI15 => ?_)
            have h := h I15 eI15
            refine j_aload_n (pc := 96) C dX10_tile_96 rfl 0 rfl ?_
            refine j_getR (pc := 97) C 200 1 201 (c_200 hM).1 (c_200 hM).2 rfl rfl (by decide) inw_X10 wd_967 dX10_tile_97 ?_
            refine j_iconst (pc := 100) (v := 4) C dX10_tile_100 (by decide) ?_
            refine j_aload_n (pc := 101) C dX10_tile_101 rfl 0 rfl ?_
            refine j_getI (pc := 102) C 200 0 (c_200 hM).1 (c_200 hM).2 rfl rfl (by decide) inw_X10 wd_966 dX10_tile_102 ?_
            refine j_imul (pc := 105) C dX10_tile_105 ?_
            refine j_iconst (pc := 106) (v := 3) C dX10_tile_106 (by decide) ?_
            refine j_iadd (pc := 107) C dX10_tile_107 ?_
            refine j_iload (pc := 108) C dX10_tile_108 4 rfl ?_
            obtain ⟨g16, h⟩ := h
            refine j_iast (pc := 110) C 201 (c_201 hM).1 (c_201 hM).2 g16 dX10_tile_110 ?_
            refine gJ.nmI (fun I17 eI17 => ?_)
            have h := h I17 eI17
            refine j_aload_n (pc := 111) C dX10_tile_111 rfl 0 rfl ?_
            refine j_dup (pc := 112) C dX10_tile_112 rfl ?_
            refine j_getI (pc := 113) C 200 0 (c_200 hM).1 (c_200 hM).2 rfl rfl (by decide) inw_X10 wd_966 dX10_tile_113 ?_
            refine j_iconst (pc := 116) (v := 1) C dX10_tile_116 (by decide) ?_
            refine j_iadd (pc := 117) C dX10_tile_117 ?_
            refine j_putI (pc := 118) (ft := .int) C tyX10 tyX10_ok nmX10 200 0 (c_200 hM).1 (c_200 hM).2 rfl rfl (by decide) inw_X10 wd_966 rfl (by decide +kernel) rfl rfl dX10_tile_118 ?_
            refine gJ.nmI (fun I18 eI18 => ?_)
            have h := h I18 eI18
            refine j_aload_n (pc := 121) C dX10_tile_121 rfl 0 rfl ?_
            refine j_getI (pc := 122) C 200 0 (c_200 hM).1 (c_200 hM).2 rfl rfl (by decide) inw_X10 wd_966 dX10_tile_122 ?_
            refine j_iconst (pc := 125) (v := 1) C dX10_tile_125 (by decide) ?_
            refine j_isub (pc := 126) C dX10_tile_126 ?_
            exact j_iret (pc := 127) C hR (Nat.zero_le _) (Nat.zero_le _) dX10_tile_127 ⟨_, rfl, rfl, rfl, h⟩
          · have h := h.2 c9
            refine j_bipush (pc := 53) (v := (-3)) C dX10_tile_53 (by decide) ?_
            exact j_iret (pc := 55) C hR (Nat.zero_le _) (Nat.zero_le _) dX10_tile_55 ⟨_, rfl, rfl, rfl, h⟩
        · have h := h.2 c8
          refine j_bipush (pc := 41) (v := (-2)) C dX10_tile_41 (by decide) ?_
          exact j_iret (pc := 43) C hR (Nat.zero_le _) (Nat.zero_le _) dX10_tile_43 ⟨_, rfl, rfl, rfl, h⟩
/-! TileRulesModel.untile()I -/
abbrev rm_X10_untile : Room := { frames := 0, cells := 0, slots := 0, locals := 0 }
theorem ok_X10_untile : gOk yX10_untile cX10_untile 1 (some .int) 0 := ⟨wd_1114, wd_74, by decide +kernel⟩
def wp_X10_untile (I : gI) (Po : Int32 → gI → Prop) : Prop :=
  (¬ (I 200 0) = 0 → ∀ I2 : gI, I2 = gup I 200 0 ((I 200 0) - (1 : Int32)) → Po (I2 200 0) I2) ∧ ((I 200 0) = 0 → Po (-1 : Int32) I)
set_option maxRecDepth 100000 in
set_option maxHeartbeats 4000000 in
theorem m_X10_untile {l : Launch} {D : va_G} {cy : Nat → ClassId} {V : gV} (hM : gModM V) {I : gI} {J : gL} {Po : Int32 → gI → Prop} (h : wp_X10_untile I Po) : gMet l D cy yX10_untile cX10_untile 1 (some .int) rm_X10_untile V [.ref (V.2.1 200)] I J (gPi V (fun x I' J' => J = J' ∧ Po x I')) := by
  refine gMet.of (by decide) (Nat.le_of_ble_eq_true rfl) (fun X hX C hR => ?_)
  have C : gC X cX10_untile RX10 (some .int) 1 rm_X10_untile := C
  show gJ X V 0 0 0 [(0, .ref (V.2.1 200))] [] I J
  unfold wp_X10_untile at h
  refine j_aload_n (pc := 0) C dX10_untile_0 rfl 0 rfl ?_
  refine j_getI (pc := 1) C 200 0 (c_200 hM).1 (c_200 hM).2 rfl rfl (by decide) inw_X10 wd_966 dX10_untile_1 ?_
  refine j_if_ne (pc := 4) (tgt := 9) C dX10_untile_4 (by decide) (fun c1 => ?_) (fun c1 => ?_)
  · have h := h.1 c1
    refine j_aload_n (pc := 9) C dX10_untile_9 rfl 0 rfl ?_
    refine j_dup (pc := 10) C dX10_untile_10 rfl ?_
    refine j_getI (pc := 11) C 200 0 (c_200 hM).1 (c_200 hM).2 rfl rfl (by decide) inw_X10 wd_966 dX10_untile_11 ?_
    refine j_iconst (pc := 14) (v := 1) C dX10_untile_14 (by decide) ?_
    refine j_isub (pc := 15) C dX10_untile_15 ?_
    refine j_putI (pc := 16) (ft := .int) C tyX10 tyX10_ok nmX10 200 0 (c_200 hM).1 (c_200 hM).2 rfl rfl (by decide) inw_X10 wd_966 rfl (by decide +kernel) rfl rfl dX10_untile_16 ?_
    refine gJ.nmI (fun I2 eI2 => ?_)
    have h := h I2 eI2
    refine j_aload_n (pc := 19) C dX10_untile_19 rfl 0 rfl ?_
    refine j_getI (pc := 20) C 200 0 (c_200 hM).1 (c_200 hM).2 rfl rfl (by decide) inw_X10 wd_966 dX10_untile_20 ?_
    exact j_iret (pc := 23) C hR (Nat.zero_le _) (Nat.zero_le _) dX10_untile_23 ⟨_, rfl, rfl, rfl, h⟩
  · have h := h.2 c1
    refine j_iconst (pc := 7) (v := (-1)) C dX10_untile_7 (by decide) ?_
    exact j_iret (pc := 8) C hR (Nat.zero_le _) (Nat.zero_le _) dX10_untile_8 ⟨_, rfl, rfl, rfl, h⟩
/-! TileRulesModel.layRows(IZ)V -/
abbrev rm_X10_layRows : Room := { frames := 0, cells := 0, slots := 0, locals := 0 }
theorem ok_X10_layRows : gOk yX10_layRows cX10_layRows 10 none 2 := ⟨wd_1129, wd_74, by decide +kernel⟩
def w_X10_layRows_296  (Po : gI → Prop) (K32 : Int32 → gI → Prop) (v1 : Int32) (v2 : Int32) (v3 : Int32) (v4 : Int32) (I : gI) : Prop :=
  ∀ n9 : Int32, n9 = v4 + 1 → K32 n9 I
def w_X10_layRows_194  (Po : gI → Prop) (K32 : Int32 → gI → Prop) (K136 : Int32 → Int32 → Int32 → Int32 → Prop) (v1 : Int32) (v2 : Int32) (v3 : Int32) (v4 : Int32) (v7 : Int32) (v8 : Int32) (v9 : Int32) (s0 : Int32) (I : gI) : Prop :=
  vp_in v9 4 ∧ vp_in ((4 : Int32) * (I 205 (v9).toNatClampNeg)) 32 ∧ ∀ n20 : Int32, n20 = (((10 : Int32) * v7) + (I 201 (((4 : Int32) * (I 205 (v9).toNatClampNeg))).toNatClampNeg)) → vp_in v9 4 ∧ vp_in (((4 : Int32) * (I 205 (v9).toNatClampNeg)) + (2 : Int32)) 32 ∧ ∀ n23 : Int32, n23 = (((10 : Int32) * v8) + (I 201 ((((4 : Int32) * (I 205 (v9).toNatClampNeg)) + (2 : Int32))).toNatClampNeg)) → ∀ n24 : Int32, n24 = v9 + 1 → K136 s0 n20 n23 n24
def w_X10_layRows_193  (Po : gI → Prop) (K32 : Int32 → gI → Prop) (K136 : Int32 → Int32 → Int32 → Int32 → Prop) (v1 : Int32) (v2 : Int32) (v3 : Int32) (v4 : Int32) (v7 : Int32) (v8 : Int32) (v9 : Int32) (I : gI) : Prop :=
  w_X10_layRows_194 Po K32 K136 v1 v2 v3 v4 v7 v8 v9 (0 : Int32) I
def w_X10_layRows_189  (Po : gI → Prop) (K32 : Int32 → gI → Prop) (K136 : Int32 → Int32 → Int32 → Int32 → Prop) (v1 : Int32) (v2 : Int32) (v3 : Int32) (v4 : Int32) (v7 : Int32) (v8 : Int32) (v9 : Int32) (I : gI) : Prop :=
  w_X10_layRows_194 Po K32 K136 v1 v2 v3 v4 v7 v8 v9 (1 : Int32) I
def w_X10_layRows_136b  (Po : gI → Prop) (K32 : Int32 → gI → Prop) (K136 : Int32 → Int32 → Int32 → Int32 → Prop) (v1 : Int32) (v2 : Int32) (v3 : Int32) (v4 : Int32) (v6 : Int32) (v7 : Int32) (v8 : Int32) (v9 : Int32) (I : gI) : Prop :=
  (v1 ≤ v9 → (v6 = 0 → w_X10_layRows_296 Po K32 v1 v2 v3 v4 I) ∧ (¬ v6 = 0 → vp_in (I 200 5) 4096 ∧ ∀ I11 : gI, I11 = gup I 202 ((I 200 5)).toNatClampNeg v4 → vp_in (I11 200 5) 4096 ∧ ∀ I13 : gI, I13 = gup I11 203 ((I11 200 5)).toNatClampNeg v7 → vp_in (I13 200 5) 4096 ∧ ∀ I15 : gI, I15 = gup I13 204 ((I13 200 5)).toNatClampNeg v8 → ∀ I16 : gI, I16 = gup I15 200 5 ((I15 200 5) + (1 : Int32)) → w_X10_layRows_296 Po K32 v1 v2 v3 v4 I16)) ∧ (¬ v1 ≤ v9 → (v6 = 0 → w_X10_layRows_193 Po K32 K136 v1 v2 v3 v4 v7 v8 v9 I) ∧ (¬ v6 = 0 → (v9 = 0 → w_X10_layRows_189 Po K32 K136 v1 v2 v3 v4 v7 v8 v9 I) ∧ (¬ v9 = 0 → vp_in (v9 - (1 : Int32)) 4 ∧ vp_in (((4 : Int32) * (I 205 ((v9 - (1 : Int32))).toNatClampNeg)) + (1 : Int32)) 32 ∧ vp_in v9 4 ∧ vp_in (((4 : Int32) * (I 205 (v9).toNatClampNeg)) + (3 : Int32)) 32 ∧ (¬ (I 201 ((((4 : Int32) * (I 205 ((v9 - (1 : Int32))).toNatClampNeg)) + (1 : Int32))).toNatClampNeg) = (I 201 ((((4 : Int32) * (I 205 (v9).toNatClampNeg)) + (3 : Int32))).toNatClampNeg) → w_X10_layRows_193 Po K32 K136 v1 v2 v3 v4 v7 v8 v9 I) ∧ ((I 201 ((((4 : Int32) * (I 205 ((v9 - (1 : Int32))).toNatClampNeg)) + (1 : Int32))).toNatClampNeg) = (I 201 ((((4 : Int32) * (I 205 (v9).toNatClampNeg)) + (3 : Int32))).toNatClampNeg) → w_X10_layRows_189 Po K32 K136 v1 v2 v3 v4 v7 v8 v9 I))))
def w_X10_layRows_136  (Po : gI → Prop) (K32 : Int32 → gI → Prop) (v1 : Int32) (v2 : Int32) (v3 : Int32) (v4 : Int32) (v6 : Int32) (v7 : Int32) (v8 : Int32) (v9 : Int32) (I : gI) : Prop :=
  ∃ (Inv : Int32 → Int32 → Int32 → Int32 → Prop) (mu : Int32 → Int32 → Int32 → Int32 → Nat), Inv v6 v7 v8 v9 ∧ ∀ (v6 : Int32) (v7 : Int32) (v8 : Int32) (v9 : Int32), Inv v6 v7 v8 v9 → w_X10_layRows_136b  Po K32 (fun u6 u7 u8 u9 => Inv u6 u7 u8 u9 ∧ mu u6 u7 u8 u9 < mu v6 v7 v8 v9) v1 v2 v3 v4 v6 v7 v8 v9 I
def w_X10_layRows_125  (Po : gI → Prop) (K32 : Int32 → gI → Prop) (v1 : Int32) (v2 : Int32) (v3 : Int32) (v4 : Int32) (s0 : Int32) (I : gI) : Prop :=
  w_X10_layRows_136 Po K32 v1 v2 v3 v4 s0 (0 : Int32) (0 : Int32) (0 : Int32) I
def w_X10_layRows_120  (Po : gI → Prop) (K32 : Int32 → gI → Prop) (v1 : Int32) (v2 : Int32) (v3 : Int32) (v4 : Int32) (I : gI) : Prop :=
  w_X10_layRows_125 Po K32 v1 v2 v3 v4 (1 : Int32) I
def w_X10_layRows_47b  (Po : gI → Prop) (K32 : Int32 → gI → Prop) (K47 : Int32 → Int32 → gI → Prop) (v1 : Int32) (v2 : Int32) (v3 : Int32) (v4 : Int32) (v5 : Int32) (v6 : Int32) (I : gI) : Prop :=
  (v6 < 0 → (v2 = 0 → w_X10_layRows_120 Po K32 v1 v2 v3 v4 I) ∧ (¬ v2 = 0 → vp_in (v1 - (1 : Int32)) 4 ∧ vp_in (((4 : Int32) * (I 205 ((v1 - (1 : Int32))).toNatClampNeg)) + (1 : Int32)) 32 ∧ vp_in (0 : Int32) 4 ∧ vp_in (((4 : Int32) * (I 205 ((0 : Int32)).toNatClampNeg)) + (3 : Int32)) 32 ∧ (¬ (I 201 ((((4 : Int32) * (I 205 ((v1 - (1 : Int32))).toNatClampNeg)) + (1 : Int32))).toNatClampNeg) = (I 201 ((((4 : Int32) * (I 205 ((0 : Int32)).toNatClampNeg)) + (3 : Int32))).toNatClampNeg) → w_X10_layRows_125 Po K32 v1 v2 v3 v4 (0 : Int32) I) ∧ ((I 201 ((((4 : Int32) * (I 205 ((v1 - (1 : Int32))).toNatClampNeg)) + (1 : Int32))).toNatClampNeg) = (I 201 ((((4 : Int32) * (I 205 ((0 : Int32)).toNatClampNeg)) + (3 : Int32))).toNatClampNeg) → w_X10_layRows_120 Po K32 v1 v2 v3 v4 I))) ∧ (¬ v6 < 0 → ¬ (I 200 0) = 0 ∧ vp_in v6 4 ∧ ∀ I38 : gI, I38 = gup I 205 (v6).toNatClampNeg (v5 - v5 / (I 200 0) * (I 200 0)) → ¬ (I38 200 0) = 0 ∧ ∀ n40 : Int32, n40 = (v5 / (I38 200 0)) → ∀ n41 : Int32, n41 = v6 + (-1) → K47 n40 n41 I38)
def w_X10_layRows_47  (Po : gI → Prop) (K32 : Int32 → gI → Prop) (v1 : Int32) (v2 : Int32) (v3 : Int32) (v4 : Int32) (v5 : Int32) (v6 : Int32) (I : gI) : Prop :=
  ∃ (Inv : Int32 → Int32 → gI → Prop) (mu : Int32 → Int32 → gI → Nat), Inv v5 v6 I ∧ ∀ (v5 : Int32) (v6 : Int32) (I : gI), Inv v5 v6 I → w_X10_layRows_47b  Po K32 (fun u5 u6 I1 => Inv u5 u6 I1 ∧ mu u5 u6 I1 < mu v5 v6 I) v1 v2 v3 v4 v5 v6 I
def w_X10_layRows_32b  (Po : gI → Prop) (K32 : Int32 → gI → Prop) (v1 : Int32) (v2 : Int32) (v3 : Int32) (v4 : Int32) (I : gI) : Prop :=
  (v3 ≤ v4 → Po I) ∧ (¬ v3 ≤ v4 → ∀ n4 : Int32, n4 = (v1 - (1 : Int32)) → w_X10_layRows_47 Po K32 v1 v2 v3 v4 v4 n4 I)
def w_X10_layRows_32  (Po : gI → Prop)  (v1 : Int32) (v2 : Int32) (v3 : Int32) (v4 : Int32) (I : gI) : Prop :=
  ∃ (Inv : Int32 → gI → Prop) (mu : Int32 → gI → Nat), Inv v4 I ∧ ∀ (v4 : Int32) (I : gI), Inv v4 I → w_X10_layRows_32b  Po  (fun u4 I1 => Inv u4 I1 ∧ mu u4 I1 < mu v4 I) v1 v2 v3 v4 I
def w_X10_layRows_10b  (Po : gI → Prop) (K10 : Int32 → Int32 → Prop) (v1 : Int32) (v2 : Int32) (v3 : Int32) (v4 : Int32) (I : gI) : Prop :=
  (v1 ≤ v4 → w_X10_layRows_32 Po v1 v2 v3 (0 : Int32) I) ∧ (¬ v1 ≤ v4 → ∀ n42 : Int32, n42 = (v3 * (I 200 0)) → ∀ n43 : Int32, n43 = v4 + 1 → K10 n42 n43)
def w_X10_layRows_10  (Po : gI → Prop)  (v1 : Int32) (v2 : Int32) (v3 : Int32) (v4 : Int32) (I : gI) : Prop :=
  ∃ (Inv : Int32 → Int32 → Prop) (mu : Int32 → Int32 → Nat), Inv v3 v4 ∧ ∀ (v3 : Int32) (v4 : Int32), Inv v3 v4 → w_X10_layRows_10b  Po  (fun u3 u4 => Inv u3 u4 ∧ mu u3 u4 < mu v3 v4) v1 v2 v3 v4 I
def wp_X10_layRows (a1 : Int32) (a2 : Int32) (I : gI) (Po : gI → Prop) : Prop :=
  ∀ I1 : gI, I1 = gup I 200 5 (0 : Int32) → w_X10_layRows_10 Po a1 a2 (1 : Int32) (0 : Int32) I1
set_option maxRecDepth 100000 in
set_option maxHeartbeats 4000000 in
theorem t_X10_layRows_296 {X : gX} {l : Launch} {D : va_G} {cy : Nat → ClassId} {nm : String} {V : gV} (hM : gModM V) (C : gC X cX10_layRows RX10 none 10 rm_X10_layRows) (hX : gIs X l D cy nm) {I : gI} {J : gL} {Po : gI → Prop} (hR : gR X (gPv V (fun I' J' => J = J' ∧ Po I'))) {v1 : Int32} {v2 : Int32} {v3 : Int32} {v4 : Int32} {K32 : Int32 → gI → Prop} (hK32 : ∀ (y4 : Int32) (I1 : gI), K32 y4 I1 → gJ X V 0 0 32 [(0, .ref (V.2.1 200)), (1, .int v1), (2, .int v2), (3, .int v3), (4, .int y4)] [] I1 J) (h : w_X10_layRows_296 Po K32 v1 v2 v3 v4 I) : gJ X V 0 0 296 [(0, .ref (V.2.1 200)), (1, .int v1), (2, .int v2), (3, .int v3), (4, .int v4)] [] I J := by
  unfold w_X10_layRows_296 at h
  obtain ⟨n9, en9⟩ : ∃ z : Int32, z = v4 + 1 := ⟨_, rfl⟩
  have h := h n9 en9
  refine j_iinc (pc := 296) (v := n9) (lv' := [(4, .int n9), (0, .ref (V.2.1 200)), (1, .int v1), (2, .int v2), (3, .int v3)]) C dX10_layRows_296 4 rfl (by rw [en9]; rfl) (by decide) rfl ?_
  refine j_goto (pc := 299) (tgt := 32) C dX10_layRows_299 (by decide) ?_
  refine gJ.sub [1, 2, 3, 4, 0] rfl ?_
  exact hK32 _ _ h
set_option maxRecDepth 100000 in
set_option maxHeartbeats 4000000 in
theorem t_X10_layRows_194 {X : gX} {l : Launch} {D : va_G} {cy : Nat → ClassId} {nm : String} {V : gV} (hM : gModM V) (C : gC X cX10_layRows RX10 none 10 rm_X10_layRows) (hX : gIs X l D cy nm) {I : gI} {J : gL} {Po : gI → Prop} (hR : gR X (gPv V (fun I' J' => J = J' ∧ Po I'))) {v1 : Int32} {v2 : Int32} {v3 : Int32} {v4 : Int32} {v7 : Int32} {v8 : Int32} {v9 : Int32} {s0 : Int32} {K32 : Int32 → gI → Prop} {K136 : Int32 → Int32 → Int32 → Int32 → Prop} (hK32 : ∀ (y4 : Int32) (I1 : gI), K32 y4 I1 → gJ X V 0 0 32 [(0, .ref (V.2.1 200)), (1, .int v1), (2, .int v2), (3, .int v3), (4, .int y4)] [] I1 J) (hK136 : ∀ (y6 : Int32) (y7 : Int32) (y8 : Int32) (y9 : Int32), K136 y6 y7 y8 y9 → gJ X V 0 0 136 [(0, .ref (V.2.1 200)), (1, .int v1), (2, .int v2), (3, .int v3), (4, .int v4), (6, .int y6), (7, .int y7), (8, .int y8), (9, .int y9)] [] I J) (h : w_X10_layRows_194 Po K32 K136 v1 v2 v3 v4 v7 v8 v9 s0 I) : gJ X V 0 0 194 [(0, .ref (V.2.1 200)), (1, .int v1), (2, .int v2), (3, .int v3), (4, .int v4), (7, .int v7), (8, .int v8), (9, .int v9)] [.int s0] I J := by
  unfold w_X10_layRows_194 at h
  refine j_istore (pc := 194) (lv' := [(6, .int s0), (0, .ref (V.2.1 200)), (1, .int v1), (2, .int v2), (3, .int v3), (4, .int v4), (7, .int v7), (8, .int v8), (9, .int v9)]) C dX10_layRows_194 (by decide) rfl ?_
  refine j_bipush (pc := 196) (v := 10) C dX10_layRows_196 (by decide) ?_
  refine j_iload (pc := 198) C dX10_layRows_198 6 rfl ?_
  refine j_imul (pc := 200) C dX10_layRows_200 ?_
  refine j_aload_n (pc := 201) C dX10_layRows_201 rfl 1 rfl ?_
  refine j_getR (pc := 202) C 200 1 201 (c_200 hM).1 (c_200 hM).2 rfl rfl (by decide) inw_X10 wd_967 dX10_layRows_202 ?_
  refine j_iconst (pc := 205) (v := 4) C dX10_layRows_205 (by decide) ?_
  refine j_aload_n (pc := 206) C dX10_layRows_206 rfl 1 rfl ?_
  refine j_getR (pc := 207) C 200 6 205 (c_200 hM).1 (c_200 hM).2 rfl rfl (by decide) inw_X10 wd_972 dX10_layRows_207 ?_
  refine j_iload (pc := 210) C dX10_layRows_210 8 rfl ?_
  obtain ⟨g18, h⟩ := h
  refine j_iald (pc := 212) C 205 (c_205 hM).1 (c_205 hM).2 g18 dX10_layRows_212 ?_
  refine j_imul (pc := 213) C dX10_layRows_213 ?_
  obtain ⟨g19, h⟩ := h
  refine j_iald (pc := 214) C 201 (c_201 hM).1 (c_201 hM).2 g19 dX10_layRows_214 ?_
  refine j_iadd (pc := 215) C dX10_layRows_215 ?_
  refine gJ.topi (fun n20 en20 => ?_)
  have h := h n20 en20
  refine j_istore (pc := 216) (lv' := [(7, .int n20), (6, .int s0), (0, .ref (V.2.1 200)), (1, .int v1), (2, .int v2), (3, .int v3), (4, .int v4), (8, .int v8), (9, .int v9)]) C dX10_layRows_216 (by decide) rfl ?_
  refine j_bipush (pc := 218) (v := 10) C dX10_layRows_218 (by decide) ?_
  refine j_iload (pc := 220) C dX10_layRows_220 7 rfl ?_
  refine j_imul (pc := 222) C dX10_layRows_222 ?_
  refine j_aload_n (pc := 223) C dX10_layRows_223 rfl 2 rfl ?_
  refine j_getR (pc := 224) C 200 1 201 (c_200 hM).1 (c_200 hM).2 rfl rfl (by decide) inw_X10 wd_967 dX10_layRows_224 ?_
  refine j_iconst (pc := 227) (v := 4) C dX10_layRows_227 (by decide) ?_
  refine j_aload_n (pc := 228) C dX10_layRows_228 rfl 2 rfl ?_
  refine j_getR (pc := 229) C 200 6 205 (c_200 hM).1 (c_200 hM).2 rfl rfl (by decide) inw_X10 wd_972 dX10_layRows_229 ?_
  refine j_iload (pc := 232) C dX10_layRows_232 8 rfl ?_
  obtain ⟨g21, h⟩ := h
  refine j_iald (pc := 234) C 205 (c_205 hM).1 (c_205 hM).2 g21 dX10_layRows_234 ?_
  refine j_imul (pc := 235) C dX10_layRows_235 ?_
  refine j_iconst (pc := 236) (v := 2) C dX10_layRows_236 (by decide) ?_
  refine j_iadd (pc := 237) C dX10_layRows_237 ?_
  obtain ⟨g22, h⟩ := h
  refine j_iald (pc := 238) C 201 (c_201 hM).1 (c_201 hM).2 g22 dX10_layRows_238 ?_
  refine j_iadd (pc := 239) C dX10_layRows_239 ?_
  refine gJ.topi (fun n23 en23 => ?_)
  have h := h n23 en23
  refine j_istore (pc := 240) (lv' := [(8, .int n23), (7, .int n20), (6, .int s0), (0, .ref (V.2.1 200)), (1, .int v1), (2, .int v2), (3, .int v3), (4, .int v4), (9, .int v9)]) C dX10_layRows_240 (by decide) rfl ?_
  obtain ⟨n24, en24⟩ : ∃ z : Int32, z = v9 + 1 := ⟨_, rfl⟩
  have h := h n24 en24
  refine j_iinc (pc := 242) (v := n24) (lv' := [(9, .int n24), (8, .int n23), (7, .int n20), (6, .int s0), (0, .ref (V.2.1 200)), (1, .int v1), (2, .int v2), (3, .int v3), (4, .int v4)]) C dX10_layRows_242 8 rfl (by rw [en24]; rfl) (by decide) rfl ?_
  refine j_goto (pc := 245) (tgt := 136) C dX10_layRows_245 (by decide) ?_
  refine gJ.sub [4, 5, 6, 7, 8, 3, 2, 1, 0] rfl ?_
  exact hK136 _ _ _ _ h
set_option maxRecDepth 100000 in
set_option maxHeartbeats 4000000 in
theorem t_X10_layRows_193 {X : gX} {l : Launch} {D : va_G} {cy : Nat → ClassId} {nm : String} {V : gV} (hM : gModM V) (C : gC X cX10_layRows RX10 none 10 rm_X10_layRows) (hX : gIs X l D cy nm) {I : gI} {J : gL} {Po : gI → Prop} (hR : gR X (gPv V (fun I' J' => J = J' ∧ Po I'))) {v1 : Int32} {v2 : Int32} {v3 : Int32} {v4 : Int32} {v7 : Int32} {v8 : Int32} {v9 : Int32} {K32 : Int32 → gI → Prop} {K136 : Int32 → Int32 → Int32 → Int32 → Prop} (hK32 : ∀ (y4 : Int32) (I1 : gI), K32 y4 I1 → gJ X V 0 0 32 [(0, .ref (V.2.1 200)), (1, .int v1), (2, .int v2), (3, .int v3), (4, .int y4)] [] I1 J) (hK136 : ∀ (y6 : Int32) (y7 : Int32) (y8 : Int32) (y9 : Int32), K136 y6 y7 y8 y9 → gJ X V 0 0 136 [(0, .ref (V.2.1 200)), (1, .int v1), (2, .int v2), (3, .int v3), (4, .int v4), (6, .int y6), (7, .int y7), (8, .int y8), (9, .int y9)] [] I J) (h : w_X10_layRows_193 Po K32 K136 v1 v2 v3 v4 v7 v8 v9 I) : gJ X V 0 0 193 [(0, .ref (V.2.1 200)), (1, .int v1), (2, .int v2), (3, .int v3), (4, .int v4), (7, .int v7), (8, .int v8), (9, .int v9)] [] I J := by
  unfold w_X10_layRows_193 at h
  refine j_iconst (pc := 193) (v := 0) C dX10_layRows_193 (by decide) ?_
  refine gJ.sub [0, 1, 2, 3, 4, 5, 6, 7] rfl ?_
  exact t_X10_layRows_194 hM C hX hR  hK32 hK136 h
set_option maxRecDepth 100000 in
set_option maxHeartbeats 4000000 in
theorem t_X10_layRows_189 {X : gX} {l : Launch} {D : va_G} {cy : Nat → ClassId} {nm : String} {V : gV} (hM : gModM V) (C : gC X cX10_layRows RX10 none 10 rm_X10_layRows) (hX : gIs X l D cy nm) {I : gI} {J : gL} {Po : gI → Prop} (hR : gR X (gPv V (fun I' J' => J = J' ∧ Po I'))) {v1 : Int32} {v2 : Int32} {v3 : Int32} {v4 : Int32} {v7 : Int32} {v8 : Int32} {v9 : Int32} {K32 : Int32 → gI → Prop} {K136 : Int32 → Int32 → Int32 → Int32 → Prop} (hK32 : ∀ (y4 : Int32) (I1 : gI), K32 y4 I1 → gJ X V 0 0 32 [(0, .ref (V.2.1 200)), (1, .int v1), (2, .int v2), (3, .int v3), (4, .int y4)] [] I1 J) (hK136 : ∀ (y6 : Int32) (y7 : Int32) (y8 : Int32) (y9 : Int32), K136 y6 y7 y8 y9 → gJ X V 0 0 136 [(0, .ref (V.2.1 200)), (1, .int v1), (2, .int v2), (3, .int v3), (4, .int v4), (6, .int y6), (7, .int y7), (8, .int y8), (9, .int y9)] [] I J) (h : w_X10_layRows_189 Po K32 K136 v1 v2 v3 v4 v7 v8 v9 I) : gJ X V 0 0 189 [(0, .ref (V.2.1 200)), (1, .int v1), (2, .int v2), (3, .int v3), (4, .int v4), (7, .int v7), (8, .int v8), (9, .int v9)] [] I J := by
  unfold w_X10_layRows_189 at h
  refine j_iconst (pc := 189) (v := 1) C dX10_layRows_189 (by decide) ?_
  refine j_goto (pc := 190) (tgt := 194) C dX10_layRows_190 (by decide) ?_
  refine gJ.sub [0, 1, 2, 3, 4, 5, 6, 7] rfl ?_
  exact t_X10_layRows_194 hM C hX hR  hK32 hK136 h
set_option maxRecDepth 100000 in
set_option maxHeartbeats 4000000 in
theorem t_X10_layRows_136b {X : gX} {l : Launch} {D : va_G} {cy : Nat → ClassId} {nm : String} {V : gV} (hM : gModM V) (C : gC X cX10_layRows RX10 none 10 rm_X10_layRows) (hX : gIs X l D cy nm) {I : gI} {J : gL} {Po : gI → Prop} (hR : gR X (gPv V (fun I' J' => J = J' ∧ Po I'))) {v1 : Int32} {v2 : Int32} {v3 : Int32} {v4 : Int32} {v6 : Int32} {v7 : Int32} {v8 : Int32} {v9 : Int32} {K32 : Int32 → gI → Prop} {K136 : Int32 → Int32 → Int32 → Int32 → Prop} (hK32 : ∀ (y4 : Int32) (I1 : gI), K32 y4 I1 → gJ X V 0 0 32 [(0, .ref (V.2.1 200)), (1, .int v1), (2, .int v2), (3, .int v3), (4, .int y4)] [] I1 J) (hK136 : ∀ (y6 : Int32) (y7 : Int32) (y8 : Int32) (y9 : Int32), K136 y6 y7 y8 y9 → gJ X V 0 0 136 [(0, .ref (V.2.1 200)), (1, .int v1), (2, .int v2), (3, .int v3), (4, .int v4), (6, .int y6), (7, .int y7), (8, .int y8), (9, .int y9)] [] I J) (h : w_X10_layRows_136b Po K32 K136 v1 v2 v3 v4 v6 v7 v8 v9 I) : gJ X V 0 0 136 [(0, .ref (V.2.1 200)), (1, .int v1), (2, .int v2), (3, .int v3), (4, .int v4), (6, .int v6), (7, .int v7), (8, .int v8), (9, .int v9)] [] I J := by
  unfold w_X10_layRows_136b at h
  refine j_iload (pc := 136) C dX10_layRows_136 8 rfl ?_
  refine j_iload_n (pc := 138) C dX10_layRows_138 rfl 1 rfl ?_
  refine j_icmp_ge (pc := 139) (tgt := 248) C dX10_layRows_139 (by decide) (fun c7 => ?_) (fun c7 => ?_)
  · have h := h.1 c7
    refine j_iload (pc := 248) C dX10_layRows_248 5 rfl ?_
    refine j_if_eq (pc := 250) (tgt := 296) C dX10_layRows_250 (by decide) (fun c8 => ?_) (fun c8 => ?_)
    · have h := h.1 c8
      refine gJ.sub [0, 1, 2, 3, 4] rfl ?_
      exact t_X10_layRows_296 hM C hX hR  hK32 h
    · have h := h.2 c8
      refine j_aload_n (pc := 253) C dX10_layRows_253 rfl 0 rfl ?_
      refine j_getR (pc := 254) C 200 2 202 (c_200 hM).1 (c_200 hM).2 rfl rfl (by decide) inw_X10 wd_968 dX10_layRows_254 ?_
      refine j_aload_n (pc := 257) C dX10_layRows_257 rfl 0 rfl ?_
      refine j_getI (pc := 258) C 200 5 (c_200 hM).1 (c_200 hM).2 rfl rfl (by decide) inw_X10 wd_971 dX10_layRows_258 ?_
      refine j_iload (pc := 261) C dX10_layRows_261 4 rfl ?_
      obtain ⟨g10, h⟩ := h
      refine j_iast (pc := 263) C 202 (c_202 hM).1 (c_202 hM).2 g10 dX10_layRows_263 ?_
      refine gJ.nmI (fun I11 eI11 => ?_)
      have h := h I11 eI11
      refine j_aload_n (pc := 264) C dX10_layRows_264 rfl 0 rfl ?_
      refine j_getR (pc := 265) C 200 3 203 (c_200 hM).1 (c_200 hM).2 rfl rfl (by decide) inw_X10 wd_969 dX10_layRows_265 ?_
      refine j_aload_n (pc := 268) C dX10_layRows_268 rfl 0 rfl ?_
      refine j_getI (pc := 269) C 200 5 (c_200 hM).1 (c_200 hM).2 rfl rfl (by decide) inw_X10 wd_971 dX10_layRows_269 ?_
      refine j_iload (pc := 272) C dX10_layRows_272 6 rfl ?_
      obtain ⟨g12, h⟩ := h
      refine j_iast (pc := 274) C 203 (c_203 hM).1 (c_203 hM).2 g12 dX10_layRows_274 ?_
      refine gJ.nmI (fun I13 eI13 => ?_)
      have h := h I13 eI13
      refine j_aload_n (pc := 275) C dX10_layRows_275 rfl 0 rfl ?_
      refine j_getR (pc := 276) C 200 4 204 (c_200 hM).1 (c_200 hM).2 rfl rfl (by decide) inw_X10 wd_970 dX10_layRows_276 ?_
      refine j_aload_n (pc := 279) C dX10_layRows_279 rfl 0 rfl ?_
      refine j_getI (pc := 280) C 200 5 (c_200 hM).1 (c_200 hM).2 rfl rfl (by decide) inw_X10 wd_971 dX10_layRows_280 ?_
      refine j_iload (pc := 283) C dX10_layRows_283 7 rfl ?_
      obtain ⟨g14, h⟩ := h
      refine j_iast (pc := 285) C 204 (c_204 hM).1 (c_204 hM).2 g14 dX10_layRows_285 ?_
      refine gJ.nmI (fun I15 eI15 => ?_)
      have h := h I15 eI15
      refine j_aload_n (pc := 286) C dX10_layRows_286 rfl 0 rfl ?_
      refine j_dup (pc := 287) C dX10_layRows_287 rfl ?_
      refine j_getI (pc := 288) C 200 5 (c_200 hM).1 (c_200 hM).2 rfl rfl (by decide) inw_X10 wd_971 dX10_layRows_288 ?_
      refine j_iconst (pc := 291) (v := 1) C dX10_layRows_291 (by decide) ?_
      refine j_iadd (pc := 292) C dX10_layRows_292 ?_
      refine j_putI (pc := 293) (ft := .int) C tyX10 tyX10_ok nmX10 200 5 (c_200 hM).1 (c_200 hM).2 rfl rfl (by decide) inw_X10 wd_971 rfl (by decide +kernel) rfl rfl dX10_layRows_293 ?_
      refine gJ.nmI (fun I16 eI16 => ?_)
      have h := h I16 eI16
      refine gJ.sub [0, 1, 2, 3, 4] rfl ?_
      exact t_X10_layRows_296 hM C hX hR  hK32 h
  · have h := h.2 c7
    refine j_iload (pc := 142) C dX10_layRows_142 5 rfl ?_
    refine j_if_eq (pc := 144) (tgt := 193) C dX10_layRows_144 (by decide) (fun c17 => ?_) (fun c17 => ?_)
    · have h := h.1 c17
      refine gJ.sub [0, 1, 2, 3, 4, 6, 7, 8] rfl ?_
      exact t_X10_layRows_193 hM C hX hR  hK32 hK136 h
    · have h := h.2 c17
      refine j_iload (pc := 147) C dX10_layRows_147 8 rfl ?_
      refine j_if_eq (pc := 149) (tgt := 189) C dX10_layRows_149 (by decide) (fun c25 => ?_) (fun c25 => ?_)
      · have h := h.1 c25
        refine gJ.sub [0, 1, 2, 3, 4, 6, 7, 8] rfl ?_
        exact t_X10_layRows_189 hM C hX hR  hK32 hK136 h
      · have h := h.2 c25
        refine j_aload_n (pc := 152) C dX10_layRows_152 rfl 0 rfl ?_
        refine j_getR (pc := 153) C 200 1 201 (c_200 hM).1 (c_200 hM).2 rfl rfl (by decide) inw_X10 wd_967 dX10_layRows_153 ?_
        refine j_iconst (pc := 156) (v := 4) C dX10_layRows_156 (by decide) ?_
        refine j_aload_n (pc := 157) C dX10_layRows_157 rfl 0 rfl ?_
        refine j_getR (pc := 158) C 200 6 205 (c_200 hM).1 (c_200 hM).2 rfl rfl (by decide) inw_X10 wd_972 dX10_layRows_158 ?_
        refine j_iload (pc := 161) C dX10_layRows_161 8 rfl ?_
        refine j_iconst (pc := 163) (v := 1) C dX10_layRows_163 (by decide) ?_
        refine j_isub (pc := 164) C dX10_layRows_164 ?_
        obtain ⟨g26, h⟩ := h
        refine j_iald (pc := 165) C 205 (c_205 hM).1 (c_205 hM).2 g26 dX10_layRows_165 ?_
        refine j_imul (pc := 166) C dX10_layRows_166 ?_
        refine j_iconst (pc := 167) (v := 1) C dX10_layRows_167 (by decide) ?_
        refine j_iadd (pc := 168) C dX10_layRows_168 ?_
        obtain ⟨g27, h⟩ := h
        refine j_iald (pc := 169) C 201 (c_201 hM).1 (c_201 hM).2 g27 dX10_layRows_169 ?_
        refine j_aload_n (pc := 170) C dX10_layRows_170 rfl 0 rfl ?_
        refine j_getR (pc := 171) C 200 1 201 (c_200 hM).1 (c_200 hM).2 rfl rfl (by decide) inw_X10 wd_967 dX10_layRows_171 ?_
        refine j_iconst (pc := 174) (v := 4) C dX10_layRows_174 (by decide) ?_
        refine j_aload_n (pc := 175) C dX10_layRows_175 rfl 0 rfl ?_
        refine j_getR (pc := 176) C 200 6 205 (c_200 hM).1 (c_200 hM).2 rfl rfl (by decide) inw_X10 wd_972 dX10_layRows_176 ?_
        refine j_iload (pc := 179) C dX10_layRows_179 8 rfl ?_
        obtain ⟨g28, h⟩ := h
        refine j_iald (pc := 181) C 205 (c_205 hM).1 (c_205 hM).2 g28 dX10_layRows_181 ?_
        refine j_imul (pc := 182) C dX10_layRows_182 ?_
        refine j_iconst (pc := 183) (v := 3) C dX10_layRows_183 (by decide) ?_
        refine j_iadd (pc := 184) C dX10_layRows_184 ?_
        obtain ⟨g29, h⟩ := h
        refine j_iald (pc := 185) C 201 (c_201 hM).1 (c_201 hM).2 g29 dX10_layRows_185 ?_
        refine j_icmp_ne (pc := 186) (tgt := 193) C dX10_layRows_186 (by decide) (fun c30 => ?_) (fun c30 => ?_)
        · have h := h.1 c30
          refine gJ.sub [0, 1, 2, 3, 4, 6, 7, 8] rfl ?_
          exact t_X10_layRows_193 hM C hX hR  hK32 hK136 h
        · have h := h.2 c30
          refine gJ.sub [0, 1, 2, 3, 4, 6, 7, 8] rfl ?_
          exact t_X10_layRows_189 hM C hX hR  hK32 hK136 h
set_option maxRecDepth 100000 in
set_option maxHeartbeats 4000000 in
theorem t_X10_layRows_136 {X : gX} {l : Launch} {D : va_G} {cy : Nat → ClassId} {nm : String} {V : gV} (hM : gModM V) (C : gC X cX10_layRows RX10 none 10 rm_X10_layRows) (hX : gIs X l D cy nm) {I : gI} {J : gL} {Po : gI → Prop} (hR : gR X (gPv V (fun I' J' => J = J' ∧ Po I'))) {v1 : Int32} {v2 : Int32} {v3 : Int32} {v4 : Int32} {v6 : Int32} {v7 : Int32} {v8 : Int32} {v9 : Int32} {K32 : Int32 → gI → Prop} (hK32 : ∀ (y4 : Int32) (I1 : gI), K32 y4 I1 → gJ X V 0 0 32 [(0, .ref (V.2.1 200)), (1, .int v1), (2, .int v2), (3, .int v3), (4, .int y4)] [] I1 J) (h : w_X10_layRows_136 Po K32 v1 v2 v3 v4 v6 v7 v8 v9 I) : gJ X V 0 0 136 [(0, .ref (V.2.1 200)), (1, .int v1), (2, .int v2), (3, .int v3), (4, .int v4), (6, .int v6), (7, .int v7), (8, .int v8), (9, .int v9)] [] I J := by
  unfold w_X10_layRows_136 at h
  obtain ⟨Inv, mu, h0, hs⟩ := h
  have key : ∀ (n : Nat) (v6 : Int32) (v7 : Int32) (v8 : Int32) (v9 : Int32), Inv v6 v7 v8 v9 → mu v6 v7 v8 v9 < n → gJ X V 0 0 136 [(0, .ref (V.2.1 200)), (1, .int v1), (2, .int v2), (3, .int v3), (4, .int v4), (6, .int v6), (7, .int v7), (8, .int v8), (9, .int v9)] [] I J := by
    intro n
    induction n with
    | zero => intro v6 v7 v8 v9 hi hn; exact absurd hn (Nat.not_lt_zero _)
    | succ n ih =>
      intro v6 v7 v8 v9 hi hn
      exact t_X10_layRows_136b hM C hX hR  hK32 (fun u6 u7 u8 u9 hk => ih u6 u7 u8 u9 hk.1 (Nat.lt_of_lt_of_le hk.2 (Nat.le_of_lt_succ hn))) (hs v6 v7 v8 v9 hi)
  exact key _ v6 v7 v8 v9 h0 (Nat.lt_succ_self _)
set_option maxRecDepth 100000 in
set_option maxHeartbeats 4000000 in
theorem t_X10_layRows_125 {X : gX} {l : Launch} {D : va_G} {cy : Nat → ClassId} {nm : String} {V : gV} (hM : gModM V) (C : gC X cX10_layRows RX10 none 10 rm_X10_layRows) (hX : gIs X l D cy nm) {I : gI} {J : gL} {Po : gI → Prop} (hR : gR X (gPv V (fun I' J' => J = J' ∧ Po I'))) {v1 : Int32} {v2 : Int32} {v3 : Int32} {v4 : Int32} {s0 : Int32} {K32 : Int32 → gI → Prop} (hK32 : ∀ (y4 : Int32) (I1 : gI), K32 y4 I1 → gJ X V 0 0 32 [(0, .ref (V.2.1 200)), (1, .int v1), (2, .int v2), (3, .int v3), (4, .int y4)] [] I1 J) (h : w_X10_layRows_125 Po K32 v1 v2 v3 v4 s0 I) : gJ X V 0 0 125 [(0, .ref (V.2.1 200)), (1, .int v1), (2, .int v2), (3, .int v3), (4, .int v4)] [.int s0] I J := by
  unfold w_X10_layRows_125 at h
  refine j_istore (pc := 125) (lv' := [(6, .int s0), (0, .ref (V.2.1 200)), (1, .int v1), (2, .int v2), (3, .int v3), (4, .int v4)]) C dX10_layRows_125 (by decide) rfl ?_
  refine j_iconst (pc := 127) (v := 0) C dX10_layRows_127 (by decide) ?_
  refine j_istore (pc := 128) (lv' := [(7, .int (0 : Int32)), (6, .int s0), (0, .ref (V.2.1 200)), (1, .int v1), (2, .int v2), (3, .int v3), (4, .int v4)]) C dX10_layRows_128 (by decide) rfl ?_
  refine j_iconst (pc := 130) (v := 0) C dX10_layRows_130 (by decide) ?_
  refine j_istore (pc := 131) (lv' := [(8, .int (0 : Int32)), (7, .int (0 : Int32)), (6, .int s0), (0, .ref (V.2.1 200)), (1, .int v1), (2, .int v2), (3, .int v3), (4, .int v4)]) C dX10_layRows_131 (by decide) rfl ?_
  refine j_iconst (pc := 133) (v := 0) C dX10_layRows_133 (by decide) ?_
  refine j_istore (pc := 134) (lv' := [(9, .int (0 : Int32)), (8, .int (0 : Int32)), (7, .int (0 : Int32)), (6, .int s0), (0, .ref (V.2.1 200)), (1, .int v1), (2, .int v2), (3, .int v3), (4, .int v4)]) C dX10_layRows_134 (by decide) rfl ?_
  refine gJ.sub [4, 5, 6, 7, 8, 3, 2, 1, 0] rfl ?_
  exact t_X10_layRows_136 hM C hX hR  hK32 h
set_option maxRecDepth 100000 in
set_option maxHeartbeats 4000000 in
theorem t_X10_layRows_120 {X : gX} {l : Launch} {D : va_G} {cy : Nat → ClassId} {nm : String} {V : gV} (hM : gModM V) (C : gC X cX10_layRows RX10 none 10 rm_X10_layRows) (hX : gIs X l D cy nm) {I : gI} {J : gL} {Po : gI → Prop} (hR : gR X (gPv V (fun I' J' => J = J' ∧ Po I'))) {v1 : Int32} {v2 : Int32} {v3 : Int32} {v4 : Int32} {K32 : Int32 → gI → Prop} (hK32 : ∀ (y4 : Int32) (I1 : gI), K32 y4 I1 → gJ X V 0 0 32 [(0, .ref (V.2.1 200)), (1, .int v1), (2, .int v2), (3, .int v3), (4, .int y4)] [] I1 J) (h : w_X10_layRows_120 Po K32 v1 v2 v3 v4 I) : gJ X V 0 0 120 [(0, .ref (V.2.1 200)), (1, .int v1), (2, .int v2), (3, .int v3), (4, .int v4)] [] I J := by
  unfold w_X10_layRows_120 at h
  refine j_iconst (pc := 120) (v := 1) C dX10_layRows_120 (by decide) ?_
  refine j_goto (pc := 121) (tgt := 125) C dX10_layRows_121 (by decide) ?_
  refine gJ.sub [0, 1, 2, 3, 4] rfl ?_
  exact t_X10_layRows_125 hM C hX hR  hK32 h
set_option maxRecDepth 100000 in
set_option maxHeartbeats 4000000 in
theorem t_X10_layRows_47b {X : gX} {l : Launch} {D : va_G} {cy : Nat → ClassId} {nm : String} {V : gV} (hM : gModM V) (C : gC X cX10_layRows RX10 none 10 rm_X10_layRows) (hX : gIs X l D cy nm) {I : gI} {J : gL} {Po : gI → Prop} (hR : gR X (gPv V (fun I' J' => J = J' ∧ Po I'))) {v1 : Int32} {v2 : Int32} {v3 : Int32} {v4 : Int32} {v5 : Int32} {v6 : Int32} {K32 : Int32 → gI → Prop} {K47 : Int32 → Int32 → gI → Prop} (hK32 : ∀ (y4 : Int32) (I1 : gI), K32 y4 I1 → gJ X V 0 0 32 [(0, .ref (V.2.1 200)), (1, .int v1), (2, .int v2), (3, .int v3), (4, .int y4)] [] I1 J) (hK47 : ∀ (y5 : Int32) (y6 : Int32) (I1 : gI), K47 y5 y6 I1 → gJ X V 0 0 47 [(0, .ref (V.2.1 200)), (1, .int v1), (2, .int v2), (3, .int v3), (4, .int v4), (5, .int y5), (6, .int y6)] [] I1 J) (h : w_X10_layRows_47b Po K32 K47 v1 v2 v3 v4 v5 v6 I) : gJ X V 0 0 47 [(0, .ref (V.2.1 200)), (1, .int v1), (2, .int v2), (3, .int v3), (4, .int v4), (5, .int v5), (6, .int v6)] [] I J := by
  unfold w_X10_layRows_47b at h
  refine j_iload (pc := 47) C dX10_layRows_47 6 rfl ?_
  refine j_if_lt (pc := 49) (tgt := 81) C dX10_layRows_49 (by decide) (fun c5 => ?_) (fun c5 => ?_)
  · have h := h.1 c5
    refine j_iload_n (pc := 81) C dX10_layRows_81 rfl 2 rfl ?_
    refine j_if_eq (pc := 82) (tgt := 120) C dX10_layRows_82 (by decide) (fun c6 => ?_) (fun c6 => ?_)
    · have h := h.1 c6
      refine gJ.sub [0, 1, 2, 3, 4] rfl ?_
      exact t_X10_layRows_120 hM C hX hR  hK32 h
    · have h := h.2 c6
      refine j_aload_n (pc := 85) C dX10_layRows_85 rfl 0 rfl ?_
      refine j_getR (pc := 86) C 200 1 201 (c_200 hM).1 (c_200 hM).2 rfl rfl (by decide) inw_X10 wd_967 dX10_layRows_86 ?_
      refine j_iconst (pc := 89) (v := 4) C dX10_layRows_89 (by decide) ?_
      refine j_aload_n (pc := 90) C dX10_layRows_90 rfl 0 rfl ?_
      refine j_getR (pc := 91) C 200 6 205 (c_200 hM).1 (c_200 hM).2 rfl rfl (by decide) inw_X10 wd_972 dX10_layRows_91 ?_
      refine j_iload_n (pc := 94) C dX10_layRows_94 rfl 1 rfl ?_
      refine j_iconst (pc := 95) (v := 1) C dX10_layRows_95 (by decide) ?_
      refine j_isub (pc := 96) C dX10_layRows_96 ?_
      obtain ⟨g31, h⟩ := h
      refine j_iald (pc := 97) C 205 (c_205 hM).1 (c_205 hM).2 g31 dX10_layRows_97 ?_
      refine j_imul (pc := 98) C dX10_layRows_98 ?_
      refine j_iconst (pc := 99) (v := 1) C dX10_layRows_99 (by decide) ?_
      refine j_iadd (pc := 100) C dX10_layRows_100 ?_
      obtain ⟨g32, h⟩ := h
      refine j_iald (pc := 101) C 201 (c_201 hM).1 (c_201 hM).2 g32 dX10_layRows_101 ?_
      refine j_aload_n (pc := 102) C dX10_layRows_102 rfl 0 rfl ?_
      refine j_getR (pc := 103) C 200 1 201 (c_200 hM).1 (c_200 hM).2 rfl rfl (by decide) inw_X10 wd_967 dX10_layRows_103 ?_
      refine j_iconst (pc := 106) (v := 4) C dX10_layRows_106 (by decide) ?_
      refine j_aload_n (pc := 107) C dX10_layRows_107 rfl 0 rfl ?_
      refine j_getR (pc := 108) C 200 6 205 (c_200 hM).1 (c_200 hM).2 rfl rfl (by decide) inw_X10 wd_972 dX10_layRows_108 ?_
      refine j_iconst (pc := 111) (v := 0) C dX10_layRows_111 (by decide) ?_
      obtain ⟨g33, h⟩ := h
      refine j_iald (pc := 112) C 205 (c_205 hM).1 (c_205 hM).2 g33 dX10_layRows_112 ?_
      refine j_imul (pc := 113) C dX10_layRows_113 ?_
      refine j_iconst (pc := 114) (v := 3) C dX10_layRows_114 (by decide) ?_
      refine j_iadd (pc := 115) C dX10_layRows_115 ?_
      obtain ⟨g34, h⟩ := h
      refine j_iald (pc := 116) C 201 (c_201 hM).1 (c_201 hM).2 g34 dX10_layRows_116 ?_
      refine j_icmp_ne (pc := 117) (tgt := 124) C dX10_layRows_117 (by decide) (fun c35 => ?_) (fun c35 => ?_)
      · have h := h.1 c35
        refine j_iconst (pc := 124) (v := 0) C dX10_layRows_124 (by decide) ?_
        refine gJ.sub [0, 1, 2, 3, 4] rfl ?_
        exact t_X10_layRows_125 hM C hX hR  hK32 h
      · have h := h.2 c35
        refine gJ.sub [0, 1, 2, 3, 4] rfl ?_
        exact t_X10_layRows_120 hM C hX hR  hK32 h
  · have h := h.2 c5
    refine j_aload_n (pc := 52) C dX10_layRows_52 rfl 0 rfl ?_
    refine j_getR (pc := 53) C 200 6 205 (c_200 hM).1 (c_200 hM).2 rfl rfl (by decide) inw_X10 wd_972 dX10_layRows_53 ?_
    refine j_iload (pc := 56) C dX10_layRows_56 6 rfl ?_
    refine j_iload (pc := 58) C dX10_layRows_58 5 rfl ?_
    refine j_aload_n (pc := 60) C dX10_layRows_60 rfl 0 rfl ?_
    refine j_getI (pc := 61) C 200 0 (c_200 hM).1 (c_200 hM).2 rfl rfl (by decide) inw_X10 wd_966 dX10_layRows_61 ?_
    obtain ⟨g36, h⟩ := h
    refine j_irem (pc := 64) C dX10_layRows_64 g36 ?_
    obtain ⟨g37, h⟩ := h
    refine j_iast (pc := 65) C 205 (c_205 hM).1 (c_205 hM).2 g37 dX10_layRows_65 ?_
    refine gJ.nmI (fun I38 eI38 => ?_)
    have h := h I38 eI38
    refine j_iload (pc := 66) C dX10_layRows_66 5 rfl ?_
    refine j_aload_n (pc := 68) C dX10_layRows_68 rfl 0 rfl ?_
    refine j_getI (pc := 69) C 200 0 (c_200 hM).1 (c_200 hM).2 rfl rfl (by decide) inw_X10 wd_966 dX10_layRows_69 ?_
    obtain ⟨g39, h⟩ := h
    refine j_idiv (pc := 72) C dX10_layRows_72 g39 ?_
    refine gJ.topi (fun n40 en40 => ?_)
    have h := h n40 en40
    refine j_istore (pc := 73) (lv' := [(5, .int n40), (0, .ref (V.2.1 200)), (1, .int v1), (2, .int v2), (3, .int v3), (4, .int v4), (6, .int v6)]) C dX10_layRows_73 (by decide) rfl ?_
    obtain ⟨n41, en41⟩ : ∃ z : Int32, z = v6 + (-1) := ⟨_, rfl⟩
    have h := h n41 en41
    refine j_iinc (pc := 75) (v := n41) (lv' := [(6, .int n41), (5, .int n40), (0, .ref (V.2.1 200)), (1, .int v1), (2, .int v2), (3, .int v3), (4, .int v4)]) C dX10_layRows_75 6 rfl (by rw [en41]; rfl) (by decide) rfl ?_
    refine j_goto (pc := 78) (tgt := 47) C dX10_layRows_78 (by decide) ?_
    refine gJ.sub [2, 3, 4, 5, 6, 1, 0] rfl ?_
    exact hK47 _ _ _ h
set_option maxRecDepth 100000 in
set_option maxHeartbeats 4000000 in
theorem t_X10_layRows_47 {X : gX} {l : Launch} {D : va_G} {cy : Nat → ClassId} {nm : String} {V : gV} (hM : gModM V) (C : gC X cX10_layRows RX10 none 10 rm_X10_layRows) (hX : gIs X l D cy nm) {I : gI} {J : gL} {Po : gI → Prop} (hR : gR X (gPv V (fun I' J' => J = J' ∧ Po I'))) {v1 : Int32} {v2 : Int32} {v3 : Int32} {v4 : Int32} {v5 : Int32} {v6 : Int32} {K32 : Int32 → gI → Prop} (hK32 : ∀ (y4 : Int32) (I1 : gI), K32 y4 I1 → gJ X V 0 0 32 [(0, .ref (V.2.1 200)), (1, .int v1), (2, .int v2), (3, .int v3), (4, .int y4)] [] I1 J) (h : w_X10_layRows_47 Po K32 v1 v2 v3 v4 v5 v6 I) : gJ X V 0 0 47 [(0, .ref (V.2.1 200)), (1, .int v1), (2, .int v2), (3, .int v3), (4, .int v4), (5, .int v5), (6, .int v6)] [] I J := by
  unfold w_X10_layRows_47 at h
  obtain ⟨Inv, mu, h0, hs⟩ := h
  have key : ∀ (n : Nat) (v5 : Int32) (v6 : Int32) (I : gI), Inv v5 v6 I → mu v5 v6 I < n → gJ X V 0 0 47 [(0, .ref (V.2.1 200)), (1, .int v1), (2, .int v2), (3, .int v3), (4, .int v4), (5, .int v5), (6, .int v6)] [] I J := by
    intro n
    induction n with
    | zero => intro v5 v6 I hi hn; exact absurd hn (Nat.not_lt_zero _)
    | succ n ih =>
      intro v5 v6 I hi hn
      exact t_X10_layRows_47b hM C hX hR  hK32 (fun u5 u6 I1 hk => ih u5 u6 I1 hk.1 (Nat.lt_of_lt_of_le hk.2 (Nat.le_of_lt_succ hn))) (hs v5 v6 I hi)
  exact key _ v5 v6 I h0 (Nat.lt_succ_self _)
set_option maxRecDepth 100000 in
set_option maxHeartbeats 4000000 in
theorem t_X10_layRows_32b {X : gX} {l : Launch} {D : va_G} {cy : Nat → ClassId} {nm : String} {V : gV} (hM : gModM V) (C : gC X cX10_layRows RX10 none 10 rm_X10_layRows) (hX : gIs X l D cy nm) {I : gI} {J : gL} {Po : gI → Prop} (hR : gR X (gPv V (fun I' J' => J = J' ∧ Po I'))) {v1 : Int32} {v2 : Int32} {v3 : Int32} {v4 : Int32} {K32 : Int32 → gI → Prop} (hK32 : ∀ (y4 : Int32) (I1 : gI), K32 y4 I1 → gJ X V 0 0 32 [(0, .ref (V.2.1 200)), (1, .int v1), (2, .int v2), (3, .int v3), (4, .int y4)] [] I1 J) (h : w_X10_layRows_32b Po K32 v1 v2 v3 v4 I) : gJ X V 0 0 32 [(0, .ref (V.2.1 200)), (1, .int v1), (2, .int v2), (3, .int v3), (4, .int v4)] [] I J := by
  unfold w_X10_layRows_32b at h
  refine j_iload (pc := 32) C dX10_layRows_32 4 rfl ?_
  refine j_iload_n (pc := 34) C dX10_layRows_34 rfl 3 rfl ?_
  refine j_icmp_ge (pc := 35) (tgt := 302) C dX10_layRows_35 (by decide) (fun c3 => ?_) (fun c3 => ?_)
  · have h := h.1 c3
    exact j_vret (pc := 302) C hR (Nat.zero_le _) (Nat.zero_le _) dX10_layRows_302 ⟨rfl, rfl, rfl, h⟩
  · have h := h.2 c3
    refine j_iload (pc := 38) C dX10_layRows_38 4 rfl ?_
    refine j_istore (pc := 40) (lv' := [(5, .int v4), (0, .ref (V.2.1 200)), (1, .int v1), (2, .int v2), (3, .int v3), (4, .int v4)]) C dX10_layRows_40 (by decide) rfl ?_
    refine j_iload_n (pc := 42) C dX10_layRows_42 rfl 2 rfl ?_
    refine j_iconst (pc := 43) (v := 1) C dX10_layRows_43 (by decide) ?_
    refine j_isub (pc := 44) C dX10_layRows_44 ?_
    refine gJ.topi (fun n4 en4 => ?_)
    have h := h n4 en4
    refine j_istore (pc := 45) (lv' := [(6, .int n4), (5, .int v4), (0, .ref (V.2.1 200)), (1, .int v1), (2, .int v2), (3, .int v3), (4, .int v4)]) C dX10_layRows_45 (by decide) rfl ?_
    refine gJ.sub [2, 3, 4, 5, 6, 1, 0] rfl ?_
    exact t_X10_layRows_47 hM C hX hR  hK32 h
set_option maxRecDepth 100000 in
set_option maxHeartbeats 4000000 in
theorem t_X10_layRows_32 {X : gX} {l : Launch} {D : va_G} {cy : Nat → ClassId} {nm : String} {V : gV} (hM : gModM V) (C : gC X cX10_layRows RX10 none 10 rm_X10_layRows) (hX : gIs X l D cy nm) {I : gI} {J : gL} {Po : gI → Prop} (hR : gR X (gPv V (fun I' J' => J = J' ∧ Po I'))) {v1 : Int32} {v2 : Int32} {v3 : Int32} {v4 : Int32} (h : w_X10_layRows_32 Po v1 v2 v3 v4 I) : gJ X V 0 0 32 [(0, .ref (V.2.1 200)), (1, .int v1), (2, .int v2), (3, .int v3), (4, .int v4)] [] I J := by
  unfold w_X10_layRows_32 at h
  obtain ⟨Inv, mu, h0, hs⟩ := h
  have key : ∀ (n : Nat) (v4 : Int32) (I : gI), Inv v4 I → mu v4 I < n → gJ X V 0 0 32 [(0, .ref (V.2.1 200)), (1, .int v1), (2, .int v2), (3, .int v3), (4, .int v4)] [] I J := by
    intro n
    induction n with
    | zero => intro v4 I hi hn; exact absurd hn (Nat.not_lt_zero _)
    | succ n ih =>
      intro v4 I hi hn
      exact t_X10_layRows_32b hM C hX hR   (fun u4 I1 hk => ih u4 I1 hk.1 (Nat.lt_of_lt_of_le hk.2 (Nat.le_of_lt_succ hn))) (hs v4 I hi)
  exact key _ v4 I h0 (Nat.lt_succ_self _)
set_option maxRecDepth 100000 in
set_option maxHeartbeats 4000000 in
theorem t_X10_layRows_10b {X : gX} {l : Launch} {D : va_G} {cy : Nat → ClassId} {nm : String} {V : gV} (hM : gModM V) (C : gC X cX10_layRows RX10 none 10 rm_X10_layRows) (hX : gIs X l D cy nm) {I : gI} {J : gL} {Po : gI → Prop} (hR : gR X (gPv V (fun I' J' => J = J' ∧ Po I'))) {v1 : Int32} {v2 : Int32} {v3 : Int32} {v4 : Int32} {K10 : Int32 → Int32 → Prop} (hK10 : ∀ (y3 : Int32) (y4 : Int32), K10 y3 y4 → gJ X V 0 0 10 [(0, .ref (V.2.1 200)), (1, .int v1), (2, .int v2), (3, .int y3), (4, .int y4)] [] I J) (h : w_X10_layRows_10b Po K10 v1 v2 v3 v4 I) : gJ X V 0 0 10 [(0, .ref (V.2.1 200)), (1, .int v1), (2, .int v2), (3, .int v3), (4, .int v4)] [] I J := by
  unfold w_X10_layRows_10b at h
  refine j_iload (pc := 10) C dX10_layRows_10 4 rfl ?_
  refine j_iload_n (pc := 12) C dX10_layRows_12 rfl 1 rfl ?_
  refine j_icmp_ge (pc := 13) (tgt := 29) C dX10_layRows_13 (by decide) (fun c2 => ?_) (fun c2 => ?_)
  · have h := h.1 c2
    refine j_iconst (pc := 29) (v := 0) C dX10_layRows_29 (by decide) ?_
    refine j_istore (pc := 30) (lv' := [(4, .int (0 : Int32)), (0, .ref (V.2.1 200)), (1, .int v1), (2, .int v2), (3, .int v3)]) C dX10_layRows_30 (by decide) rfl ?_
    refine gJ.sub [1, 2, 3, 4, 0] rfl ?_
    exact t_X10_layRows_32 hM C hX hR   h
  · have h := h.2 c2
    refine j_iload_n (pc := 16) C dX10_layRows_16 rfl 3 rfl ?_
    refine j_aload_n (pc := 17) C dX10_layRows_17 rfl 0 rfl ?_
    refine j_getI (pc := 18) C 200 0 (c_200 hM).1 (c_200 hM).2 rfl rfl (by decide) inw_X10 wd_966 dX10_layRows_18 ?_
    refine j_imul (pc := 21) C dX10_layRows_21 ?_
    refine gJ.topi (fun n42 en42 => ?_)
    have h := h n42 en42
    refine j_istore_n (pc := 22) (lv' := [(3, .int n42), (0, .ref (V.2.1 200)), (1, .int v1), (2, .int v2), (4, .int v4)]) C dX10_layRows_22 rfl (by decide) rfl ?_
    obtain ⟨n43, en43⟩ : ∃ z : Int32, z = v4 + 1 := ⟨_, rfl⟩
    have h := h n43 en43
    refine j_iinc (pc := 23) (v := n43) (lv' := [(4, .int n43), (3, .int n42), (0, .ref (V.2.1 200)), (1, .int v1), (2, .int v2)]) C dX10_layRows_23 4 rfl (by rw [en43]; rfl) (by decide) rfl ?_
    refine j_goto (pc := 26) (tgt := 10) C dX10_layRows_26 (by decide) ?_
    refine gJ.sub [2, 3, 4, 1, 0] rfl ?_
    exact hK10 _ _ h
set_option maxRecDepth 100000 in
set_option maxHeartbeats 4000000 in
theorem t_X10_layRows_10 {X : gX} {l : Launch} {D : va_G} {cy : Nat → ClassId} {nm : String} {V : gV} (hM : gModM V) (C : gC X cX10_layRows RX10 none 10 rm_X10_layRows) (hX : gIs X l D cy nm) {I : gI} {J : gL} {Po : gI → Prop} (hR : gR X (gPv V (fun I' J' => J = J' ∧ Po I'))) {v1 : Int32} {v2 : Int32} {v3 : Int32} {v4 : Int32} (h : w_X10_layRows_10 Po v1 v2 v3 v4 I) : gJ X V 0 0 10 [(0, .ref (V.2.1 200)), (1, .int v1), (2, .int v2), (3, .int v3), (4, .int v4)] [] I J := by
  unfold w_X10_layRows_10 at h
  obtain ⟨Inv, mu, h0, hs⟩ := h
  have key : ∀ (n : Nat) (v3 : Int32) (v4 : Int32), Inv v3 v4 → mu v3 v4 < n → gJ X V 0 0 10 [(0, .ref (V.2.1 200)), (1, .int v1), (2, .int v2), (3, .int v3), (4, .int v4)] [] I J := by
    intro n
    induction n with
    | zero => intro v3 v4 hi hn; exact absurd hn (Nat.not_lt_zero _)
    | succ n ih =>
      intro v3 v4 hi hn
      exact t_X10_layRows_10b hM C hX hR   (fun u3 u4 hk => ih u3 u4 hk.1 (Nat.lt_of_lt_of_le hk.2 (Nat.le_of_lt_succ hn))) (hs v3 v4 hi)
  exact key _ v3 v4 h0 (Nat.lt_succ_self _)
set_option maxRecDepth 100000 in
set_option maxHeartbeats 4000000 in
theorem m_X10_layRows {l : Launch} {D : va_G} {cy : Nat → ClassId} {V : gV} (hM : gModM V) {a1 : Int32} {a2 : Int32} {I : gI} {J : gL} {Po : gI → Prop} (h : wp_X10_layRows a1 a2 I Po) : gMet l D cy yX10_layRows cX10_layRows 10 none rm_X10_layRows V [.ref (V.2.1 200), .int a1, .int a2] I J (gPv V (fun I' J' => J = J' ∧ Po I')) := by
  refine gMet.of (by decide) (Nat.le_of_ble_eq_true rfl) (fun X hX C hR => ?_)
  have C : gC X cX10_layRows RX10 none 10 rm_X10_layRows := C
  show gJ X V 0 0 0 [(0, .ref (V.2.1 200)), (1, .int a1), (2, .int a2)] [] I J
  unfold wp_X10_layRows at h
  refine j_aload_n (pc := 0) C dX10_layRows_0 rfl 0 rfl ?_
  refine j_iconst (pc := 1) (v := 0) C dX10_layRows_1 (by decide) ?_
  refine j_putI (pc := 2) (ft := .int) C tyX10 tyX10_ok nmX10 200 5 (c_200 hM).1 (c_200 hM).2 rfl rfl (by decide) inw_X10 wd_971 rfl (by decide +kernel) rfl rfl dX10_layRows_2 ?_
  refine gJ.nmI (fun I1 eI1 => ?_)
  have h := h I1 eI1
  refine j_iconst (pc := 5) (v := 1) C dX10_layRows_5 (by decide) ?_
  refine j_istore_n (pc := 6) (lv' := [(3, .int (1 : Int32)), (0, .ref (V.2.1 200)), (1, .int a1), (2, .int a2)]) C dX10_layRows_6 rfl (by decide) rfl ?_
  refine j_iconst (pc := 7) (v := 0) C dX10_layRows_7 (by decide) ?_
  refine j_istore (pc := 8) (lv' := [(4, .int (0 : Int32)), (3, .int (1 : Int32)), (0, .ref (V.2.1 200)), (1, .int a1), (2, .int a2)]) C dX10_layRows_8 (by decide) rfl ?_
  refine gJ.sub [2, 3, 4, 1, 0] rfl ?_
  exact t_X10_layRows_10 hM C hX hR   h
/-! TileRulesModel.tellWays(II)V -/
abbrev rm_X10_tellWays : Room := { frames := 0, cells := 0, slots := 0, locals := 0 }
theorem ok_X10_tellWays : gOk yX10_tellWays cX10_tellWays 5 none 2 := ⟨wd_1133, wd_74, by decide +kernel⟩
def w_X10_tellWays_77b  (Po : gL → Prop) (K38 : Int32 → gL → Prop) (K77 : Int32 → gL → Prop) (v1 : Int32) (v3 : Int32) (v4 : Int32) (I : gI) (J : gL) : Prop :=
  ((I 200 5) ≤ v4 → ∀ n5 : Int32, n5 = v3 + 1 → K38 n5 J) ∧ (¬ (I 200 5) ≤ v4 → vp_in v4 4096 ∧ vp_in (((10000 : Int32) * v3) + (I 203 (v4).toNatClampNeg)) 50000 ∧ vp_in v4 4096 ∧ vp_in (((10000 : Int32) * (v3 - (1 : Int32))) + (I 204 (v4).toNatClampNeg)) 50000 ∧ vp_in (((10000 : Int32) * v3) + (I 203 (v4).toNatClampNeg)) 50000 ∧ ∀ J11 : gL, J11 = gup J 206 ((((10000 : Int32) * v3) + (I 203 (v4).toNatClampNeg))).toNatClampNeg ((J 206 ((((10000 : Int32) * v3) + (I 203 (v4).toNatClampNeg))).toNatClampNeg) + (J 206 ((((10000 : Int32) * (v3 - (1 : Int32))) + (I 204 (v4).toNatClampNeg))).toNatClampNeg)) → ∀ n12 : Int32, n12 = v4 + 1 → K77 n12 J11)
def w_X10_tellWays_77  (Po : gL → Prop) (K38 : Int32 → gL → Prop) (v1 : Int32) (v3 : Int32) (v4 : Int32) (I : gI) (J : gL) : Prop :=
  ∃ (Inv : Int32 → gL → Prop) (mu : Int32 → gL → Nat), Inv v4 J ∧ ∀ (v4 : Int32) (J : gL), Inv v4 J → w_X10_tellWays_77b  Po K38 (fun u4 J1 => Inv u4 J1 ∧ mu u4 J1 < mu v4 J) v1 v3 v4 I J
def w_X10_tellWays_46b  (Po : gL → Prop) (K38 : Int32 → gL → Prop) (K46 : Int32 → gL → Prop) (v1 : Int32) (v3 : Int32) (v4 : Int32) (I : gI) (J : gL) : Prop :=
  ((10000 : Int32) ≤ v4 → w_X10_tellWays_77 Po K38 v1 v3 (0 : Int32) I J) ∧ (¬ (10000 : Int32) ≤ v4 → vp_in (((10000 : Int32) * v3) + v4) 50000 ∧ ∀ J14 : gL, J14 = gup J 206 ((((10000 : Int32) * v3) + v4)).toNatClampNeg (0 : Int64) → ∀ n15 : Int32, n15 = v4 + 1 → K46 n15 J14)
def w_X10_tellWays_46  (Po : gL → Prop) (K38 : Int32 → gL → Prop) (v1 : Int32) (v3 : Int32) (v4 : Int32) (I : gI) (J : gL) : Prop :=
  ∃ (Inv : Int32 → gL → Prop) (mu : Int32 → gL → Nat), Inv v4 J ∧ ∀ (v4 : Int32) (J : gL), Inv v4 J → w_X10_tellWays_46b  Po K38 (fun u4 J1 => Inv u4 J1 ∧ mu u4 J1 < mu v4 J) v1 v3 v4 I J
def w_X10_tellWays_38b  (Po : gL → Prop) (K38 : Int32 → gL → Prop) (v1 : Int32) (v3 : Int32) (I : gI) (J : gL) : Prop :=
  (v1 < v3 → Po J) ∧ (¬ v1 < v3 → w_X10_tellWays_46 Po K38 v1 v3 (0 : Int32) I J)
def w_X10_tellWays_38  (Po : gL → Prop)  (v1 : Int32) (v3 : Int32) (I : gI) (J : gL) : Prop :=
  ∃ (Inv : Int32 → gL → Prop) (mu : Int32 → gL → Nat), Inv v3 J ∧ ∀ (v3 : Int32) (J : gL), Inv v3 J → w_X10_tellWays_38b  Po  (fun u3 J1 => Inv u3 J1 ∧ mu u3 J1 < mu v3 J) v1 v3 I J
def w_X10_tellWays_29  (Po : gL → Prop) (K2 : Int32 → gL → Prop) (v1 : Int32) (v2 : Int32) (v3 : Int32) (s0 : Int64) (s1 : Int32) (I : gI) (J : gL) : Prop :=
  vp_in s1 50000 ∧ ∀ J18 : gL, J18 = gup J 206 (s1).toNatClampNeg s0 → ∀ n19 : Int32, n19 = v3 + 1 → K2 n19 J18
def w_X10_tellWays_24  (Po : gL → Prop) (K2 : Int32 → gL → Prop) (v1 : Int32) (v2 : Int32) (v3 : Int32) (s0 : Int32) (I : gI) (J : gL) : Prop :=
  w_X10_tellWays_29 Po K2 v1 v2 v3 (1 : Int64) s0 I J
def w_X10_tellWays_2b  (Po : gL → Prop) (K2 : Int32 → gL → Prop) (v1 : Int32) (v2 : Int32) (v3 : Int32) (I : gI) (J : gL) : Prop :=
  ((10000 : Int32) ≤ v3 → w_X10_tellWays_38 Po v1 (1 : Int32) I J) ∧ (¬ (10000 : Int32) ≤ v3 → (v2 = (-1 : Int32) → w_X10_tellWays_24 Po K2 v1 v2 v3 v3 I J) ∧ (¬ v2 = (-1 : Int32) → (¬ v3 = v2 → w_X10_tellWays_29 Po K2 v1 v2 v3 (0 : Int64) v3 I J) ∧ (v3 = v2 → w_X10_tellWays_24 Po K2 v1 v2 v3 v3 I J)))
def w_X10_tellWays_2  (Po : gL → Prop)  (v1 : Int32) (v2 : Int32) (v3 : Int32) (I : gI) (J : gL) : Prop :=
  ∃ (Inv : Int32 → gL → Prop) (mu : Int32 → gL → Nat), Inv v3 J ∧ ∀ (v3 : Int32) (J : gL), Inv v3 J → w_X10_tellWays_2b  Po  (fun u3 J1 => Inv u3 J1 ∧ mu u3 J1 < mu v3 J) v1 v2 v3 I J
def wp_X10_tellWays (a1 : Int32) (a2 : Int32) (I : gI) (J : gL) (Po : gL → Prop) : Prop :=
  w_X10_tellWays_2 Po a1 a2 (0 : Int32) I J
set_option maxRecDepth 100000 in
set_option maxHeartbeats 4000000 in
theorem t_X10_tellWays_77b {X : gX} {l : Launch} {D : va_G} {cy : Nat → ClassId} {nm : String} {V : gV} (hM : gModM V) (C : gC X cX10_tellWays RX10 none 5 rm_X10_tellWays) (hX : gIs X l D cy nm) {I : gI} {J : gL} {Po : gL → Prop} (hR : gR X (gPv V (fun I' J' => I = I' ∧ Po J'))) {v1 : Int32} {v3 : Int32} {v4 : Int32} {K38 : Int32 → gL → Prop} {K77 : Int32 → gL → Prop} (hK38 : ∀ (y3 : Int32) (J1 : gL), K38 y3 J1 → gJ X V 0 0 38 [(0, .ref (V.2.1 200)), (1, .int v1), (3, .int y3)] [] I J1) (hK77 : ∀ (y4 : Int32) (J1 : gL), K77 y4 J1 → gJ X V 0 0 77 [(0, .ref (V.2.1 200)), (1, .int v1), (3, .int v3), (4, .int y4)] [] I J1) (h : w_X10_tellWays_77b Po K38 K77 v1 v3 v4 I J) : gJ X V 0 0 77 [(0, .ref (V.2.1 200)), (1, .int v1), (3, .int v3), (4, .int v4)] [] I J := by
  unfold w_X10_tellWays_77b at h
  refine j_iload (pc := 77) C dX10_tellWays_77 3 rfl ?_
  refine j_aload_n (pc := 79) C dX10_tellWays_79 rfl 0 rfl ?_
  refine j_getI (pc := 80) C 200 5 (c_200 hM).1 (c_200 hM).2 rfl rfl (by decide) inw_X10 wd_971 dX10_tellWays_80 ?_
  refine j_icmp_ge (pc := 83) (tgt := 133) C dX10_tellWays_83 (by decide) (fun c4 => ?_) (fun c4 => ?_)
  · have h := h.1 c4
    obtain ⟨n5, en5⟩ : ∃ z : Int32, z = v3 + 1 := ⟨_, rfl⟩
    have h := h n5 en5
    refine j_iinc (pc := 133) (v := n5) (lv' := [(3, .int n5), (0, .ref (V.2.1 200)), (1, .int v1), (4, .int v4)]) C dX10_tellWays_133 2 rfl (by rw [en5]; rfl) (by decide) rfl ?_
    refine j_goto (pc := 136) (tgt := 38) C dX10_tellWays_136 (by decide) ?_
    refine gJ.sub [1, 2, 0] rfl ?_
    exact hK38 _ _ h
  · have h := h.2 c4
    refine j_aload_n (pc := 86) C dX10_tellWays_86 rfl 0 rfl ?_
    refine j_getR (pc := 87) C 200 7 206 (c_200 hM).1 (c_200 hM).2 rfl rfl (by decide) inw_X10 wd_973 dX10_tellWays_87 ?_
    refine j_sipush (pc := 90) (v := 10000) C dX10_tellWays_90 (by decide) ?_
    refine j_iload_n (pc := 93) C dX10_tellWays_93 rfl 2 rfl ?_
    refine j_imul (pc := 94) C dX10_tellWays_94 ?_
    refine j_aload_n (pc := 95) C dX10_tellWays_95 rfl 0 rfl ?_
    refine j_getR (pc := 96) C 200 3 203 (c_200 hM).1 (c_200 hM).2 rfl rfl (by decide) inw_X10 wd_969 dX10_tellWays_96 ?_
    refine j_iload (pc := 99) C dX10_tellWays_99 3 rfl ?_
    obtain ⟨g6, h⟩ := h
    refine j_iald (pc := 101) C 203 (c_203 hM).1 (c_203 hM).2 g6 dX10_tellWays_101 ?_
    refine j_iadd (pc := 102) C dX10_tellWays_102 ?_
    refine j_dup2_11 (pc := 103) C dX10_tellWays_103 rfl rfl ?_
    obtain ⟨g7, h⟩ := h
    refine j_lald (pc := 104) C 206 (c_206 hM).1 (c_206 hM).2 g7 dX10_tellWays_104 ?_
    refine j_aload_n (pc := 105) C dX10_tellWays_105 rfl 0 rfl ?_
    refine j_getR (pc := 106) C 200 7 206 (c_200 hM).1 (c_200 hM).2 rfl rfl (by decide) inw_X10 wd_973 dX10_tellWays_106 ?_
    refine j_sipush (pc := 109) (v := 10000) C dX10_tellWays_109 (by decide) ?_
    refine j_iload_n (pc := 112) C dX10_tellWays_112 rfl 2 rfl ?_
    refine j_iconst (pc := 113) (v := 1) C dX10_tellWays_113 (by decide) ?_
    refine j_isub (pc := 114) C dX10_tellWays_114 ?_
    refine j_imul (pc := 115) C dX10_tellWays_115 ?_
    refine j_aload_n (pc := 116) C dX10_tellWays_116 rfl 0 rfl ?_
    refine j_getR (pc := 117) C 200 4 204 (c_200 hM).1 (c_200 hM).2 rfl rfl (by decide) inw_X10 wd_970 dX10_tellWays_117 ?_
    refine j_iload (pc := 120) C dX10_tellWays_120 3 rfl ?_
    obtain ⟨g8, h⟩ := h
    refine j_iald (pc := 122) C 204 (c_204 hM).1 (c_204 hM).2 g8 dX10_tellWays_122 ?_
    refine j_iadd (pc := 123) C dX10_tellWays_123 ?_
    obtain ⟨g9, h⟩ := h
    refine j_lald (pc := 124) C 206 (c_206 hM).1 (c_206 hM).2 g9 dX10_tellWays_124 ?_
    refine j_ladd (pc := 125) C dX10_tellWays_125 ?_
    obtain ⟨g10, h⟩ := h
    refine j_last (pc := 126) C 206 (c_206 hM).1 (c_206 hM).2 g10 dX10_tellWays_126 ?_
    refine gJ.nmJ (fun J11 eJ11 => ?_)
    have h := h J11 eJ11
    obtain ⟨n12, en12⟩ : ∃ z : Int32, z = v4 + 1 := ⟨_, rfl⟩
    have h := h n12 en12
    refine j_iinc (pc := 127) (v := n12) (lv' := [(4, .int n12), (0, .ref (V.2.1 200)), (1, .int v1), (3, .int v3)]) C dX10_tellWays_127 3 rfl (by rw [en12]; rfl) (by decide) rfl ?_
    refine j_goto (pc := 130) (tgt := 77) C dX10_tellWays_130 (by decide) ?_
    refine gJ.sub [1, 2, 3, 0] rfl ?_
    exact hK77 _ _ h
set_option maxRecDepth 100000 in
set_option maxHeartbeats 4000000 in
theorem t_X10_tellWays_77 {X : gX} {l : Launch} {D : va_G} {cy : Nat → ClassId} {nm : String} {V : gV} (hM : gModM V) (C : gC X cX10_tellWays RX10 none 5 rm_X10_tellWays) (hX : gIs X l D cy nm) {I : gI} {J : gL} {Po : gL → Prop} (hR : gR X (gPv V (fun I' J' => I = I' ∧ Po J'))) {v1 : Int32} {v3 : Int32} {v4 : Int32} {K38 : Int32 → gL → Prop} (hK38 : ∀ (y3 : Int32) (J1 : gL), K38 y3 J1 → gJ X V 0 0 38 [(0, .ref (V.2.1 200)), (1, .int v1), (3, .int y3)] [] I J1) (h : w_X10_tellWays_77 Po K38 v1 v3 v4 I J) : gJ X V 0 0 77 [(0, .ref (V.2.1 200)), (1, .int v1), (3, .int v3), (4, .int v4)] [] I J := by
  unfold w_X10_tellWays_77 at h
  obtain ⟨Inv, mu, h0, hs⟩ := h
  have key : ∀ (n : Nat) (v4 : Int32) (J : gL), Inv v4 J → mu v4 J < n → gJ X V 0 0 77 [(0, .ref (V.2.1 200)), (1, .int v1), (3, .int v3), (4, .int v4)] [] I J := by
    intro n
    induction n with
    | zero => intro v4 J hi hn; exact absurd hn (Nat.not_lt_zero _)
    | succ n ih =>
      intro v4 J hi hn
      exact t_X10_tellWays_77b hM C hX hR  hK38 (fun u4 J1 hk => ih u4 J1 hk.1 (Nat.lt_of_lt_of_le hk.2 (Nat.le_of_lt_succ hn))) (hs v4 J hi)
  exact key _ v4 J h0 (Nat.lt_succ_self _)
set_option maxRecDepth 100000 in
set_option maxHeartbeats 4000000 in
theorem t_X10_tellWays_46b {X : gX} {l : Launch} {D : va_G} {cy : Nat → ClassId} {nm : String} {V : gV} (hM : gModM V) (C : gC X cX10_tellWays RX10 none 5 rm_X10_tellWays) (hX : gIs X l D cy nm) {I : gI} {J : gL} {Po : gL → Prop} (hR : gR X (gPv V (fun I' J' => I = I' ∧ Po J'))) {v1 : Int32} {v3 : Int32} {v4 : Int32} {K38 : Int32 → gL → Prop} {K46 : Int32 → gL → Prop} (hK38 : ∀ (y3 : Int32) (J1 : gL), K38 y3 J1 → gJ X V 0 0 38 [(0, .ref (V.2.1 200)), (1, .int v1), (3, .int y3)] [] I J1) (hK46 : ∀ (y4 : Int32) (J1 : gL), K46 y4 J1 → gJ X V 0 0 46 [(0, .ref (V.2.1 200)), (1, .int v1), (3, .int v3), (4, .int y4)] [] I J1) (h : w_X10_tellWays_46b Po K38 K46 v1 v3 v4 I J) : gJ X V 0 0 46 [(0, .ref (V.2.1 200)), (1, .int v1), (3, .int v3), (4, .int v4)] [] I J := by
  unfold w_X10_tellWays_46b at h
  refine j_iload (pc := 46) C dX10_tellWays_46 3 rfl ?_
  refine j_sipush (pc := 48) (v := 10000) C dX10_tellWays_48 (by decide) ?_
  refine j_icmp_ge (pc := 51) (tgt := 74) C dX10_tellWays_51 (by decide) (fun c3 => ?_) (fun c3 => ?_)
  · have h := h.1 c3
    refine j_iconst (pc := 74) (v := 0) C dX10_tellWays_74 (by decide) ?_
    refine j_istore (pc := 75) (lv' := [(4, .int (0 : Int32)), (0, .ref (V.2.1 200)), (1, .int v1), (3, .int v3)]) C dX10_tellWays_75 (by decide) rfl ?_
    refine gJ.sub [1, 2, 3, 0] rfl ?_
    exact t_X10_tellWays_77 hM C hX hR  hK38 h
  · have h := h.2 c3
    refine j_aload_n (pc := 54) C dX10_tellWays_54 rfl 0 rfl ?_
    refine j_getR (pc := 55) C 200 7 206 (c_200 hM).1 (c_200 hM).2 rfl rfl (by decide) inw_X10 wd_973 dX10_tellWays_55 ?_
    refine j_sipush (pc := 58) (v := 10000) C dX10_tellWays_58 (by decide) ?_
    refine j_iload_n (pc := 61) C dX10_tellWays_61 rfl 2 rfl ?_
    refine j_imul (pc := 62) C dX10_tellWays_62 ?_
    refine j_iload (pc := 63) C dX10_tellWays_63 3 rfl ?_
    refine j_iadd (pc := 65) C dX10_tellWays_65 ?_
    refine j_lconst (pc := 66) (v := 0) C dX10_tellWays_66 (by decide) ?_
    obtain ⟨g13, h⟩ := h
    refine j_last (pc := 67) C 206 (c_206 hM).1 (c_206 hM).2 g13 dX10_tellWays_67 ?_
    refine gJ.nmJ (fun J14 eJ14 => ?_)
    have h := h J14 eJ14
    obtain ⟨n15, en15⟩ : ∃ z : Int32, z = v4 + 1 := ⟨_, rfl⟩
    have h := h n15 en15
    refine j_iinc (pc := 68) (v := n15) (lv' := [(4, .int n15), (0, .ref (V.2.1 200)), (1, .int v1), (3, .int v3)]) C dX10_tellWays_68 3 rfl (by rw [en15]; rfl) (by decide) rfl ?_
    refine j_goto (pc := 71) (tgt := 46) C dX10_tellWays_71 (by decide) ?_
    refine gJ.sub [1, 2, 3, 0] rfl ?_
    exact hK46 _ _ h
set_option maxRecDepth 100000 in
set_option maxHeartbeats 4000000 in
theorem t_X10_tellWays_46 {X : gX} {l : Launch} {D : va_G} {cy : Nat → ClassId} {nm : String} {V : gV} (hM : gModM V) (C : gC X cX10_tellWays RX10 none 5 rm_X10_tellWays) (hX : gIs X l D cy nm) {I : gI} {J : gL} {Po : gL → Prop} (hR : gR X (gPv V (fun I' J' => I = I' ∧ Po J'))) {v1 : Int32} {v3 : Int32} {v4 : Int32} {K38 : Int32 → gL → Prop} (hK38 : ∀ (y3 : Int32) (J1 : gL), K38 y3 J1 → gJ X V 0 0 38 [(0, .ref (V.2.1 200)), (1, .int v1), (3, .int y3)] [] I J1) (h : w_X10_tellWays_46 Po K38 v1 v3 v4 I J) : gJ X V 0 0 46 [(0, .ref (V.2.1 200)), (1, .int v1), (3, .int v3), (4, .int v4)] [] I J := by
  unfold w_X10_tellWays_46 at h
  obtain ⟨Inv, mu, h0, hs⟩ := h
  have key : ∀ (n : Nat) (v4 : Int32) (J : gL), Inv v4 J → mu v4 J < n → gJ X V 0 0 46 [(0, .ref (V.2.1 200)), (1, .int v1), (3, .int v3), (4, .int v4)] [] I J := by
    intro n
    induction n with
    | zero => intro v4 J hi hn; exact absurd hn (Nat.not_lt_zero _)
    | succ n ih =>
      intro v4 J hi hn
      exact t_X10_tellWays_46b hM C hX hR  hK38 (fun u4 J1 hk => ih u4 J1 hk.1 (Nat.lt_of_lt_of_le hk.2 (Nat.le_of_lt_succ hn))) (hs v4 J hi)
  exact key _ v4 J h0 (Nat.lt_succ_self _)
set_option maxRecDepth 100000 in
set_option maxHeartbeats 4000000 in
theorem t_X10_tellWays_38b {X : gX} {l : Launch} {D : va_G} {cy : Nat → ClassId} {nm : String} {V : gV} (hM : gModM V) (C : gC X cX10_tellWays RX10 none 5 rm_X10_tellWays) (hX : gIs X l D cy nm) {I : gI} {J : gL} {Po : gL → Prop} (hR : gR X (gPv V (fun I' J' => I = I' ∧ Po J'))) {v1 : Int32} {v3 : Int32} {K38 : Int32 → gL → Prop} (hK38 : ∀ (y3 : Int32) (J1 : gL), K38 y3 J1 → gJ X V 0 0 38 [(0, .ref (V.2.1 200)), (1, .int v1), (3, .int y3)] [] I J1) (h : w_X10_tellWays_38b Po K38 v1 v3 I J) : gJ X V 0 0 38 [(0, .ref (V.2.1 200)), (1, .int v1), (3, .int v3)] [] I J := by
  unfold w_X10_tellWays_38b at h
  refine j_iload_n (pc := 38) C dX10_tellWays_38 rfl 2 rfl ?_
  refine j_iload_n (pc := 39) C dX10_tellWays_39 rfl 1 rfl ?_
  refine j_icmp_gt (pc := 40) (tgt := 139) C dX10_tellWays_40 (by decide) (fun c2 => ?_) (fun c2 => ?_)
  · have h := h.1 c2
    exact j_vret (pc := 139) C hR (Nat.zero_le _) (Nat.zero_le _) dX10_tellWays_139 ⟨rfl, rfl, rfl, h⟩
  · have h := h.2 c2
    refine j_iconst (pc := 43) (v := 0) C dX10_tellWays_43 (by decide) ?_
    refine j_istore (pc := 44) (lv' := [(4, .int (0 : Int32)), (0, .ref (V.2.1 200)), (1, .int v1), (3, .int v3)]) C dX10_tellWays_44 (by decide) rfl ?_
    refine gJ.sub [1, 2, 3, 0] rfl ?_
    exact t_X10_tellWays_46 hM C hX hR  hK38 h
set_option maxRecDepth 100000 in
set_option maxHeartbeats 4000000 in
theorem t_X10_tellWays_38 {X : gX} {l : Launch} {D : va_G} {cy : Nat → ClassId} {nm : String} {V : gV} (hM : gModM V) (C : gC X cX10_tellWays RX10 none 5 rm_X10_tellWays) (hX : gIs X l D cy nm) {I : gI} {J : gL} {Po : gL → Prop} (hR : gR X (gPv V (fun I' J' => I = I' ∧ Po J'))) {v1 : Int32} {v3 : Int32} (h : w_X10_tellWays_38 Po v1 v3 I J) : gJ X V 0 0 38 [(0, .ref (V.2.1 200)), (1, .int v1), (3, .int v3)] [] I J := by
  unfold w_X10_tellWays_38 at h
  obtain ⟨Inv, mu, h0, hs⟩ := h
  have key : ∀ (n : Nat) (v3 : Int32) (J : gL), Inv v3 J → mu v3 J < n → gJ X V 0 0 38 [(0, .ref (V.2.1 200)), (1, .int v1), (3, .int v3)] [] I J := by
    intro n
    induction n with
    | zero => intro v3 J hi hn; exact absurd hn (Nat.not_lt_zero _)
    | succ n ih =>
      intro v3 J hi hn
      exact t_X10_tellWays_38b hM C hX hR   (fun u3 J1 hk => ih u3 J1 hk.1 (Nat.lt_of_lt_of_le hk.2 (Nat.le_of_lt_succ hn))) (hs v3 J hi)
  exact key _ v3 J h0 (Nat.lt_succ_self _)
set_option maxRecDepth 100000 in
set_option maxHeartbeats 4000000 in
theorem t_X10_tellWays_29 {X : gX} {l : Launch} {D : va_G} {cy : Nat → ClassId} {nm : String} {V : gV} (hM : gModM V) (C : gC X cX10_tellWays RX10 none 5 rm_X10_tellWays) (hX : gIs X l D cy nm) {I : gI} {J : gL} {Po : gL → Prop} (hR : gR X (gPv V (fun I' J' => I = I' ∧ Po J'))) {v1 : Int32} {v2 : Int32} {v3 : Int32} {s0 : Int64} {s1 : Int32} {K2 : Int32 → gL → Prop} (hK2 : ∀ (y3 : Int32) (J1 : gL), K2 y3 J1 → gJ X V 0 0 2 [(0, .ref (V.2.1 200)), (1, .int v1), (2, .int v2), (3, .int y3)] [] I J1) (h : w_X10_tellWays_29 Po K2 v1 v2 v3 s0 s1 I J) : gJ X V 0 0 29 [(0, .ref (V.2.1 200)), (1, .int v1), (2, .int v2), (3, .int v3)] [.long s0, .int s1, .ref (V.2.1 206)] I J := by
  unfold w_X10_tellWays_29 at h
  obtain ⟨g17, h⟩ := h
  refine j_last (pc := 29) C 206 (c_206 hM).1 (c_206 hM).2 g17 dX10_tellWays_29 ?_
  refine gJ.nmJ (fun J18 eJ18 => ?_)
  have h := h J18 eJ18
  obtain ⟨n19, en19⟩ : ∃ z : Int32, z = v3 + 1 := ⟨_, rfl⟩
  have h := h n19 en19
  refine j_iinc (pc := 30) (v := n19) (lv' := [(3, .int n19), (0, .ref (V.2.1 200)), (1, .int v1), (2, .int v2)]) C dX10_tellWays_30 3 rfl (by rw [en19]; rfl) (by decide) rfl ?_
  refine j_goto (pc := 33) (tgt := 2) C dX10_tellWays_33 (by decide) ?_
  refine gJ.sub [1, 2, 3, 0] rfl ?_
  exact hK2 _ _ h
set_option maxRecDepth 100000 in
set_option maxHeartbeats 4000000 in
theorem t_X10_tellWays_24 {X : gX} {l : Launch} {D : va_G} {cy : Nat → ClassId} {nm : String} {V : gV} (hM : gModM V) (C : gC X cX10_tellWays RX10 none 5 rm_X10_tellWays) (hX : gIs X l D cy nm) {I : gI} {J : gL} {Po : gL → Prop} (hR : gR X (gPv V (fun I' J' => I = I' ∧ Po J'))) {v1 : Int32} {v2 : Int32} {v3 : Int32} {s0 : Int32} {K2 : Int32 → gL → Prop} (hK2 : ∀ (y3 : Int32) (J1 : gL), K2 y3 J1 → gJ X V 0 0 2 [(0, .ref (V.2.1 200)), (1, .int v1), (2, .int v2), (3, .int y3)] [] I J1) (h : w_X10_tellWays_24 Po K2 v1 v2 v3 s0 I J) : gJ X V 0 0 24 [(0, .ref (V.2.1 200)), (1, .int v1), (2, .int v2), (3, .int v3)] [.int s0, .ref (V.2.1 206)] I J := by
  unfold w_X10_tellWays_24 at h
  refine j_lconst (pc := 24) (v := 1) C dX10_tellWays_24 (by decide) ?_
  refine j_goto (pc := 25) (tgt := 29) C dX10_tellWays_25 (by decide) ?_
  refine gJ.sub [0, 1, 2, 3] rfl ?_
  exact t_X10_tellWays_29 hM C hX hR  hK2 h
set_option maxRecDepth 100000 in
set_option maxHeartbeats 4000000 in
theorem t_X10_tellWays_2b {X : gX} {l : Launch} {D : va_G} {cy : Nat → ClassId} {nm : String} {V : gV} (hM : gModM V) (C : gC X cX10_tellWays RX10 none 5 rm_X10_tellWays) (hX : gIs X l D cy nm) {I : gI} {J : gL} {Po : gL → Prop} (hR : gR X (gPv V (fun I' J' => I = I' ∧ Po J'))) {v1 : Int32} {v2 : Int32} {v3 : Int32} {K2 : Int32 → gL → Prop} (hK2 : ∀ (y3 : Int32) (J1 : gL), K2 y3 J1 → gJ X V 0 0 2 [(0, .ref (V.2.1 200)), (1, .int v1), (2, .int v2), (3, .int y3)] [] I J1) (h : w_X10_tellWays_2b Po K2 v1 v2 v3 I J) : gJ X V 0 0 2 [(0, .ref (V.2.1 200)), (1, .int v1), (2, .int v2), (3, .int v3)] [] I J := by
  unfold w_X10_tellWays_2b at h
  refine j_iload_n (pc := 2) C dX10_tellWays_2 rfl 3 rfl ?_
  refine j_sipush (pc := 3) (v := 10000) C dX10_tellWays_3 (by decide) ?_
  refine j_icmp_ge (pc := 6) (tgt := 36) C dX10_tellWays_6 (by decide) (fun c1 => ?_) (fun c1 => ?_)
  · have h := h.1 c1
    refine j_iconst (pc := 36) (v := 1) C dX10_tellWays_36 (by decide) ?_
    refine j_istore_n (pc := 37) (lv' := [(3, .int (1 : Int32)), (0, .ref (V.2.1 200)), (1, .int v1), (2, .int v2)]) C dX10_tellWays_37 rfl (by decide) rfl ?_
    refine gJ.sub [1, 2, 0] rfl ?_
    exact t_X10_tellWays_38 hM C hX hR   h
  · have h := h.2 c1
    refine j_aload_n (pc := 9) C dX10_tellWays_9 rfl 0 rfl ?_
    refine j_getR (pc := 10) C 200 7 206 (c_200 hM).1 (c_200 hM).2 rfl rfl (by decide) inw_X10 wd_973 dX10_tellWays_10 ?_
    refine j_iload_n (pc := 13) C dX10_tellWays_13 rfl 3 rfl ?_
    refine j_iload_n (pc := 14) C dX10_tellWays_14 rfl 2 rfl ?_
    refine j_iconst (pc := 15) (v := (-1)) C dX10_tellWays_15 (by decide) ?_
    refine j_icmp_eq (pc := 16) (tgt := 24) C dX10_tellWays_16 (by decide) (fun c16 => ?_) (fun c16 => ?_)
    · have h := h.1 c16
      refine gJ.sub [0, 1, 2, 3] rfl ?_
      exact t_X10_tellWays_24 hM C hX hR  hK2 h
    · have h := h.2 c16
      refine j_iload_n (pc := 19) C dX10_tellWays_19 rfl 3 rfl ?_
      refine j_iload_n (pc := 20) C dX10_tellWays_20 rfl 2 rfl ?_
      refine j_icmp_ne (pc := 21) (tgt := 28) C dX10_tellWays_21 (by decide) (fun c20 => ?_) (fun c20 => ?_)
      · have h := h.1 c20
        refine j_lconst (pc := 28) (v := 0) C dX10_tellWays_28 (by decide) ?_
        refine gJ.sub [0, 1, 2, 3] rfl ?_
        exact t_X10_tellWays_29 hM C hX hR  hK2 h
      · have h := h.2 c20
        refine gJ.sub [0, 1, 2, 3] rfl ?_
        exact t_X10_tellWays_24 hM C hX hR  hK2 h
set_option maxRecDepth 100000 in
set_option maxHeartbeats 4000000 in
theorem t_X10_tellWays_2 {X : gX} {l : Launch} {D : va_G} {cy : Nat → ClassId} {nm : String} {V : gV} (hM : gModM V) (C : gC X cX10_tellWays RX10 none 5 rm_X10_tellWays) (hX : gIs X l D cy nm) {I : gI} {J : gL} {Po : gL → Prop} (hR : gR X (gPv V (fun I' J' => I = I' ∧ Po J'))) {v1 : Int32} {v2 : Int32} {v3 : Int32} (h : w_X10_tellWays_2 Po v1 v2 v3 I J) : gJ X V 0 0 2 [(0, .ref (V.2.1 200)), (1, .int v1), (2, .int v2), (3, .int v3)] [] I J := by
  unfold w_X10_tellWays_2 at h
  obtain ⟨Inv, mu, h0, hs⟩ := h
  have key : ∀ (n : Nat) (v3 : Int32) (J : gL), Inv v3 J → mu v3 J < n → gJ X V 0 0 2 [(0, .ref (V.2.1 200)), (1, .int v1), (2, .int v2), (3, .int v3)] [] I J := by
    intro n
    induction n with
    | zero => intro v3 J hi hn; exact absurd hn (Nat.not_lt_zero _)
    | succ n ih =>
      intro v3 J hi hn
      exact t_X10_tellWays_2b hM C hX hR   (fun u3 J1 hk => ih u3 J1 hk.1 (Nat.lt_of_lt_of_le hk.2 (Nat.le_of_lt_succ hn))) (hs v3 J hi)
  exact key _ v3 J h0 (Nat.lt_succ_self _)
set_option maxRecDepth 100000 in
set_option maxHeartbeats 4000000 in
theorem m_X10_tellWays {l : Launch} {D : va_G} {cy : Nat → ClassId} {V : gV} (hM : gModM V) {a1 : Int32} {a2 : Int32} {I : gI} {J : gL} {Po : gL → Prop} (h : wp_X10_tellWays a1 a2 I J Po) : gMet l D cy yX10_tellWays cX10_tellWays 5 none rm_X10_tellWays V [.ref (V.2.1 200), .int a1, .int a2] I J (gPv V (fun I' J' => I = I' ∧ Po J')) := by
  refine gMet.of (by decide) (Nat.le_of_ble_eq_true rfl) (fun X hX C hR => ?_)
  have C : gC X cX10_tellWays RX10 none 5 rm_X10_tellWays := C
  show gJ X V 0 0 0 [(0, .ref (V.2.1 200)), (1, .int a1), (2, .int a2)] [] I J
  unfold wp_X10_tellWays at h
  refine j_iconst (pc := 0) (v := 0) C dX10_tellWays_0 (by decide) ?_
  refine j_istore_n (pc := 1) (lv' := [(3, .int (0 : Int32)), (0, .ref (V.2.1 200)), (1, .int a1), (2, .int a2)]) C dX10_tellWays_1 rfl (by decide) rfl ?_
  refine gJ.sub [1, 2, 3, 0] rfl ?_
  exact t_X10_tellWays_2 hM C hX hR   h
/-! TileRulesModel.isSize(II)Z -/
abbrev rm_X10_isSize : Room := { frames := 1, cells := 0, slots := 0, locals := 22 }
theorem ok_X10_isSize : gOk yX10_isSize cX10_isSize 2 (some .boolean) 2 := ⟨wd_1121, wd_74, by decide +kernel⟩
def wp_X10_isSize (a0 : Int32) (a1 : Int32) (Po : Int32 → Prop) : Prop :=
  wp_X10_isIn a0 (1 : Int32) (4 : Int32) (fun r1 => (r1 = 0 → Po (0 : Int32)) ∧ (¬ r1 = 0 → wp_X10_isIn a1 (1 : Int32) (4 : Int32) (fun r3 => (r3 = 0 → Po (0 : Int32)) ∧ (¬ r3 = 0 → Po (1 : Int32)))))
set_option maxRecDepth 100000 in
set_option maxHeartbeats 4000000 in
theorem m_X10_isSize {l : Launch} {D : va_G} {cy : Nat → ClassId} {V : gV} {a0 : Int32} {a1 : Int32} {I : gI} {J : gL} {Po : Int32 → Prop} (h : wp_X10_isSize a0 a1 Po) : gMet l D cy yX10_isSize cX10_isSize 2 (some .boolean) rm_X10_isSize V [.int a0, .int a1] I J (gPi V (fun x I' J' => I = I' ∧ J = J' ∧ Po x)) := by
  refine gMet.of (by decide) (Nat.le_of_ble_eq_true rfl) (fun X hX C hR => ?_)
  have C : gC X cX10_isSize RX10 (some .boolean) 2 rm_X10_isSize := C
  show gJ X V 0 0 0 [(0, .int a0), (1, .int a1)] [] I J
  unfold wp_X10_isSize at h
  refine j_iload_n (pc := 0) C dX10_isSize_0 rfl 0 rfl ?_
  refine j_iconst (pc := 1) (v := 1) C dX10_isSize_1 (by decide) ?_
  refine j_iconst (pc := 2) (v := 4) C dX10_isSize_2 (by decide) ?_
  refine j_callS (pc := 3) (As := [.int a0, .int (1 : Int32), .int (4 : Int32)]) (st := []) C hX (m_X10_isIn   h) ok_X10_isIn wd_1108 wd_1109 ⟨by decide, by decide⟩ rfl rfl (Nat.le_of_ble_eq_true rfl) ⟨Nat.le_refl 0, Nat.le_refl 0⟩ dX10_isSize_3 (fun r V1 I1 J1 hp => ?_)
  obtain ⟨r1, rfl, rfl, rfl, rfl, h⟩ := hp
  show gJ X V 0 0 6 _ [.int r1] _ _
  refine j_if_eq (pc := 6) (tgt := 22) C dX10_isSize_6 (by decide) (fun c2 => ?_) (fun c2 => ?_)
  · have h := h.1 c2
    refine j_iconst (pc := 22) (v := 0) C dX10_isSize_22 (by decide) ?_
    exact j_zret (pc := 23) C hR (Or.inl rfl) (Nat.zero_le _) (Nat.zero_le _) dX10_isSize_23 ⟨_, rfl, rfl, rfl, rfl, h⟩
  · have h := h.2 c2
    refine j_iload_n (pc := 9) C dX10_isSize_9 rfl 1 rfl ?_
    refine j_iconst (pc := 10) (v := 1) C dX10_isSize_10 (by decide) ?_
    refine j_iconst (pc := 11) (v := 4) C dX10_isSize_11 (by decide) ?_
    refine j_callS (pc := 12) (As := [.int a1, .int (1 : Int32), .int (4 : Int32)]) (st := []) C hX (m_X10_isIn   h) ok_X10_isIn wd_1108 wd_1109 ⟨by decide, by decide⟩ rfl rfl (Nat.le_of_ble_eq_true rfl) ⟨Nat.le_refl 0, Nat.le_refl 0⟩ dX10_isSize_12 (fun r V1 I1 J1 hp => ?_)
    obtain ⟨r3, rfl, rfl, rfl, rfl, h⟩ := hp
    show gJ X V 0 0 15 _ [.int r3] _ _
    refine j_if_eq (pc := 15) (tgt := 22) C dX10_isSize_15 (by decide) (fun c4 => ?_) (fun c4 => ?_)
    · have h := h.1 c4
      refine j_iconst (pc := 22) (v := 0) C dX10_isSize_22 (by decide) ?_
      exact j_zret (pc := 23) C hR (Or.inl rfl) (Nat.zero_le _) (Nat.zero_le _) dX10_isSize_23 ⟨_, rfl, rfl, rfl, rfl, h⟩
    · have h := h.2 c4
      refine j_iconst (pc := 18) (v := 1) C dX10_isSize_18 (by decide) ?_
      refine j_goto (pc := 19) (tgt := 23) C dX10_isSize_19 (by decide) ?_
      exact j_zret (pc := 23) C hR (Or.inr rfl) (Nat.zero_le _) (Nat.zero_le _) dX10_isSize_23 ⟨_, rfl, rfl, rfl, rfl, h⟩
/-! TileRulesModel.around(II)J -/
abbrev rm_X10_around : Room := { frames := 0, cells := 0, slots := 0, locals := 0 }
theorem ok_X10_around : gOk yX10_around cX10_around 5 (some .long) 2 := ⟨wd_1137, wd_74, by decide +kernel⟩
def w_X10_around_146b  (Po : Int64 → gL → Prop) (K31 : Int32 → gL → Prop) (K146 : Int32 → gL → Prop) (v1 : Int32) (v2 : Int32) (v3 : Int32) (v4 : Int32) (I : gI) (J : gL) : Prop :=
  ((I 200 5) ≤ v4 → ∀ n10 : Int32, n10 = v3 + 1 → K31 n10 J) ∧ (¬ (I 200 5) ≤ v4 → vp_in v4 4096 ∧ vp_in v4 4096 ∧ vp_in (I 204 (v4).toNatClampNeg) 10000 ∧ vp_in (I 204 (v4).toNatClampNeg) 10000 ∧ ∀ J15 : gL, J15 = gup J 208 ((I 204 (v4).toNatClampNeg)).toNatClampNeg (J 209 ((I 204 (v4).toNatClampNeg)).toNatClampNeg) → ∀ n16 : Int32, n16 = v4 + 1 → K146 n16 J15)
def w_X10_around_146  (Po : Int64 → gL → Prop) (K31 : Int32 → gL → Prop) (v1 : Int32) (v2 : Int32) (v3 : Int32) (v4 : Int32) (I : gI) (J : gL) : Prop :=
  ∃ (Inv : Int32 → gL → Prop) (mu : Int32 → gL → Nat), Inv v4 J ∧ ∀ (v4 : Int32) (J : gL), Inv v4 J → w_X10_around_146b  Po K31 (fun u4 J1 => Inv u4 J1 ∧ mu u4 J1 < mu v4 J) v1 v2 v3 v4 I J
def w_X10_around_115b  (Po : Int64 → gL → Prop) (K31 : Int32 → gL → Prop) (K115 : Int32 → gL → Prop) (v1 : Int32) (v2 : Int32) (v3 : Int32) (v4 : Int32) (I : gI) (J : gL) : Prop :=
  ((I 200 5) ≤ v4 → w_X10_around_146 Po K31 v1 v2 v3 (0 : Int32) I J) ∧ (¬ (I 200 5) ≤ v4 → vp_in v4 4096 ∧ vp_in (I 203 (v4).toNatClampNeg) 10000 ∧ ∀ J19 : gL, J19 = gup J 208 ((I 203 (v4).toNatClampNeg)).toNatClampNeg (0 : Int64) → ∀ n20 : Int32, n20 = v4 + 1 → K115 n20 J19)
def w_X10_around_115  (Po : Int64 → gL → Prop) (K31 : Int32 → gL → Prop) (v1 : Int32) (v2 : Int32) (v3 : Int32) (v4 : Int32) (I : gI) (J : gL) : Prop :=
  ∃ (Inv : Int32 → gL → Prop) (mu : Int32 → gL → Nat), Inv v4 J ∧ ∀ (v4 : Int32) (J : gL), Inv v4 J → w_X10_around_115b  Po K31 (fun u4 J1 => Inv u4 J1 ∧ mu u4 J1 < mu v4 J) v1 v2 v3 v4 I J
def w_X10_around_70b  (Po : Int64 → gL → Prop) (K31 : Int32 → gL → Prop) (K70 : Int32 → gL → Prop) (v1 : Int32) (v2 : Int32) (v3 : Int32) (v4 : Int32) (I : gI) (J : gL) : Prop :=
  ((I 200 5) ≤ v4 → w_X10_around_115 Po K31 v1 v2 v3 (0 : Int32) I J) ∧ (¬ (I 200 5) ≤ v4 → vp_in v4 4096 ∧ vp_in (I 204 (v4).toNatClampNeg) 10000 ∧ vp_in v4 4096 ∧ vp_in (I 203 (v4).toNatClampNeg) 10000 ∧ vp_in (I 204 (v4).toNatClampNeg) 10000 ∧ ∀ J26 : gL, J26 = gup J 209 ((I 204 (v4).toNatClampNeg)).toNatClampNeg ((J 209 ((I 204 (v4).toNatClampNeg)).toNatClampNeg) + (J 208 ((I 203 (v4).toNatClampNeg)).toNatClampNeg)) → ∀ n27 : Int32, n27 = v4 + 1 → K70 n27 J26)
def w_X10_around_70  (Po : Int64 → gL → Prop) (K31 : Int32 → gL → Prop) (v1 : Int32) (v2 : Int32) (v3 : Int32) (v4 : Int32) (I : gI) (J : gL) : Prop :=
  ∃ (Inv : Int32 → gL → Prop) (mu : Int32 → gL → Nat), Inv v4 J ∧ ∀ (v4 : Int32) (J : gL), Inv v4 J → w_X10_around_70b  Po K31 (fun u4 J1 => Inv u4 J1 ∧ mu u4 J1 < mu v4 J) v1 v2 v3 v4 I J
def w_X10_around_39b  (Po : Int64 → gL → Prop) (K31 : Int32 → gL → Prop) (K39 : Int32 → gL → Prop) (v1 : Int32) (v2 : Int32) (v3 : Int32) (v4 : Int32) (I : gI) (J : gL) : Prop :=
  ((I 200 5) ≤ v4 → w_X10_around_70 Po K31 v1 v2 v3 (0 : Int32) I J) ∧ (¬ (I 200 5) ≤ v4 → vp_in v4 4096 ∧ vp_in (I 204 (v4).toNatClampNeg) 10000 ∧ ∀ J30 : gL, J30 = gup J 209 ((I 204 (v4).toNatClampNeg)).toNatClampNeg (0 : Int64) → ∀ n31 : Int32, n31 = v4 + 1 → K39 n31 J30)
def w_X10_around_39  (Po : Int64 → gL → Prop) (K31 : Int32 → gL → Prop) (v1 : Int32) (v2 : Int32) (v3 : Int32) (v4 : Int32) (I : gI) (J : gL) : Prop :=
  ∃ (Inv : Int32 → gL → Prop) (mu : Int32 → gL → Nat), Inv v4 J ∧ ∀ (v4 : Int32) (J : gL), Inv v4 J → w_X10_around_39b  Po K31 (fun u4 J1 => Inv u4 J1 ∧ mu u4 J1 < mu v4 J) v1 v2 v3 v4 I J
def w_X10_around_31b  (Po : Int64 → gL → Prop) (K31 : Int32 → gL → Prop) (v1 : Int32) (v2 : Int32) (v3 : Int32) (I : gI) (J : gL) : Prop :=
  (v2 ≤ v3 → vp_in v1 10000 ∧ Po (J 208 (v1).toNatClampNeg) J) ∧ (¬ v2 ≤ v3 → w_X10_around_39 Po K31 v1 v2 v3 (0 : Int32) I J)
def w_X10_around_31  (Po : Int64 → gL → Prop)  (v1 : Int32) (v2 : Int32) (v3 : Int32) (I : gI) (J : gL) : Prop :=
  ∃ (Inv : Int32 → gL → Prop) (mu : Int32 → gL → Nat), Inv v3 J ∧ ∀ (v3 : Int32) (J : gL), Inv v3 J → w_X10_around_31b  Po  (fun u3 J1 => Inv u3 J1 ∧ mu u3 J1 < mu v3 J) v1 v2 v3 I J
def w_X10_around_2b  (Po : Int64 → gL → Prop) (K2 : Int32 → gL → Prop) (v1 : Int32) (v2 : Int32) (v3 : Int32) (I : gI) (J : gL) : Prop :=
  ((10000 : Int32) ≤ v3 → vp_in v1 10000 ∧ ∀ J3 : gL, J3 = gup J 208 (v1).toNatClampNeg (1 : Int64) → w_X10_around_31 Po v1 v2 (0 : Int32) I J3) ∧ (¬ (10000 : Int32) ≤ v3 → vp_in v3 10000 ∧ ∀ J33 : gL, J33 = gup J 208 (v3).toNatClampNeg (0 : Int64) → ∀ n34 : Int32, n34 = v3 + 1 → K2 n34 J33)
def w_X10_around_2  (Po : Int64 → gL → Prop)  (v1 : Int32) (v2 : Int32) (v3 : Int32) (I : gI) (J : gL) : Prop :=
  ∃ (Inv : Int32 → gL → Prop) (mu : Int32 → gL → Nat), Inv v3 J ∧ ∀ (v3 : Int32) (J : gL), Inv v3 J → w_X10_around_2b  Po  (fun u3 J1 => Inv u3 J1 ∧ mu u3 J1 < mu v3 J) v1 v2 v3 I J
def wp_X10_around (a1 : Int32) (a2 : Int32) (I : gI) (J : gL) (Po : Int64 → gL → Prop) : Prop :=
  w_X10_around_2 Po a1 a2 (0 : Int32) I J
set_option maxRecDepth 100000 in
set_option maxHeartbeats 4000000 in
theorem t_X10_around_146b {X : gX} {l : Launch} {D : va_G} {cy : Nat → ClassId} {nm : String} {V : gV} (hM : gModM V) (C : gC X cX10_around RX10 (some .long) 5 rm_X10_around) (hX : gIs X l D cy nm) {I : gI} {J : gL} {Po : Int64 → gL → Prop} (hR : gR X (gPl V (fun x I' J' => I = I' ∧ Po x J'))) {v1 : Int32} {v2 : Int32} {v3 : Int32} {v4 : Int32} {K31 : Int32 → gL → Prop} {K146 : Int32 → gL → Prop} (hK31 : ∀ (y3 : Int32) (J1 : gL), K31 y3 J1 → gJ X V 0 0 31 [(0, .ref (V.2.1 200)), (1, .int v1), (2, .int v2), (3, .int y3)] [] I J1) (hK146 : ∀ (y4 : Int32) (J1 : gL), K146 y4 J1 → gJ X V 0 0 146 [(0, .ref (V.2.1 200)), (1, .int v1), (2, .int v2), (3, .int v3), (4, .int y4)] [] I J1) (h : w_X10_around_146b Po K31 K146 v1 v2 v3 v4 I J) : gJ X V 0 0 146 [(0, .ref (V.2.1 200)), (1, .int v1), (2, .int v2), (3, .int v3), (4, .int v4)] [] I J := by
  unfold w_X10_around_146b at h
  refine j_iload (pc := 146) C dX10_around_146 4 rfl ?_
  refine j_aload_n (pc := 148) C dX10_around_148 rfl 0 rfl ?_
  refine j_getI (pc := 149) C 200 5 (c_200 hM).1 (c_200 hM).2 rfl rfl (by decide) inw_X10 wd_971 dX10_around_149 ?_
  refine j_icmp_ge (pc := 152) (tgt := 185) C dX10_around_152 (by decide) (fun c9 => ?_) (fun c9 => ?_)
  · have h := h.1 c9
    obtain ⟨n10, en10⟩ : ∃ z : Int32, z = v3 + 1 := ⟨_, rfl⟩
    have h := h n10 en10
    refine j_iinc (pc := 185) (v := n10) (lv' := [(3, .int n10), (0, .ref (V.2.1 200)), (1, .int v1), (2, .int v2), (4, .int v4)]) C dX10_around_185 3 rfl (by rw [en10]; rfl) (by decide) rfl ?_
    refine j_goto (pc := 188) (tgt := 31) C dX10_around_188 (by decide) ?_
    refine gJ.sub [1, 2, 3, 0] rfl ?_
    exact hK31 _ _ h
  · have h := h.2 c9
    refine j_aload_n (pc := 155) C dX10_around_155 rfl 0 rfl ?_
    refine j_getR (pc := 156) C 200 9 208 (c_200 hM).1 (c_200 hM).2 rfl rfl (by decide) inw_X10 wd_975 dX10_around_156 ?_
    refine j_aload_n (pc := 159) C dX10_around_159 rfl 0 rfl ?_
    refine j_getR (pc := 160) C 200 4 204 (c_200 hM).1 (c_200 hM).2 rfl rfl (by decide) inw_X10 wd_970 dX10_around_160 ?_
    refine j_iload (pc := 163) C dX10_around_163 4 rfl ?_
    obtain ⟨g11, h⟩ := h
    refine j_iald (pc := 165) C 204 (c_204 hM).1 (c_204 hM).2 g11 dX10_around_165 ?_
    refine j_aload_n (pc := 166) C dX10_around_166 rfl 0 rfl ?_
    refine j_getR (pc := 167) C 200 10 209 (c_200 hM).1 (c_200 hM).2 rfl rfl (by decide) inw_X10 wd_976 dX10_around_167 ?_
    refine j_aload_n (pc := 170) C dX10_around_170 rfl 0 rfl ?_
    refine j_getR (pc := 171) C 200 4 204 (c_200 hM).1 (c_200 hM).2 rfl rfl (by decide) inw_X10 wd_970 dX10_around_171 ?_
    refine j_iload (pc := 174) C dX10_around_174 4 rfl ?_
    obtain ⟨g12, h⟩ := h
    refine j_iald (pc := 176) C 204 (c_204 hM).1 (c_204 hM).2 g12 dX10_around_176 ?_
    obtain ⟨g13, h⟩ := h
    refine j_lald (pc := 177) C 209 (c_209 hM).1 (c_209 hM).2 g13 dX10_around_177 ?_
    obtain ⟨g14, h⟩ := h
    refine j_last (pc := 178) C 208 (c_208 hM).1 (c_208 hM).2 g14 dX10_around_178 ?_
    refine gJ.nmJ (fun J15 eJ15 => ?_)
    have h := h J15 eJ15
    obtain ⟨n16, en16⟩ : ∃ z : Int32, z = v4 + 1 := ⟨_, rfl⟩
    have h := h n16 en16
    refine j_iinc (pc := 179) (v := n16) (lv' := [(4, .int n16), (0, .ref (V.2.1 200)), (1, .int v1), (2, .int v2), (3, .int v3)]) C dX10_around_179 4 rfl (by rw [en16]; rfl) (by decide) rfl ?_
    refine j_goto (pc := 182) (tgt := 146) C dX10_around_182 (by decide) ?_
    refine gJ.sub [1, 2, 3, 4, 0] rfl ?_
    exact hK146 _ _ h
set_option maxRecDepth 100000 in
set_option maxHeartbeats 4000000 in
theorem t_X10_around_146 {X : gX} {l : Launch} {D : va_G} {cy : Nat → ClassId} {nm : String} {V : gV} (hM : gModM V) (C : gC X cX10_around RX10 (some .long) 5 rm_X10_around) (hX : gIs X l D cy nm) {I : gI} {J : gL} {Po : Int64 → gL → Prop} (hR : gR X (gPl V (fun x I' J' => I = I' ∧ Po x J'))) {v1 : Int32} {v2 : Int32} {v3 : Int32} {v4 : Int32} {K31 : Int32 → gL → Prop} (hK31 : ∀ (y3 : Int32) (J1 : gL), K31 y3 J1 → gJ X V 0 0 31 [(0, .ref (V.2.1 200)), (1, .int v1), (2, .int v2), (3, .int y3)] [] I J1) (h : w_X10_around_146 Po K31 v1 v2 v3 v4 I J) : gJ X V 0 0 146 [(0, .ref (V.2.1 200)), (1, .int v1), (2, .int v2), (3, .int v3), (4, .int v4)] [] I J := by
  unfold w_X10_around_146 at h
  obtain ⟨Inv, mu, h0, hs⟩ := h
  have key : ∀ (n : Nat) (v4 : Int32) (J : gL), Inv v4 J → mu v4 J < n → gJ X V 0 0 146 [(0, .ref (V.2.1 200)), (1, .int v1), (2, .int v2), (3, .int v3), (4, .int v4)] [] I J := by
    intro n
    induction n with
    | zero => intro v4 J hi hn; exact absurd hn (Nat.not_lt_zero _)
    | succ n ih =>
      intro v4 J hi hn
      exact t_X10_around_146b hM C hX hR  hK31 (fun u4 J1 hk => ih u4 J1 hk.1 (Nat.lt_of_lt_of_le hk.2 (Nat.le_of_lt_succ hn))) (hs v4 J hi)
  exact key _ v4 J h0 (Nat.lt_succ_self _)
set_option maxRecDepth 100000 in
set_option maxHeartbeats 4000000 in
theorem t_X10_around_115b {X : gX} {l : Launch} {D : va_G} {cy : Nat → ClassId} {nm : String} {V : gV} (hM : gModM V) (C : gC X cX10_around RX10 (some .long) 5 rm_X10_around) (hX : gIs X l D cy nm) {I : gI} {J : gL} {Po : Int64 → gL → Prop} (hR : gR X (gPl V (fun x I' J' => I = I' ∧ Po x J'))) {v1 : Int32} {v2 : Int32} {v3 : Int32} {v4 : Int32} {K31 : Int32 → gL → Prop} {K115 : Int32 → gL → Prop} (hK31 : ∀ (y3 : Int32) (J1 : gL), K31 y3 J1 → gJ X V 0 0 31 [(0, .ref (V.2.1 200)), (1, .int v1), (2, .int v2), (3, .int y3)] [] I J1) (hK115 : ∀ (y4 : Int32) (J1 : gL), K115 y4 J1 → gJ X V 0 0 115 [(0, .ref (V.2.1 200)), (1, .int v1), (2, .int v2), (3, .int v3), (4, .int y4)] [] I J1) (h : w_X10_around_115b Po K31 K115 v1 v2 v3 v4 I J) : gJ X V 0 0 115 [(0, .ref (V.2.1 200)), (1, .int v1), (2, .int v2), (3, .int v3), (4, .int v4)] [] I J := by
  unfold w_X10_around_115b at h
  refine j_iload (pc := 115) C dX10_around_115 4 rfl ?_
  refine j_aload_n (pc := 117) C dX10_around_117 rfl 0 rfl ?_
  refine j_getI (pc := 118) C 200 5 (c_200 hM).1 (c_200 hM).2 rfl rfl (by decide) inw_X10 wd_971 dX10_around_118 ?_
  refine j_icmp_ge (pc := 121) (tgt := 143) C dX10_around_121 (by decide) (fun c8 => ?_) (fun c8 => ?_)
  · have h := h.1 c8
    refine j_iconst (pc := 143) (v := 0) C dX10_around_143 (by decide) ?_
    refine j_istore (pc := 144) (lv' := [(4, .int (0 : Int32)), (0, .ref (V.2.1 200)), (1, .int v1), (2, .int v2), (3, .int v3)]) C dX10_around_144 (by decide) rfl ?_
    refine gJ.sub [1, 2, 3, 4, 0] rfl ?_
    exact t_X10_around_146 hM C hX hR  hK31 h
  · have h := h.2 c8
    refine j_aload_n (pc := 124) C dX10_around_124 rfl 0 rfl ?_
    refine j_getR (pc := 125) C 200 9 208 (c_200 hM).1 (c_200 hM).2 rfl rfl (by decide) inw_X10 wd_975 dX10_around_125 ?_
    refine j_aload_n (pc := 128) C dX10_around_128 rfl 0 rfl ?_
    refine j_getR (pc := 129) C 200 3 203 (c_200 hM).1 (c_200 hM).2 rfl rfl (by decide) inw_X10 wd_969 dX10_around_129 ?_
    refine j_iload (pc := 132) C dX10_around_132 4 rfl ?_
    obtain ⟨g17, h⟩ := h
    refine j_iald (pc := 134) C 203 (c_203 hM).1 (c_203 hM).2 g17 dX10_around_134 ?_
    refine j_lconst (pc := 135) (v := 0) C dX10_around_135 (by decide) ?_
    obtain ⟨g18, h⟩ := h
    refine j_last (pc := 136) C 208 (c_208 hM).1 (c_208 hM).2 g18 dX10_around_136 ?_
    refine gJ.nmJ (fun J19 eJ19 => ?_)
    have h := h J19 eJ19
    obtain ⟨n20, en20⟩ : ∃ z : Int32, z = v4 + 1 := ⟨_, rfl⟩
    have h := h n20 en20
    refine j_iinc (pc := 137) (v := n20) (lv' := [(4, .int n20), (0, .ref (V.2.1 200)), (1, .int v1), (2, .int v2), (3, .int v3)]) C dX10_around_137 4 rfl (by rw [en20]; rfl) (by decide) rfl ?_
    refine j_goto (pc := 140) (tgt := 115) C dX10_around_140 (by decide) ?_
    refine gJ.sub [1, 2, 3, 4, 0] rfl ?_
    exact hK115 _ _ h
set_option maxRecDepth 100000 in
set_option maxHeartbeats 4000000 in
theorem t_X10_around_115 {X : gX} {l : Launch} {D : va_G} {cy : Nat → ClassId} {nm : String} {V : gV} (hM : gModM V) (C : gC X cX10_around RX10 (some .long) 5 rm_X10_around) (hX : gIs X l D cy nm) {I : gI} {J : gL} {Po : Int64 → gL → Prop} (hR : gR X (gPl V (fun x I' J' => I = I' ∧ Po x J'))) {v1 : Int32} {v2 : Int32} {v3 : Int32} {v4 : Int32} {K31 : Int32 → gL → Prop} (hK31 : ∀ (y3 : Int32) (J1 : gL), K31 y3 J1 → gJ X V 0 0 31 [(0, .ref (V.2.1 200)), (1, .int v1), (2, .int v2), (3, .int y3)] [] I J1) (h : w_X10_around_115 Po K31 v1 v2 v3 v4 I J) : gJ X V 0 0 115 [(0, .ref (V.2.1 200)), (1, .int v1), (2, .int v2), (3, .int v3), (4, .int v4)] [] I J := by
  unfold w_X10_around_115 at h
  obtain ⟨Inv, mu, h0, hs⟩ := h
  have key : ∀ (n : Nat) (v4 : Int32) (J : gL), Inv v4 J → mu v4 J < n → gJ X V 0 0 115 [(0, .ref (V.2.1 200)), (1, .int v1), (2, .int v2), (3, .int v3), (4, .int v4)] [] I J := by
    intro n
    induction n with
    | zero => intro v4 J hi hn; exact absurd hn (Nat.not_lt_zero _)
    | succ n ih =>
      intro v4 J hi hn
      exact t_X10_around_115b hM C hX hR  hK31 (fun u4 J1 hk => ih u4 J1 hk.1 (Nat.lt_of_lt_of_le hk.2 (Nat.le_of_lt_succ hn))) (hs v4 J hi)
  exact key _ v4 J h0 (Nat.lt_succ_self _)
set_option maxRecDepth 100000 in
set_option maxHeartbeats 4000000 in
theorem t_X10_around_70b {X : gX} {l : Launch} {D : va_G} {cy : Nat → ClassId} {nm : String} {V : gV} (hM : gModM V) (C : gC X cX10_around RX10 (some .long) 5 rm_X10_around) (hX : gIs X l D cy nm) {I : gI} {J : gL} {Po : Int64 → gL → Prop} (hR : gR X (gPl V (fun x I' J' => I = I' ∧ Po x J'))) {v1 : Int32} {v2 : Int32} {v3 : Int32} {v4 : Int32} {K31 : Int32 → gL → Prop} {K70 : Int32 → gL → Prop} (hK31 : ∀ (y3 : Int32) (J1 : gL), K31 y3 J1 → gJ X V 0 0 31 [(0, .ref (V.2.1 200)), (1, .int v1), (2, .int v2), (3, .int y3)] [] I J1) (hK70 : ∀ (y4 : Int32) (J1 : gL), K70 y4 J1 → gJ X V 0 0 70 [(0, .ref (V.2.1 200)), (1, .int v1), (2, .int v2), (3, .int v3), (4, .int y4)] [] I J1) (h : w_X10_around_70b Po K31 K70 v1 v2 v3 v4 I J) : gJ X V 0 0 70 [(0, .ref (V.2.1 200)), (1, .int v1), (2, .int v2), (3, .int v3), (4, .int v4)] [] I J := by
  unfold w_X10_around_70b at h
  refine j_iload (pc := 70) C dX10_around_70 4 rfl ?_
  refine j_aload_n (pc := 72) C dX10_around_72 rfl 0 rfl ?_
  refine j_getI (pc := 73) C 200 5 (c_200 hM).1 (c_200 hM).2 rfl rfl (by decide) inw_X10 wd_971 dX10_around_73 ?_
  refine j_icmp_ge (pc := 76) (tgt := 112) C dX10_around_76 (by decide) (fun c7 => ?_) (fun c7 => ?_)
  · have h := h.1 c7
    refine j_iconst (pc := 112) (v := 0) C dX10_around_112 (by decide) ?_
    refine j_istore (pc := 113) (lv' := [(4, .int (0 : Int32)), (0, .ref (V.2.1 200)), (1, .int v1), (2, .int v2), (3, .int v3)]) C dX10_around_113 (by decide) rfl ?_
    refine gJ.sub [1, 2, 3, 4, 0] rfl ?_
    exact t_X10_around_115 hM C hX hR  hK31 h
  · have h := h.2 c7
    refine j_aload_n (pc := 79) C dX10_around_79 rfl 0 rfl ?_
    refine j_getR (pc := 80) C 200 10 209 (c_200 hM).1 (c_200 hM).2 rfl rfl (by decide) inw_X10 wd_976 dX10_around_80 ?_
    refine j_aload_n (pc := 83) C dX10_around_83 rfl 0 rfl ?_
    refine j_getR (pc := 84) C 200 4 204 (c_200 hM).1 (c_200 hM).2 rfl rfl (by decide) inw_X10 wd_970 dX10_around_84 ?_
    refine j_iload (pc := 87) C dX10_around_87 4 rfl ?_
    obtain ⟨g21, h⟩ := h
    refine j_iald (pc := 89) C 204 (c_204 hM).1 (c_204 hM).2 g21 dX10_around_89 ?_
    refine j_dup2_11 (pc := 90) C dX10_around_90 rfl rfl ?_
    obtain ⟨g22, h⟩ := h
    refine j_lald (pc := 91) C 209 (c_209 hM).1 (c_209 hM).2 g22 dX10_around_91 ?_
    refine j_aload_n (pc := 92) C dX10_around_92 rfl 0 rfl ?_
    refine j_getR (pc := 93) C 200 9 208 (c_200 hM).1 (c_200 hM).2 rfl rfl (by decide) inw_X10 wd_975 dX10_around_93 ?_
    refine j_aload_n (pc := 96) C dX10_around_96 rfl 0 rfl ?_
    refine j_getR (pc := 97) C 200 3 203 (c_200 hM).1 (c_200 hM).2 rfl rfl (by decide) inw_X10 wd_969 dX10_around_97 ?_
    refine j_iload (pc := 100) C dX10_around_100 4 rfl ?_
    obtain ⟨g23, h⟩ := h
    refine j_iald (pc := 102) C 203 (c_203 hM).1 (c_203 hM).2 g23 dX10_around_102 ?_
    obtain ⟨g24, h⟩ := h
    refine j_lald (pc := 103) C 208 (c_208 hM).1 (c_208 hM).2 g24 dX10_around_103 ?_
    refine j_ladd (pc := 104) C dX10_around_104 ?_
    obtain ⟨g25, h⟩ := h
    refine j_last (pc := 105) C 209 (c_209 hM).1 (c_209 hM).2 g25 dX10_around_105 ?_
    refine gJ.nmJ (fun J26 eJ26 => ?_)
    have h := h J26 eJ26
    obtain ⟨n27, en27⟩ : ∃ z : Int32, z = v4 + 1 := ⟨_, rfl⟩
    have h := h n27 en27
    refine j_iinc (pc := 106) (v := n27) (lv' := [(4, .int n27), (0, .ref (V.2.1 200)), (1, .int v1), (2, .int v2), (3, .int v3)]) C dX10_around_106 4 rfl (by rw [en27]; rfl) (by decide) rfl ?_
    refine j_goto (pc := 109) (tgt := 70) C dX10_around_109 (by decide) ?_
    refine gJ.sub [1, 2, 3, 4, 0] rfl ?_
    exact hK70 _ _ h
set_option maxRecDepth 100000 in
set_option maxHeartbeats 4000000 in
theorem t_X10_around_70 {X : gX} {l : Launch} {D : va_G} {cy : Nat → ClassId} {nm : String} {V : gV} (hM : gModM V) (C : gC X cX10_around RX10 (some .long) 5 rm_X10_around) (hX : gIs X l D cy nm) {I : gI} {J : gL} {Po : Int64 → gL → Prop} (hR : gR X (gPl V (fun x I' J' => I = I' ∧ Po x J'))) {v1 : Int32} {v2 : Int32} {v3 : Int32} {v4 : Int32} {K31 : Int32 → gL → Prop} (hK31 : ∀ (y3 : Int32) (J1 : gL), K31 y3 J1 → gJ X V 0 0 31 [(0, .ref (V.2.1 200)), (1, .int v1), (2, .int v2), (3, .int y3)] [] I J1) (h : w_X10_around_70 Po K31 v1 v2 v3 v4 I J) : gJ X V 0 0 70 [(0, .ref (V.2.1 200)), (1, .int v1), (2, .int v2), (3, .int v3), (4, .int v4)] [] I J := by
  unfold w_X10_around_70 at h
  obtain ⟨Inv, mu, h0, hs⟩ := h
  have key : ∀ (n : Nat) (v4 : Int32) (J : gL), Inv v4 J → mu v4 J < n → gJ X V 0 0 70 [(0, .ref (V.2.1 200)), (1, .int v1), (2, .int v2), (3, .int v3), (4, .int v4)] [] I J := by
    intro n
    induction n with
    | zero => intro v4 J hi hn; exact absurd hn (Nat.not_lt_zero _)
    | succ n ih =>
      intro v4 J hi hn
      exact t_X10_around_70b hM C hX hR  hK31 (fun u4 J1 hk => ih u4 J1 hk.1 (Nat.lt_of_lt_of_le hk.2 (Nat.le_of_lt_succ hn))) (hs v4 J hi)
  exact key _ v4 J h0 (Nat.lt_succ_self _)
set_option maxRecDepth 100000 in
set_option maxHeartbeats 4000000 in
theorem t_X10_around_39b {X : gX} {l : Launch} {D : va_G} {cy : Nat → ClassId} {nm : String} {V : gV} (hM : gModM V) (C : gC X cX10_around RX10 (some .long) 5 rm_X10_around) (hX : gIs X l D cy nm) {I : gI} {J : gL} {Po : Int64 → gL → Prop} (hR : gR X (gPl V (fun x I' J' => I = I' ∧ Po x J'))) {v1 : Int32} {v2 : Int32} {v3 : Int32} {v4 : Int32} {K31 : Int32 → gL → Prop} {K39 : Int32 → gL → Prop} (hK31 : ∀ (y3 : Int32) (J1 : gL), K31 y3 J1 → gJ X V 0 0 31 [(0, .ref (V.2.1 200)), (1, .int v1), (2, .int v2), (3, .int y3)] [] I J1) (hK39 : ∀ (y4 : Int32) (J1 : gL), K39 y4 J1 → gJ X V 0 0 39 [(0, .ref (V.2.1 200)), (1, .int v1), (2, .int v2), (3, .int v3), (4, .int y4)] [] I J1) (h : w_X10_around_39b Po K31 K39 v1 v2 v3 v4 I J) : gJ X V 0 0 39 [(0, .ref (V.2.1 200)), (1, .int v1), (2, .int v2), (3, .int v3), (4, .int v4)] [] I J := by
  unfold w_X10_around_39b at h
  refine j_iload (pc := 39) C dX10_around_39 4 rfl ?_
  refine j_aload_n (pc := 41) C dX10_around_41 rfl 0 rfl ?_
  refine j_getI (pc := 42) C 200 5 (c_200 hM).1 (c_200 hM).2 rfl rfl (by decide) inw_X10 wd_971 dX10_around_42 ?_
  refine j_icmp_ge (pc := 45) (tgt := 67) C dX10_around_45 (by decide) (fun c6 => ?_) (fun c6 => ?_)
  · have h := h.1 c6
    refine j_iconst (pc := 67) (v := 0) C dX10_around_67 (by decide) ?_
    refine j_istore (pc := 68) (lv' := [(4, .int (0 : Int32)), (0, .ref (V.2.1 200)), (1, .int v1), (2, .int v2), (3, .int v3)]) C dX10_around_68 (by decide) rfl ?_
    refine gJ.sub [1, 2, 3, 4, 0] rfl ?_
    exact t_X10_around_70 hM C hX hR  hK31 h
  · have h := h.2 c6
    refine j_aload_n (pc := 48) C dX10_around_48 rfl 0 rfl ?_
    refine j_getR (pc := 49) C 200 10 209 (c_200 hM).1 (c_200 hM).2 rfl rfl (by decide) inw_X10 wd_976 dX10_around_49 ?_
    refine j_aload_n (pc := 52) C dX10_around_52 rfl 0 rfl ?_
    refine j_getR (pc := 53) C 200 4 204 (c_200 hM).1 (c_200 hM).2 rfl rfl (by decide) inw_X10 wd_970 dX10_around_53 ?_
    refine j_iload (pc := 56) C dX10_around_56 4 rfl ?_
    obtain ⟨g28, h⟩ := h
    refine j_iald (pc := 58) C 204 (c_204 hM).1 (c_204 hM).2 g28 dX10_around_58 ?_
    refine j_lconst (pc := 59) (v := 0) C dX10_around_59 (by decide) ?_
    obtain ⟨g29, h⟩ := h
    refine j_last (pc := 60) C 209 (c_209 hM).1 (c_209 hM).2 g29 dX10_around_60 ?_
    refine gJ.nmJ (fun J30 eJ30 => ?_)
    have h := h J30 eJ30
    obtain ⟨n31, en31⟩ : ∃ z : Int32, z = v4 + 1 := ⟨_, rfl⟩
    have h := h n31 en31
    refine j_iinc (pc := 61) (v := n31) (lv' := [(4, .int n31), (0, .ref (V.2.1 200)), (1, .int v1), (2, .int v2), (3, .int v3)]) C dX10_around_61 4 rfl (by rw [en31]; rfl) (by decide) rfl ?_
    refine j_goto (pc := 64) (tgt := 39) C dX10_around_64 (by decide) ?_
    refine gJ.sub [1, 2, 3, 4, 0] rfl ?_
    exact hK39 _ _ h
set_option maxRecDepth 100000 in
set_option maxHeartbeats 4000000 in
theorem t_X10_around_39 {X : gX} {l : Launch} {D : va_G} {cy : Nat → ClassId} {nm : String} {V : gV} (hM : gModM V) (C : gC X cX10_around RX10 (some .long) 5 rm_X10_around) (hX : gIs X l D cy nm) {I : gI} {J : gL} {Po : Int64 → gL → Prop} (hR : gR X (gPl V (fun x I' J' => I = I' ∧ Po x J'))) {v1 : Int32} {v2 : Int32} {v3 : Int32} {v4 : Int32} {K31 : Int32 → gL → Prop} (hK31 : ∀ (y3 : Int32) (J1 : gL), K31 y3 J1 → gJ X V 0 0 31 [(0, .ref (V.2.1 200)), (1, .int v1), (2, .int v2), (3, .int y3)] [] I J1) (h : w_X10_around_39 Po K31 v1 v2 v3 v4 I J) : gJ X V 0 0 39 [(0, .ref (V.2.1 200)), (1, .int v1), (2, .int v2), (3, .int v3), (4, .int v4)] [] I J := by
  unfold w_X10_around_39 at h
  obtain ⟨Inv, mu, h0, hs⟩ := h
  have key : ∀ (n : Nat) (v4 : Int32) (J : gL), Inv v4 J → mu v4 J < n → gJ X V 0 0 39 [(0, .ref (V.2.1 200)), (1, .int v1), (2, .int v2), (3, .int v3), (4, .int v4)] [] I J := by
    intro n
    induction n with
    | zero => intro v4 J hi hn; exact absurd hn (Nat.not_lt_zero _)
    | succ n ih =>
      intro v4 J hi hn
      exact t_X10_around_39b hM C hX hR  hK31 (fun u4 J1 hk => ih u4 J1 hk.1 (Nat.lt_of_lt_of_le hk.2 (Nat.le_of_lt_succ hn))) (hs v4 J hi)
  exact key _ v4 J h0 (Nat.lt_succ_self _)
set_option maxRecDepth 100000 in
set_option maxHeartbeats 4000000 in
theorem t_X10_around_31b {X : gX} {l : Launch} {D : va_G} {cy : Nat → ClassId} {nm : String} {V : gV} (hM : gModM V) (C : gC X cX10_around RX10 (some .long) 5 rm_X10_around) (hX : gIs X l D cy nm) {I : gI} {J : gL} {Po : Int64 → gL → Prop} (hR : gR X (gPl V (fun x I' J' => I = I' ∧ Po x J'))) {v1 : Int32} {v2 : Int32} {v3 : Int32} {K31 : Int32 → gL → Prop} (hK31 : ∀ (y3 : Int32) (J1 : gL), K31 y3 J1 → gJ X V 0 0 31 [(0, .ref (V.2.1 200)), (1, .int v1), (2, .int v2), (3, .int y3)] [] I J1) (h : w_X10_around_31b Po K31 v1 v2 v3 I J) : gJ X V 0 0 31 [(0, .ref (V.2.1 200)), (1, .int v1), (2, .int v2), (3, .int v3)] [] I J := by
  unfold w_X10_around_31b at h
  refine j_iload_n (pc := 31) C dX10_around_31 rfl 3 rfl ?_
  refine j_iload_n (pc := 32) C dX10_around_32 rfl 2 rfl ?_
  refine j_icmp_ge (pc := 33) (tgt := 191) C dX10_around_33 (by decide) (fun c4 => ?_) (fun c4 => ?_)
  · have h := h.1 c4
    refine j_aload_n (pc := 191) C dX10_around_191 rfl 0 rfl ?_
    refine j_getR (pc := 192) C 200 9 208 (c_200 hM).1 (c_200 hM).2 rfl rfl (by decide) inw_X10 wd_975 dX10_around_192 ?_
    refine j_iload_n (pc := 195) C dX10_around_195 rfl 1 rfl ?_
    obtain ⟨g5, h⟩ := h
    refine j_lald (pc := 196) C 208 (c_208 hM).1 (c_208 hM).2 g5 dX10_around_196 ?_
    exact j_lret (pc := 197) C hR (Nat.zero_le _) (Nat.zero_le _) dX10_around_197 ⟨_, rfl, rfl, rfl, h⟩
  · have h := h.2 c4
    refine j_iconst (pc := 36) (v := 0) C dX10_around_36 (by decide) ?_
    refine j_istore (pc := 37) (lv' := [(4, .int (0 : Int32)), (0, .ref (V.2.1 200)), (1, .int v1), (2, .int v2), (3, .int v3)]) C dX10_around_37 (by decide) rfl ?_
    refine gJ.sub [1, 2, 3, 4, 0] rfl ?_
    exact t_X10_around_39 hM C hX hR  hK31 h
set_option maxRecDepth 100000 in
set_option maxHeartbeats 4000000 in
theorem t_X10_around_31 {X : gX} {l : Launch} {D : va_G} {cy : Nat → ClassId} {nm : String} {V : gV} (hM : gModM V) (C : gC X cX10_around RX10 (some .long) 5 rm_X10_around) (hX : gIs X l D cy nm) {I : gI} {J : gL} {Po : Int64 → gL → Prop} (hR : gR X (gPl V (fun x I' J' => I = I' ∧ Po x J'))) {v1 : Int32} {v2 : Int32} {v3 : Int32} (h : w_X10_around_31 Po v1 v2 v3 I J) : gJ X V 0 0 31 [(0, .ref (V.2.1 200)), (1, .int v1), (2, .int v2), (3, .int v3)] [] I J := by
  unfold w_X10_around_31 at h
  obtain ⟨Inv, mu, h0, hs⟩ := h
  have key : ∀ (n : Nat) (v3 : Int32) (J : gL), Inv v3 J → mu v3 J < n → gJ X V 0 0 31 [(0, .ref (V.2.1 200)), (1, .int v1), (2, .int v2), (3, .int v3)] [] I J := by
    intro n
    induction n with
    | zero => intro v3 J hi hn; exact absurd hn (Nat.not_lt_zero _)
    | succ n ih =>
      intro v3 J hi hn
      exact t_X10_around_31b hM C hX hR   (fun u3 J1 hk => ih u3 J1 hk.1 (Nat.lt_of_lt_of_le hk.2 (Nat.le_of_lt_succ hn))) (hs v3 J hi)
  exact key _ v3 J h0 (Nat.lt_succ_self _)
set_option maxRecDepth 100000 in
set_option maxHeartbeats 4000000 in
theorem t_X10_around_2b {X : gX} {l : Launch} {D : va_G} {cy : Nat → ClassId} {nm : String} {V : gV} (hM : gModM V) (C : gC X cX10_around RX10 (some .long) 5 rm_X10_around) (hX : gIs X l D cy nm) {I : gI} {J : gL} {Po : Int64 → gL → Prop} (hR : gR X (gPl V (fun x I' J' => I = I' ∧ Po x J'))) {v1 : Int32} {v2 : Int32} {v3 : Int32} {K2 : Int32 → gL → Prop} (hK2 : ∀ (y3 : Int32) (J1 : gL), K2 y3 J1 → gJ X V 0 0 2 [(0, .ref (V.2.1 200)), (1, .int v1), (2, .int v2), (3, .int y3)] [] I J1) (h : w_X10_around_2b Po K2 v1 v2 v3 I J) : gJ X V 0 0 2 [(0, .ref (V.2.1 200)), (1, .int v1), (2, .int v2), (3, .int v3)] [] I J := by
  unfold w_X10_around_2b at h
  refine j_iload_n (pc := 2) C dX10_around_2 rfl 3 rfl ?_
  refine j_sipush (pc := 3) (v := 10000) C dX10_around_3 (by decide) ?_
  refine j_icmp_ge (pc := 6) (tgt := 22) C dX10_around_6 (by decide) (fun c1 => ?_) (fun c1 => ?_)
  · have h := h.1 c1
    refine j_aload_n (pc := 22) C dX10_around_22 rfl 0 rfl ?_
    refine j_getR (pc := 23) C 200 9 208 (c_200 hM).1 (c_200 hM).2 rfl rfl (by decide) inw_X10 wd_975 dX10_around_23 ?_
    refine j_iload_n (pc := 26) C dX10_around_26 rfl 1 rfl ?_
    refine j_lconst (pc := 27) (v := 1) C dX10_around_27 (by decide) ?_
    obtain ⟨g2, h⟩ := h
    refine j_last (pc := 28) C 208 (c_208 hM).1 (c_208 hM).2 g2 dX10_around_28 ?_
    refine gJ.nmJ (fun J3 eJ3 => ?_)
    have h := h J3 eJ3
    refine j_iconst (pc := 29) (v := 0) C dX10_around_29 (by decide) ?_
    refine j_istore_n (pc := 30) (lv' := [(3, .int (0 : Int32)), (0, .ref (V.2.1 200)), (1, .int v1), (2, .int v2)]) C dX10_around_30 rfl (by decide) rfl ?_
    refine gJ.sub [1, 2, 3, 0] rfl ?_
    exact t_X10_around_31 hM C hX hR   h
  · have h := h.2 c1
    refine j_aload_n (pc := 9) C dX10_around_9 rfl 0 rfl ?_
    refine j_getR (pc := 10) C 200 9 208 (c_200 hM).1 (c_200 hM).2 rfl rfl (by decide) inw_X10 wd_975 dX10_around_10 ?_
    refine j_iload_n (pc := 13) C dX10_around_13 rfl 3 rfl ?_
    refine j_lconst (pc := 14) (v := 0) C dX10_around_14 (by decide) ?_
    obtain ⟨g32, h⟩ := h
    refine j_last (pc := 15) C 208 (c_208 hM).1 (c_208 hM).2 g32 dX10_around_15 ?_
    refine gJ.nmJ (fun J33 eJ33 => ?_)
    have h := h J33 eJ33
    obtain ⟨n34, en34⟩ : ∃ z : Int32, z = v3 + 1 := ⟨_, rfl⟩
    have h := h n34 en34
    refine j_iinc (pc := 16) (v := n34) (lv' := [(3, .int n34), (0, .ref (V.2.1 200)), (1, .int v1), (2, .int v2)]) C dX10_around_16 3 rfl (by rw [en34]; rfl) (by decide) rfl ?_
    refine j_goto (pc := 19) (tgt := 2) C dX10_around_19 (by decide) ?_
    refine gJ.sub [1, 2, 3, 0] rfl ?_
    exact hK2 _ _ h
set_option maxRecDepth 100000 in
set_option maxHeartbeats 4000000 in
theorem t_X10_around_2 {X : gX} {l : Launch} {D : va_G} {cy : Nat → ClassId} {nm : String} {V : gV} (hM : gModM V) (C : gC X cX10_around RX10 (some .long) 5 rm_X10_around) (hX : gIs X l D cy nm) {I : gI} {J : gL} {Po : Int64 → gL → Prop} (hR : gR X (gPl V (fun x I' J' => I = I' ∧ Po x J'))) {v1 : Int32} {v2 : Int32} {v3 : Int32} (h : w_X10_around_2 Po v1 v2 v3 I J) : gJ X V 0 0 2 [(0, .ref (V.2.1 200)), (1, .int v1), (2, .int v2), (3, .int v3)] [] I J := by
  unfold w_X10_around_2 at h
  obtain ⟨Inv, mu, h0, hs⟩ := h
  have key : ∀ (n : Nat) (v3 : Int32) (J : gL), Inv v3 J → mu v3 J < n → gJ X V 0 0 2 [(0, .ref (V.2.1 200)), (1, .int v1), (2, .int v2), (3, .int v3)] [] I J := by
    intro n
    induction n with
    | zero => intro v3 J hi hn; exact absurd hn (Nat.not_lt_zero _)
    | succ n ih =>
      intro v3 J hi hn
      exact t_X10_around_2b hM C hX hR   (fun u3 J1 hk => ih u3 J1 hk.1 (Nat.lt_of_lt_of_le hk.2 (Nat.le_of_lt_succ hn))) (hs v3 J hi)
  exact key _ v3 J h0 (Nat.lt_succ_self _)
set_option maxRecDepth 100000 in
set_option maxHeartbeats 4000000 in
theorem m_X10_around {l : Launch} {D : va_G} {cy : Nat → ClassId} {V : gV} (hM : gModM V) {a1 : Int32} {a2 : Int32} {I : gI} {J : gL} {Po : Int64 → gL → Prop} (h : wp_X10_around a1 a2 I J Po) : gMet l D cy yX10_around cX10_around 5 (some .long) rm_X10_around V [.ref (V.2.1 200), .int a1, .int a2] I J (gPl V (fun x I' J' => I = I' ∧ Po x J')) := by
  refine gMet.of (by decide) (Nat.le_of_ble_eq_true rfl) (fun X hX C hR => ?_)
  have C : gC X cX10_around RX10 (some .long) 5 rm_X10_around := C
  show gJ X V 0 0 0 [(0, .ref (V.2.1 200)), (1, .int a1), (2, .int a2)] [] I J
  unfold wp_X10_around at h
  refine j_iconst (pc := 0) (v := 0) C dX10_around_0 (by decide) ?_
  refine j_istore_n (pc := 1) (lv' := [(3, .int (0 : Int32)), (0, .ref (V.2.1 200)), (1, .int a1), (2, .int a2)]) C dX10_around_1 rfl (by decide) rfl ?_
  refine gJ.sub [1, 2, 3, 0] rfl ?_
  exact t_X10_around_2 hM C hX hR   h
/-! TileRulesModel.fill(IIZ)J -/
abbrev rm_X10_fill : Room := { frames := 1, cells := 0, slots := 0, locals := 29 }
theorem ok_X10_fill : gOk yX10_fill cX10_fill 8 (some .long) 3 := ⟨wd_1125, wd_74, by decide +kernel⟩
def w_X10_fill_133  (Po : Int64 → gI → gL → Prop) (K85 : Int64 → Int32 → gI → gL → Prop) (v2 : Int32) (v4 : Int64) (v6 : Int32) (I : gI) (J : gL) : Prop :=
  ∀ n9 : Int32, n9 = v6 + 1 → K85 v4 n9 I J
def w_X10_fill_85b  (Po : Int64 → gI → gL → Prop) (K85 : Int64 → Int32 → gI → gL → Prop) (v2 : Int32) (v4 : Int64) (v6 : Int32) (I : gI) (J : gL) : Prop :=
  ((I 200 5) ≤ v6 → Po v4 I J) ∧ (¬ (I 200 5) ≤ v6 → vp_in v6 4096 ∧ ∀ n6 : Int32, n6 = (I 203 (v6).toNatClampNeg) → vp_in n6 10000 ∧ (¬ (I 207 (n6).toNatClampNeg) = 0 → w_X10_fill_133 Po K85 v2 v4 v6 I J) ∧ ((I 207 (n6).toNatClampNeg) = 0 → vp_in n6 10000 ∧ ∀ I11 : gI, I11 = gup I 207 (n6).toNatClampNeg (vp_nar .boolean (1 : Int32)) → wp_X10_around n6 v2 I11 J (fun r12 J13 => ∀ n14 : Int64, n14 = (v4 + r12) → w_X10_fill_133 Po K85 v2 n14 v6 I11 J13)))
def w_X10_fill_85  (Po : Int64 → gI → gL → Prop)  (v2 : Int32) (v4 : Int64) (v6 : Int32) (I : gI) (J : gL) : Prop :=
  ∃ (Inv : Int64 → Int32 → gI → gL → Prop) (mu : Int64 → Int32 → gI → gL → Nat), Inv v4 v6 I J ∧ ∀ (v4 : Int64) (v6 : Int32) (I : gI) (J : gL), Inv v4 v6 I J → w_X10_fill_85b  Po  (fun u4 u6 I1 J1 => Inv u4 u6 I1 J1 ∧ mu u4 u6 I1 J1 < mu v4 v6 I J) v2 v4 v6 I J
def w_X10_fill_60b  (Po : Int64 → gI → gL → Prop) (K60 : Int32 → gI → Prop) (v2 : Int32) (v4 : Int64) (v6 : Int32) (I : gI) (J : gL) : Prop :=
  ((10000 : Int32) ≤ v6 → w_X10_fill_85 Po v2 v4 (0 : Int32) I J) ∧ (¬ (10000 : Int32) ≤ v6 → vp_in v6 10000 ∧ ∀ I16 : gI, I16 = gup I 207 (v6).toNatClampNeg (vp_nar .boolean (0 : Int32)) → ∀ n17 : Int32, n17 = v6 + 1 → K60 n17 I16)
def w_X10_fill_60  (Po : Int64 → gI → gL → Prop)  (v2 : Int32) (v4 : Int64) (v6 : Int32) (I : gI) (J : gL) : Prop :=
  ∃ (Inv : Int32 → gI → Prop) (mu : Int32 → gI → Nat), Inv v6 I ∧ ∀ (v6 : Int32) (I : gI), Inv v6 I → w_X10_fill_60b  Po  (fun u6 I1 => Inv u6 I1 ∧ mu u6 I1 < mu v6 I) v2 v4 v6 I J
def w_X10_fill_22b  (Po : Int64 → gI → gL → Prop) (K22 : Int64 → Int32 → Prop) (v2 : Int32) (v4 : Int64) (v6 : Int32) (I : gI) (J : gL) : Prop :=
  ((10000 : Int32) ≤ v6 → Po v4 I J) ∧ (¬ (10000 : Int32) ≤ v6 → vp_in (((10000 : Int32) * v2) + v6) 50000 ∧ ∀ n21 : Int64, n21 = (v4 + (J 206 ((((10000 : Int32) * v2) + v6)).toNatClampNeg)) → ∀ n22 : Int32, n22 = v6 + 1 → K22 n21 n22)
def w_X10_fill_22  (Po : Int64 → gI → gL → Prop)  (v2 : Int32) (v4 : Int64) (v6 : Int32) (I : gI) (J : gL) : Prop :=
  ∃ (Inv : Int64 → Int32 → Prop) (mu : Int64 → Int32 → Nat), Inv v4 v6 ∧ ∀ (v4 : Int64) (v6 : Int32), Inv v4 v6 → w_X10_fill_22b  Po  (fun u4 u6 => Inv u4 u6 ∧ mu u4 u6 < mu v4 v6) v2 v4 v6 I J
def wp_X10_fill (a1 : Int32) (a2 : Int32) (a3 : Int32) (I : gI) (J : gL) (Po : Int64 → gI → gL → Prop) : Prop :=
  wp_X10_layRows a1 a3 I (fun I1 => (¬ a3 = 0 → w_X10_fill_60 Po a2 (0 : Int64) (0 : Int32) I1 J) ∧ (a3 = 0 → wp_X10_tellWays a2 (-1 : Int32) I1 J (fun J18 => w_X10_fill_22 Po a2 (0 : Int64) (0 : Int32) I1 J18)))
set_option maxRecDepth 100000 in
set_option maxHeartbeats 4000000 in
theorem t_X10_fill_133 {X : gX} {l : Launch} {D : va_G} {cy : Nat → ClassId} {nm : String} {V : gV} (hM : gModM V) (C : gC X cX10_fill RX10 (some .long) 8 rm_X10_fill) (hX : gIs X l D cy nm) {I : gI} {J : gL} {Po : Int64 → gI → gL → Prop} (hR : gR X (gPl V (fun x I' J' => Po x I' J'))) {v2 : Int32} {v4 : Int64} {v6 : Int32} {K85 : Int64 → Int32 → gI → gL → Prop} (hK85 : ∀ (y4 : Int64) (y6 : Int32) (I1 : gI) (J1 : gL), K85 y4 y6 I1 J1 → gJ X V 0 0 85 [(0, .ref (V.2.1 200)), (2, .int v2), (4, .long y4), (6, .int y6)] [] I1 J1) (h : w_X10_fill_133 Po K85 v2 v4 v6 I J) : gJ X V 0 0 133 [(0, .ref (V.2.1 200)), (2, .int v2), (4, .long v4), (6, .int v6)] [] I J := by
  unfold w_X10_fill_133 at h
  obtain ⟨n9, en9⟩ : ∃ z : Int32, z = v6 + 1 := ⟨_, rfl⟩
  have h := h n9 en9
  refine j_iinc (pc := 133) (v := n9) (lv' := [(6, .int n9), (0, .ref (V.2.1 200)), (2, .int v2), (4, .long v4)]) C dX10_fill_133 3 rfl (by rw [en9]; rfl) (by decide) rfl ?_
  refine j_goto (pc := 136) (tgt := 85) C dX10_fill_136 (by decide) ?_
  refine gJ.sub [1, 2, 3, 0] rfl ?_
  exact hK85 _ _ _ _ h
set_option maxRecDepth 100000 in
set_option maxHeartbeats 4000000 in
theorem t_X10_fill_85b {X : gX} {l : Launch} {D : va_G} {cy : Nat → ClassId} {nm : String} {V : gV} (hM : gModM V) (C : gC X cX10_fill RX10 (some .long) 8 rm_X10_fill) (hX : gIs X l D cy nm) {I : gI} {J : gL} {Po : Int64 → gI → gL → Prop} (hR : gR X (gPl V (fun x I' J' => Po x I' J'))) {v2 : Int32} {v4 : Int64} {v6 : Int32} {K85 : Int64 → Int32 → gI → gL → Prop} (hK85 : ∀ (y4 : Int64) (y6 : Int32) (I1 : gI) (J1 : gL), K85 y4 y6 I1 J1 → gJ X V 0 0 85 [(0, .ref (V.2.1 200)), (2, .int v2), (4, .long y4), (6, .int y6)] [] I1 J1) (h : w_X10_fill_85b Po K85 v2 v4 v6 I J) : gJ X V 0 0 85 [(0, .ref (V.2.1 200)), (2, .int v2), (4, .long v4), (6, .int v6)] [] I J := by
  unfold w_X10_fill_85b at h
  refine j_iload (pc := 85) C dX10_fill_85 3 rfl ?_
  refine j_aload_n (pc := 87) C dX10_fill_87 rfl 0 rfl ?_
  refine j_getI (pc := 88) C 200 5 (c_200 hM).1 (c_200 hM).2 rfl rfl (by decide) inw_X10 wd_971 dX10_fill_88 ?_
  refine j_icmp_ge (pc := 91) (tgt := 139) C dX10_fill_91 (by decide) (fun c4 => ?_) (fun c4 => ?_)
  · have h := h.1 c4
    refine j_lload (pc := 139) C dX10_fill_139 2 rfl ?_
    exact j_lret (pc := 141) C hR (Nat.zero_le _) (Nat.zero_le _) dX10_fill_141 ⟨_, rfl, rfl, h⟩
  · have h := h.2 c4
    refine j_aload_n (pc := 94) C dX10_fill_94 rfl 0 rfl ?_
    refine j_getR (pc := 95) C 200 3 203 (c_200 hM).1 (c_200 hM).2 rfl rfl (by decide) inw_X10 wd_969 dX10_fill_95 ?_
    refine j_iload (pc := 98) C dX10_fill_98 3 rfl ?_
    obtain ⟨g5, h⟩ := h
    refine j_iald (pc := 100) C 203 (c_203 hM).1 (c_203 hM).2 g5 dX10_fill_100 ?_
    refine gJ.topi (fun n6 en6 => ?_)
    have h := h n6 en6
    refine j_istore (pc := 101) (lv' := [(7, .int n6), (0, .ref (V.2.1 200)), (2, .int v2), (4, .long v4), (6, .int v6)]) C dX10_fill_101 (by decide) rfl ?_
    refine j_aload_n (pc := 103) C dX10_fill_103 rfl 1 rfl ?_
    refine j_getR (pc := 104) C 200 8 207 (c_200 hM).1 (c_200 hM).2 rfl rfl (by decide) inw_X10 wd_974 dX10_fill_104 ?_
    refine j_iload (pc := 107) C dX10_fill_107 0 rfl ?_
    obtain ⟨g7, h⟩ := h
    refine j_zald (pc := 109) C 207 (c_207 hM).1 (c_207 hM).2 g7 dX10_fill_109 ?_
    refine j_if_ne (pc := 110) (tgt := 133) C dX10_fill_110 (by decide) (fun c8 => ?_) (fun c8 => ?_)
    · have h := h.1 c8
      refine gJ.sub [1, 2, 3, 4] rfl ?_
      exact t_X10_fill_133 hM C hX hR  hK85 h
    · have h := h.2 c8
      refine j_aload_n (pc := 113) C dX10_fill_113 rfl 1 rfl ?_
      refine j_getR (pc := 114) C 200 8 207 (c_200 hM).1 (c_200 hM).2 rfl rfl (by decide) inw_X10 wd_974 dX10_fill_114 ?_
      refine j_iload (pc := 117) C dX10_fill_117 0 rfl ?_
      refine j_iconst (pc := 119) (v := 1) C dX10_fill_119 (by decide) ?_
      obtain ⟨g10, h⟩ := h
      refine j_zast (pc := 120) C 207 (c_207 hM).1 (c_207 hM).2 g10 dX10_fill_120 ?_
      refine gJ.nmI (fun I11 eI11 => ?_)
      have h := h I11 eI11
      refine j_lload (pc := 121) C dX10_fill_121 3 rfl ?_
      refine j_aload_n (pc := 123) C dX10_fill_123 rfl 1 rfl ?_
      refine j_iload (pc := 124) C dX10_fill_124 0 rfl ?_
      refine j_iload_n (pc := 126) C dX10_fill_126 rfl 2 rfl ?_
      refine j_callV (pc := 127) (As := [.int n6, .int v2]) (st := [.long v4]) C hX 200 (m_X10_around hM  h) (c_200 hM).1 (c_200 hM).2 rfl ok_X10_around wd_1134 wd_1136 wd_48 ⟨by decide, by decide⟩ rfl rfl (Nat.le_of_ble_eq_true rfl) ⟨Nat.le_refl 0, Nat.le_refl 0⟩ dX10_fill_127 (fun r V1 I1 J13 hp => ?_)
      obtain ⟨r12, rfl, rfl, rfl, h⟩ := hp
      show gJ X V 0 0 130 _ [.long r12, .long v4] _ _
      refine j_ladd (pc := 130) C dX10_fill_130 ?_
      refine gJ.topl (fun n14 en14 => ?_)
      have h := h n14 en14
      refine j_lstore (pc := 131) (lv' := [(4, .long n14), (7, .int n6), (0, .ref (V.2.1 200)), (2, .int v2), (6, .int v6)]) C dX10_fill_131 (by decide) rfl ?_
      refine gJ.sub [2, 3, 0, 4] rfl ?_
      exact t_X10_fill_133 hM C hX hR  hK85 h
set_option maxRecDepth 100000 in
set_option maxHeartbeats 4000000 in
theorem t_X10_fill_85 {X : gX} {l : Launch} {D : va_G} {cy : Nat → ClassId} {nm : String} {V : gV} (hM : gModM V) (C : gC X cX10_fill RX10 (some .long) 8 rm_X10_fill) (hX : gIs X l D cy nm) {I : gI} {J : gL} {Po : Int64 → gI → gL → Prop} (hR : gR X (gPl V (fun x I' J' => Po x I' J'))) {v2 : Int32} {v4 : Int64} {v6 : Int32} (h : w_X10_fill_85 Po v2 v4 v6 I J) : gJ X V 0 0 85 [(0, .ref (V.2.1 200)), (2, .int v2), (4, .long v4), (6, .int v6)] [] I J := by
  unfold w_X10_fill_85 at h
  obtain ⟨Inv, mu, h0, hs⟩ := h
  have key : ∀ (n : Nat) (v4 : Int64) (v6 : Int32) (I : gI) (J : gL), Inv v4 v6 I J → mu v4 v6 I J < n → gJ X V 0 0 85 [(0, .ref (V.2.1 200)), (2, .int v2), (4, .long v4), (6, .int v6)] [] I J := by
    intro n
    induction n with
    | zero => intro v4 v6 I J hi hn; exact absurd hn (Nat.not_lt_zero _)
    | succ n ih =>
      intro v4 v6 I J hi hn
      exact t_X10_fill_85b hM C hX hR   (fun u4 u6 I1 J1 hk => ih u4 u6 I1 J1 hk.1 (Nat.lt_of_lt_of_le hk.2 (Nat.le_of_lt_succ hn))) (hs v4 v6 I J hi)
  exact key _ v4 v6 I J h0 (Nat.lt_succ_self _)
set_option maxRecDepth 100000 in
set_option maxHeartbeats 4000000 in
theorem t_X10_fill_60b {X : gX} {l : Launch} {D : va_G} {cy : Nat → ClassId} {nm : String} {V : gV} (hM : gModM V) (C : gC X cX10_fill RX10 (some .long) 8 rm_X10_fill) (hX : gIs X l D cy nm) {I : gI} {J : gL} {Po : Int64 → gI → gL → Prop} (hR : gR X (gPl V (fun x I' J' => Po x I' J'))) {v2 : Int32} {v4 : Int64} {v6 : Int32} {K60 : Int32 → gI → Prop} (hK60 : ∀ (y6 : Int32) (I1 : gI), K60 y6 I1 → gJ X V 0 0 60 [(0, .ref (V.2.1 200)), (2, .int v2), (4, .long v4), (6, .int y6)] [] I1 J) (h : w_X10_fill_60b Po K60 v2 v4 v6 I J) : gJ X V 0 0 60 [(0, .ref (V.2.1 200)), (2, .int v2), (4, .long v4), (6, .int v6)] [] I J := by
  unfold w_X10_fill_60b at h
  refine j_iload (pc := 60) C dX10_fill_60 3 rfl ?_
  refine j_sipush (pc := 62) (v := 10000) C dX10_fill_62 (by decide) ?_
  refine j_icmp_ge (pc := 65) (tgt := 82) C dX10_fill_65 (by decide) (fun c3 => ?_) (fun c3 => ?_)
  · have h := h.1 c3
    refine j_iconst (pc := 82) (v := 0) C dX10_fill_82 (by decide) ?_
    refine j_istore (pc := 83) (lv' := [(6, .int (0 : Int32)), (0, .ref (V.2.1 200)), (2, .int v2), (4, .long v4)]) C dX10_fill_83 (by decide) rfl ?_
    refine gJ.sub [1, 2, 3, 0] rfl ?_
    exact t_X10_fill_85 hM C hX hR   h
  · have h := h.2 c3
    refine j_aload_n (pc := 68) C dX10_fill_68 rfl 0 rfl ?_
    refine j_getR (pc := 69) C 200 8 207 (c_200 hM).1 (c_200 hM).2 rfl rfl (by decide) inw_X10 wd_974 dX10_fill_69 ?_
    refine j_iload (pc := 72) C dX10_fill_72 3 rfl ?_
    refine j_iconst (pc := 74) (v := 0) C dX10_fill_74 (by decide) ?_
    obtain ⟨g15, h⟩ := h
    refine j_zast (pc := 75) C 207 (c_207 hM).1 (c_207 hM).2 g15 dX10_fill_75 ?_
    refine gJ.nmI (fun I16 eI16 => ?_)
    have h := h I16 eI16
    obtain ⟨n17, en17⟩ : ∃ z : Int32, z = v6 + 1 := ⟨_, rfl⟩
    have h := h n17 en17
    refine j_iinc (pc := 76) (v := n17) (lv' := [(6, .int n17), (0, .ref (V.2.1 200)), (2, .int v2), (4, .long v4)]) C dX10_fill_76 3 rfl (by rw [en17]; rfl) (by decide) rfl ?_
    refine j_goto (pc := 79) (tgt := 60) C dX10_fill_79 (by decide) ?_
    refine gJ.sub [1, 2, 3, 0] rfl ?_
    exact hK60 _ _ h
set_option maxRecDepth 100000 in
set_option maxHeartbeats 4000000 in
theorem t_X10_fill_60 {X : gX} {l : Launch} {D : va_G} {cy : Nat → ClassId} {nm : String} {V : gV} (hM : gModM V) (C : gC X cX10_fill RX10 (some .long) 8 rm_X10_fill) (hX : gIs X l D cy nm) {I : gI} {J : gL} {Po : Int64 → gI → gL → Prop} (hR : gR X (gPl V (fun x I' J' => Po x I' J'))) {v2 : Int32} {v4 : Int64} {v6 : Int32} (h : w_X10_fill_60 Po v2 v4 v6 I J) : gJ X V 0 0 60 [(0, .ref (V.2.1 200)), (2, .int v2), (4, .long v4), (6, .int v6)] [] I J := by
  unfold w_X10_fill_60 at h
  obtain ⟨Inv, mu, h0, hs⟩ := h
  have key : ∀ (n : Nat) (v6 : Int32) (I : gI), Inv v6 I → mu v6 I < n → gJ X V 0 0 60 [(0, .ref (V.2.1 200)), (2, .int v2), (4, .long v4), (6, .int v6)] [] I J := by
    intro n
    induction n with
    | zero => intro v6 I hi hn; exact absurd hn (Nat.not_lt_zero _)
    | succ n ih =>
      intro v6 I hi hn
      exact t_X10_fill_60b hM C hX hR   (fun u6 I1 hk => ih u6 I1 hk.1 (Nat.lt_of_lt_of_le hk.2 (Nat.le_of_lt_succ hn))) (hs v6 I hi)
  exact key _ v6 I h0 (Nat.lt_succ_self _)
set_option maxRecDepth 100000 in
set_option maxHeartbeats 4000000 in
theorem t_X10_fill_22b {X : gX} {l : Launch} {D : va_G} {cy : Nat → ClassId} {nm : String} {V : gV} (hM : gModM V) (C : gC X cX10_fill RX10 (some .long) 8 rm_X10_fill) (hX : gIs X l D cy nm) {I : gI} {J : gL} {Po : Int64 → gI → gL → Prop} (hR : gR X (gPl V (fun x I' J' => Po x I' J'))) {v2 : Int32} {v4 : Int64} {v6 : Int32} {K22 : Int64 → Int32 → Prop} (hK22 : ∀ (y4 : Int64) (y6 : Int32), K22 y4 y6 → gJ X V 0 0 22 [(0, .ref (V.2.1 200)), (2, .int v2), (4, .long y4), (6, .int y6)] [] I J) (h : w_X10_fill_22b Po K22 v2 v4 v6 I J) : gJ X V 0 0 22 [(0, .ref (V.2.1 200)), (2, .int v2), (4, .long v4), (6, .int v6)] [] I J := by
  unfold w_X10_fill_22b at h
  refine j_iload (pc := 22) C dX10_fill_22 3 rfl ?_
  refine j_sipush (pc := 24) (v := 10000) C dX10_fill_24 (by decide) ?_
  refine j_icmp_ge (pc := 27) (tgt := 54) C dX10_fill_27 (by decide) (fun c19 => ?_) (fun c19 => ?_)
  · have h := h.1 c19
    refine j_lload (pc := 54) C dX10_fill_54 2 rfl ?_
    exact j_lret (pc := 56) C hR (Nat.zero_le _) (Nat.zero_le _) dX10_fill_56 ⟨_, rfl, rfl, h⟩
  · have h := h.2 c19
    refine j_lload (pc := 30) C dX10_fill_30 2 rfl ?_
    refine j_aload_n (pc := 32) C dX10_fill_32 rfl 0 rfl ?_
    refine j_getR (pc := 33) C 200 7 206 (c_200 hM).1 (c_200 hM).2 rfl rfl (by decide) inw_X10 wd_973 dX10_fill_33 ?_
    refine j_sipush (pc := 36) (v := 10000) C dX10_fill_36 (by decide) ?_
    refine j_iload_n (pc := 39) C dX10_fill_39 rfl 1 rfl ?_
    refine j_imul (pc := 40) C dX10_fill_40 ?_
    refine j_iload (pc := 41) C dX10_fill_41 3 rfl ?_
    refine j_iadd (pc := 43) C dX10_fill_43 ?_
    obtain ⟨g20, h⟩ := h
    refine j_lald (pc := 44) C 206 (c_206 hM).1 (c_206 hM).2 g20 dX10_fill_44 ?_
    refine j_ladd (pc := 45) C dX10_fill_45 ?_
    refine gJ.topl (fun n21 en21 => ?_)
    have h := h n21 en21
    refine j_lstore (pc := 46) (lv' := [(4, .long n21), (0, .ref (V.2.1 200)), (2, .int v2), (6, .int v6)]) C dX10_fill_46 (by decide) rfl ?_
    obtain ⟨n22, en22⟩ : ∃ z : Int32, z = v6 + 1 := ⟨_, rfl⟩
    have h := h n22 en22
    refine j_iinc (pc := 48) (v := n22) (lv' := [(6, .int n22), (4, .long n21), (0, .ref (V.2.1 200)), (2, .int v2)]) C dX10_fill_48 3 rfl (by rw [en22]; rfl) (by decide) rfl ?_
    refine j_goto (pc := 51) (tgt := 22) C dX10_fill_51 (by decide) ?_
    refine gJ.sub [2, 3, 1, 0] rfl ?_
    exact hK22 _ _ h
set_option maxRecDepth 100000 in
set_option maxHeartbeats 4000000 in
theorem t_X10_fill_22 {X : gX} {l : Launch} {D : va_G} {cy : Nat → ClassId} {nm : String} {V : gV} (hM : gModM V) (C : gC X cX10_fill RX10 (some .long) 8 rm_X10_fill) (hX : gIs X l D cy nm) {I : gI} {J : gL} {Po : Int64 → gI → gL → Prop} (hR : gR X (gPl V (fun x I' J' => Po x I' J'))) {v2 : Int32} {v4 : Int64} {v6 : Int32} (h : w_X10_fill_22 Po v2 v4 v6 I J) : gJ X V 0 0 22 [(0, .ref (V.2.1 200)), (2, .int v2), (4, .long v4), (6, .int v6)] [] I J := by
  unfold w_X10_fill_22 at h
  obtain ⟨Inv, mu, h0, hs⟩ := h
  have key : ∀ (n : Nat) (v4 : Int64) (v6 : Int32), Inv v4 v6 → mu v4 v6 < n → gJ X V 0 0 22 [(0, .ref (V.2.1 200)), (2, .int v2), (4, .long v4), (6, .int v6)] [] I J := by
    intro n
    induction n with
    | zero => intro v4 v6 hi hn; exact absurd hn (Nat.not_lt_zero _)
    | succ n ih =>
      intro v4 v6 hi hn
      exact t_X10_fill_22b hM C hX hR   (fun u4 u6 hk => ih u4 u6 hk.1 (Nat.lt_of_lt_of_le hk.2 (Nat.le_of_lt_succ hn))) (hs v4 v6 hi)
  exact key _ v4 v6 h0 (Nat.lt_succ_self _)
set_option maxRecDepth 100000 in
set_option maxHeartbeats 4000000 in
theorem m_X10_fill {l : Launch} {D : va_G} {cy : Nat → ClassId} {V : gV} (hM : gModM V) {a1 : Int32} {a2 : Int32} {a3 : Int32} {I : gI} {J : gL} {Po : Int64 → gI → gL → Prop} (h : wp_X10_fill a1 a2 a3 I J Po) : gMet l D cy yX10_fill cX10_fill 8 (some .long) rm_X10_fill V [.ref (V.2.1 200), .int a1, .int a2, .int a3] I J (gPl V (fun x I' J' => Po x I' J')) := by
  refine gMet.of (by decide) (Nat.le_of_ble_eq_true rfl) (fun X hX C hR => ?_)
  have C : gC X cX10_fill RX10 (some .long) 8 rm_X10_fill := C
  show gJ X V 0 0 0 [(0, .ref (V.2.1 200)), (1, .int a1), (2, .int a2), (3, .int a3)] [] I J
  unfold wp_X10_fill at h
  refine j_aload_n (pc := 0) C dX10_fill_0 rfl 0 rfl ?_
  refine j_iload_n (pc := 1) C dX10_fill_1 rfl 1 rfl ?_
  refine j_iload_n (pc := 2) C dX10_fill_2 rfl 3 rfl ?_
  refine j_callV (pc := 3) (As := [.int a1, .int a3]) (st := []) C hX 200 (m_X10_layRows hM  h) (c_200 hM).1 (c_200 hM).2 rfl ok_X10_layRows wd_1126 wd_1128 wd_46 ⟨by decide, by decide⟩ rfl rfl (Nat.le_of_ble_eq_true rfl) ⟨Nat.le_refl 0, Nat.le_refl 0⟩ dX10_fill_3 (fun r V1 I1 J1 hp => ?_)
  obtain ⟨rfl, rfl, rfl, h⟩ := hp
  show gJ X V 0 0 6 _ [] _ _
  refine j_lconst (pc := 6) (v := 0) C dX10_fill_6 (by decide) ?_
  refine j_lstore (pc := 7) (lv' := [(4, .long (0 : Int64)), (0, .ref (V.2.1 200)), (1, .int a1), (2, .int a2), (3, .int a3)]) C dX10_fill_7 (by decide) rfl ?_
  refine j_iload_n (pc := 9) C dX10_fill_9 rfl 4 rfl ?_
  refine j_if_ne (pc := 10) (tgt := 57) C dX10_fill_10 (by decide) (fun c2 => ?_) (fun c2 => ?_)
  · have h := h.1 c2
    refine j_iconst (pc := 57) (v := 0) C dX10_fill_57 (by decide) ?_
    refine j_istore (pc := 58) (lv' := [(6, .int (0 : Int32)), (4, .long (0 : Int64)), (0, .ref (V.2.1 200)), (1, .int a1), (2, .int a2), (3, .int a3)]) C dX10_fill_58 (by decide) rfl ?_
    refine gJ.sub [2, 4, 1, 0] rfl ?_
    exact t_X10_fill_60 hM C hX hR   h
  · have h := h.2 c2
    refine j_aload_n (pc := 13) C dX10_fill_13 rfl 1 rfl ?_
    refine j_iload_n (pc := 14) C dX10_fill_14 rfl 3 rfl ?_
    refine j_iconst (pc := 15) (v := (-1)) C dX10_fill_15 (by decide) ?_
    refine j_callV (pc := 16) (As := [.int a2, .int (-1 : Int32)]) (st := []) C hX 200 (m_X10_tellWays hM  h) (c_200 hM).1 (c_200 hM).2 rfl ok_X10_tellWays wd_1130 wd_1132 wd_47 ⟨by decide, by decide⟩ rfl rfl (Nat.le_of_ble_eq_true rfl) ⟨Nat.le_refl 0, Nat.le_refl 0⟩ dX10_fill_16 (fun r V1 I1 J18 hp => ?_)
    obtain ⟨rfl, rfl, rfl, h⟩ := hp
    show gJ X V 0 0 19 _ [] _ _
    refine j_iconst (pc := 19) (v := 0) C dX10_fill_19 (by decide) ?_
    refine j_istore (pc := 20) (lv' := [(6, .int (0 : Int32)), (4, .long (0 : Int64)), (0, .ref (V.2.1 200)), (1, .int a1), (2, .int a2), (3, .int a3)]) C dX10_fill_20 (by decide) rfl ?_
    refine gJ.sub [2, 4, 1, 0] rfl ?_
    exact t_X10_fill_22 hM C hX hR   h
/-! TileRulesModel.fillings(IIZ)J -/
abbrev rm_X10_fillings : Room := { frames := 2, cells := 0, slots := 0, locals := 56 }
theorem ok_X10_fillings : gOk yX10_fillings cX10_fillings 4 (some .long) 3 := ⟨wd_1118, wd_74, by decide +kernel⟩
def wp_X10_fillings (a1 : Int32) (a2 : Int32) (a3 : Int32) (I : gI) (J : gL) (Po : Int64 → gI → gL → Prop) : Prop :=
  wp_X10_isSize a1 a2 (fun r1 => (r1 = 0 → Po (-2 : Int64) I J) ∧ (¬ r1 = 0 → wp_X10_fill a1 a2 a3 I J (fun r3 I4 J5 => Po r3 I4 J5)))
set_option maxRecDepth 100000 in
set_option maxHeartbeats 4000000 in
theorem m_X10_fillings {l : Launch} {D : va_G} {cy : Nat → ClassId} {V : gV} (hM : gModM V) {a1 : Int32} {a2 : Int32} {a3 : Int32} {I : gI} {J : gL} {Po : Int64 → gI → gL → Prop} (h : wp_X10_fillings a1 a2 a3 I J Po) : gMet l D cy yX10_fillings cX10_fillings 4 (some .long) rm_X10_fillings V [.ref (V.2.1 200), .int a1, .int a2, .int a3] I J (gPl V (fun x I' J' => Po x I' J')) := by
  refine gMet.of (by decide) (Nat.le_of_ble_eq_true rfl) (fun X hX C hR => ?_)
  have C : gC X cX10_fillings RX10 (some .long) 4 rm_X10_fillings := C
  show gJ X V 0 0 0 [(0, .ref (V.2.1 200)), (1, .int a1), (2, .int a2), (3, .int a3)] [] I J
  unfold wp_X10_fillings at h
  refine j_iload_n (pc := 0) C dX10_fillings_0 rfl 1 rfl ?_
  refine j_iload_n (pc := 1) C dX10_fillings_1 rfl 2 rfl ?_
  refine j_callS (pc := 2) (As := [.int a1, .int a2]) (st := []) C hX (m_X10_isSize   h) ok_X10_isSize wd_1119 wd_1120 ⟨by decide, by decide⟩ rfl rfl (Nat.le_of_ble_eq_true rfl) ⟨Nat.le_refl 0, Nat.le_refl 0⟩ dX10_fillings_2 (fun r V1 I1 J1 hp => ?_)
  obtain ⟨r1, rfl, rfl, rfl, rfl, h⟩ := hp
  show gJ X V 0 0 5 _ [.int r1] _ _
  refine j_if_eq (pc := 5) (tgt := 18) C dX10_fillings_5 (by decide) (fun c2 => ?_) (fun c2 => ?_)
  · have h := h.1 c2
    refine j_ldc2 (pc := 18) (v := (-2)) C dX10_fillings_18 wd_1138 ?_
    exact j_lret (pc := 21) C hR (Nat.zero_le _) (Nat.zero_le _) dX10_fillings_21 ⟨_, rfl, rfl, h⟩
  · have h := h.2 c2
    refine j_aload_n (pc := 8) C dX10_fillings_8 rfl 0 rfl ?_
    refine j_iload_n (pc := 9) C dX10_fillings_9 rfl 1 rfl ?_
    refine j_iload_n (pc := 10) C dX10_fillings_10 rfl 2 rfl ?_
    refine j_iload_n (pc := 11) C dX10_fillings_11 rfl 3 rfl ?_
    refine j_callV (pc := 12) (As := [.int a1, .int a2, .int a3]) (st := []) C hX 200 (m_X10_fill hM  h) (c_200 hM).1 (c_200 hM).2 rfl ok_X10_fill wd_1122 wd_1124 wd_45 ⟨by decide, by decide⟩ rfl rfl (Nat.le_of_ble_eq_true rfl) ⟨Nat.le_refl 0, Nat.le_refl 0⟩ dX10_fillings_12 (fun r V1 I4 J5 hp => ?_)
    obtain ⟨r3, rfl, rfl, h⟩ := hp
    show gJ X V 0 0 15 _ [.long r3] _ _
    refine j_goto (pc := 15) (tgt := 21) C dX10_fillings_15 (by decide) ?_
    exact j_lret (pc := 21) C hR (Nat.zero_le _) (Nat.zero_le _) dX10_fillings_21 ⟨_, rfl, rfl, h⟩
/-! TileRulesModel.digit(III)I -/
abbrev rm_X10_digit : Room := { frames := 0, cells := 0, slots := 0, locals := 0 }
theorem ok_X10_digit : gOk yX10_digit cX10_digit 6 (some .int) 3 := ⟨wd_1146, wd_74, by decide +kernel⟩
def w_X10_digit_8b  (Po : Int32 → Prop) (K8 : Int32 → Int32 → Prop) (v3 : Int32) (v4 : Int32) (v5 : Int32) (I : gI) : Prop :=
  (v5 ≤ v3 → ¬ (I 200 0) = 0 ∧ Po (v4 - v4 / (I 200 0) * (I 200 0))) ∧ (¬ v5 ≤ v3 → ¬ (I 200 0) = 0 ∧ ∀ n5 : Int32, n5 = (v4 / (I 200 0)) → ∀ n6 : Int32, n6 = v5 + (-1) → K8 n5 n6)
def w_X10_digit_8  (Po : Int32 → Prop)  (v3 : Int32) (v4 : Int32) (v5 : Int32) (I : gI) : Prop :=
  ∃ (Inv : Int32 → Int32 → Prop) (mu : Int32 → Int32 → Nat), Inv v4 v5 ∧ ∀ (v4 : Int32) (v5 : Int32), Inv v4 v5 → w_X10_digit_8b  Po  (fun u4 u5 => Inv u4 u5 ∧ mu u4 u5 < mu v4 v5) v3 v4 v5 I
def wp_X10_digit (a1 : Int32) (a2 : Int32) (a3 : Int32) (I : gI) (Po : Int32 → Prop) : Prop :=
  ∀ n1 : Int32, n1 = (a2 - (1 : Int32)) → w_X10_digit_8 Po a3 a1 n1 I
set_option maxRecDepth 100000 in
set_option maxHeartbeats 4000000 in
theorem t_X10_digit_8b {X : gX} {l : Launch} {D : va_G} {cy : Nat → ClassId} {nm : String} {V : gV} (hM : gModM V) (C : gC X cX10_digit RX10 (some .int) 6 rm_X10_digit) (hX : gIs X l D cy nm) {I : gI} {J : gL} {Po : Int32 → Prop} (hR : gR X (gPi V (fun x I' J' => I = I' ∧ J = J' ∧ Po x))) {v3 : Int32} {v4 : Int32} {v5 : Int32} {K8 : Int32 → Int32 → Prop} (hK8 : ∀ (y4 : Int32) (y5 : Int32), K8 y4 y5 → gJ X V 0 0 8 [(0, .ref (V.2.1 200)), (3, .int v3), (4, .int y4), (5, .int y5)] [] I J) (h : w_X10_digit_8b Po K8 v3 v4 v5 I) : gJ X V 0 0 8 [(0, .ref (V.2.1 200)), (3, .int v3), (4, .int v4), (5, .int v5)] [] I J := by
  unfold w_X10_digit_8b at h
  refine j_iload (pc := 8) C dX10_digit_8 3 rfl ?_
  refine j_iload_n (pc := 10) C dX10_digit_10 rfl 1 rfl ?_
  refine j_icmp_le (pc := 11) (tgt := 29) C dX10_digit_11 (by decide) (fun c2 => ?_) (fun c2 => ?_)
  · have h := h.1 c2
    refine j_iload (pc := 29) C dX10_digit_29 2 rfl ?_
    refine j_aload_n (pc := 31) C dX10_digit_31 rfl 0 rfl ?_
    refine j_getI (pc := 32) C 200 0 (c_200 hM).1 (c_200 hM).2 rfl rfl (by decide) inw_X10 wd_966 dX10_digit_32 ?_
    obtain ⟨g3, h⟩ := h
    refine j_irem (pc := 35) C dX10_digit_35 g3 ?_
    exact j_iret (pc := 36) C hR (Nat.zero_le _) (Nat.zero_le _) dX10_digit_36 ⟨_, rfl, rfl, rfl, rfl, h⟩
  · have h := h.2 c2
    refine j_iload (pc := 14) C dX10_digit_14 2 rfl ?_
    refine j_aload_n (pc := 16) C dX10_digit_16 rfl 0 rfl ?_
    refine j_getI (pc := 17) C 200 0 (c_200 hM).1 (c_200 hM).2 rfl rfl (by decide) inw_X10 wd_966 dX10_digit_17 ?_
    obtain ⟨g4, h⟩ := h
    refine j_idiv (pc := 20) C dX10_digit_20 g4 ?_
    refine gJ.topi (fun n5 en5 => ?_)
    have h := h n5 en5
    refine j_istore (pc := 21) (lv' := [(4, .int n5), (0, .ref (V.2.1 200)), (3, .int v3), (5, .int v5)]) C dX10_digit_21 (by decide) rfl ?_
    obtain ⟨n6, en6⟩ : ∃ z : Int32, z = v5 + (-1) := ⟨_, rfl⟩
    have h := h n6 en6
    refine j_iinc (pc := 23) (v := n6) (lv' := [(5, .int n6), (4, .int n5), (0, .ref (V.2.1 200)), (3, .int v3)]) C dX10_digit_23 3 rfl (by rw [en6]; rfl) (by decide) rfl ?_
    refine j_goto (pc := 26) (tgt := 8) C dX10_digit_26 (by decide) ?_
    refine gJ.sub [2, 3, 1, 0] rfl ?_
    exact hK8 _ _ h
set_option maxRecDepth 100000 in
set_option maxHeartbeats 4000000 in
theorem t_X10_digit_8 {X : gX} {l : Launch} {D : va_G} {cy : Nat → ClassId} {nm : String} {V : gV} (hM : gModM V) (C : gC X cX10_digit RX10 (some .int) 6 rm_X10_digit) (hX : gIs X l D cy nm) {I : gI} {J : gL} {Po : Int32 → Prop} (hR : gR X (gPi V (fun x I' J' => I = I' ∧ J = J' ∧ Po x))) {v3 : Int32} {v4 : Int32} {v5 : Int32} (h : w_X10_digit_8 Po v3 v4 v5 I) : gJ X V 0 0 8 [(0, .ref (V.2.1 200)), (3, .int v3), (4, .int v4), (5, .int v5)] [] I J := by
  unfold w_X10_digit_8 at h
  obtain ⟨Inv, mu, h0, hs⟩ := h
  have key : ∀ (n : Nat) (v4 : Int32) (v5 : Int32), Inv v4 v5 → mu v4 v5 < n → gJ X V 0 0 8 [(0, .ref (V.2.1 200)), (3, .int v3), (4, .int v4), (5, .int v5)] [] I J := by
    intro n
    induction n with
    | zero => intro v4 v5 hi hn; exact absurd hn (Nat.not_lt_zero _)
    | succ n ih =>
      intro v4 v5 hi hn
      exact t_X10_digit_8b hM C hX hR   (fun u4 u5 hk => ih u4 u5 hk.1 (Nat.lt_of_lt_of_le hk.2 (Nat.le_of_lt_succ hn))) (hs v4 v5 hi)
  exact key _ v4 v5 h0 (Nat.lt_succ_self _)
set_option maxRecDepth 100000 in
set_option maxHeartbeats 4000000 in
theorem m_X10_digit {l : Launch} {D : va_G} {cy : Nat → ClassId} {V : gV} (hM : gModM V) {a1 : Int32} {a2 : Int32} {a3 : Int32} {I : gI} {J : gL} {Po : Int32 → Prop} (h : wp_X10_digit a1 a2 a3 I Po) : gMet l D cy yX10_digit cX10_digit 6 (some .int) rm_X10_digit V [.ref (V.2.1 200), .int a1, .int a2, .int a3] I J (gPi V (fun x I' J' => I = I' ∧ J = J' ∧ Po x)) := by
  refine gMet.of (by decide) (Nat.le_of_ble_eq_true rfl) (fun X hX C hR => ?_)
  have C : gC X cX10_digit RX10 (some .int) 6 rm_X10_digit := C
  show gJ X V 0 0 0 [(0, .ref (V.2.1 200)), (1, .int a1), (2, .int a2), (3, .int a3)] [] I J
  unfold wp_X10_digit at h
  refine j_iload_n (pc := 0) C dX10_digit_0 rfl 1 rfl ?_
  refine j_istore (pc := 1) (lv' := [(4, .int a1), (0, .ref (V.2.1 200)), (1, .int a1), (2, .int a2), (3, .int a3)]) C dX10_digit_1 (by decide) rfl ?_
  refine j_iload_n (pc := 3) C dX10_digit_3 rfl 3 rfl ?_
  refine j_iconst (pc := 4) (v := 1) C dX10_digit_4 (by decide) ?_
  refine j_isub (pc := 5) C dX10_digit_5 ?_
  refine gJ.topi (fun n1 en1 => ?_)
  have h := h n1 en1
  refine j_istore (pc := 6) (lv' := [(5, .int n1), (4, .int a1), (0, .ref (V.2.1 200)), (1, .int a1), (2, .int a2), (3, .int a3)]) C dX10_digit_6 (by decide) rfl ?_
  refine gJ.sub [2, 5, 1, 0] rfl ?_
  exact t_X10_digit_8 hM C hX hR   h
/-! TileRulesModel.laid(IIZII)I -/
abbrev rm_X10_laid : Room := { frames := 2, cells := 0, slots := 0, locals := 43 }
theorem ok_X10_laid : gOk yX10_laid cX10_laid 11 (some .int) 5 := ⟨wd_1142, wd_74, by decide +kernel⟩
def w_X10_laid_243  (Po : Int32 → gI → gL → Prop) (K188 : Int32 → Int32 → Prop) (K198 : Int32 → Prop) (v1 : Int32) (v2 : Int32) (v4 : Int32) (v5 : Int32) (v8 : Int32) (v9 : Int32) (v10 : Int32) (I : gI) (J : gL) : Prop :=
  ∀ n18 : Int32, n18 = v10 + 1 → K198 n18
def w_X10_laid_198b  (Po : Int32 → gI → gL → Prop) (K188 : Int32 → Int32 → Prop) (K198 : Int32 → Prop) (v1 : Int32) (v2 : Int32) (v4 : Int32) (v5 : Int32) (v8 : Int32) (v9 : Int32) (v10 : Int32) (I : gI) (J : gL) : Prop :=
  vp_in v10 4096 ∧ vp_in v8 4096 ∧ (¬ (I 203 (v10).toNatClampNeg) = (I 204 (v8).toNatClampNeg) → w_X10_laid_243 Po K188 K198 v1 v2 v4 v5 v8 v9 v10 I J) ∧ ((I 203 (v10).toNatClampNeg) = (I 204 (v8).toNatClampNeg) → vp_in v10 4096 ∧ vp_in (((10000 : Int32) * ((v2 - (1 : Int32)) - v9)) + (I 204 (v10).toNatClampNeg)) 50000 ∧ (¬ (lg_cmp (J 206 ((((10000 : Int32) * ((v2 - (1 : Int32)) - v9)) + (I 204 (v10).toNatClampNeg))).toNatClampNeg) (0 : Int64)) = 0 → ∀ n22 : Int32, n22 = v9 + 1 → K188 v10 n22) ∧ ((lg_cmp (J 206 ((((10000 : Int32) * ((v2 - (1 : Int32)) - v9)) + (I 204 (v10).toNatClampNeg))).toNatClampNeg) (0 : Int64)) = 0 → w_X10_laid_243 Po K188 K198 v1 v2 v4 v5 v8 v9 v10 I J))
def w_X10_laid_198  (Po : Int32 → gI → gL → Prop) (K188 : Int32 → Int32 → Prop) (v1 : Int32) (v2 : Int32) (v4 : Int32) (v5 : Int32) (v8 : Int32) (v9 : Int32) (v10 : Int32) (I : gI) (J : gL) : Prop :=
  ∃ (Inv : Int32 → Prop) (mu : Int32 → Nat), Inv v10 ∧ ∀ (v10 : Int32), Inv v10 → w_X10_laid_198b  Po K188 (fun u10 => Inv u10 ∧ mu u10 < mu v10) v1 v2 v4 v5 v8 v9 v10 I J
def w_X10_laid_188b  (Po : Int32 → gI → gL → Prop) (K188 : Int32 → Int32 → Prop) (v1 : Int32) (v2 : Int32) (v4 : Int32) (v5 : Int32) (v8 : Int32) (v9 : Int32) (I : gI) (J : gL) : Prop :=
  (v5 < v9 → vp_in v8 4096 ∧ wp_X10_digit (I 202 (v8).toNatClampNeg) v1 v4 I (fun r14 => Po r14 I J)) ∧ (¬ v5 < v9 → w_X10_laid_198 Po K188 v1 v2 v4 v5 v8 v9 (0 : Int32) I J)
def w_X10_laid_188  (Po : Int32 → gI → gL → Prop)  (v1 : Int32) (v2 : Int32) (v4 : Int32) (v5 : Int32) (v8 : Int32) (v9 : Int32) (I : gI) (J : gL) : Prop :=
  ∃ (Inv : Int32 → Int32 → Prop) (mu : Int32 → Int32 → Nat), Inv v8 v9 ∧ ∀ (v8 : Int32) (v9 : Int32), Inv v8 v9 → w_X10_laid_188b  Po  (fun u8 u9 => Inv u8 u9 ∧ mu u8 u9 < mu v8 v9) v1 v2 v4 v5 v8 v9 I J
def w_X10_laid_178  (Po : Int32 → gI → gL → Prop)  (v1 : Int32) (v2 : Int32) (v4 : Int32) (v5 : Int32) (v7 : Int32) (s0 : Int32) (s1 : Int32) (I : gI) (J : gL) : Prop :=
  wp_X10_tellWays s1 s0 I J (fun J11 => w_X10_laid_188 Po v1 v2 v4 v5 v7 (1 : Int32) I J11)
def w_X10_laid_151  (Po : Int32 → gI → gL → Prop)  (v1 : Int32) (v2 : Int32) (v3 : Int32) (v4 : Int32) (v5 : Int32) (v7 : Int32) (I : gI) (J : gL) : Prop :=
  (¬ v7 = (-1 : Int32) → (v3 = 0 → w_X10_laid_178 Po v1 v2 v4 v5 v7 (-1 : Int32) (v2 - (1 : Int32)) I J) ∧ (¬ v3 = 0 → vp_in v7 4096 ∧ w_X10_laid_178 Po v1 v2 v4 v5 v7 (I 203 (v7).toNatClampNeg) (v2 - (1 : Int32)) I J)) ∧ (v7 = (-1 : Int32) → Po (-1 : Int32) I J)
def w_X10_laid_143  (Po : Int32 → gI → gL → Prop) (K50 : Int32 → Int32 → Int32 → gL → Prop) (v1 : Int32) (v2 : Int32) (v3 : Int32) (v4 : Int32) (v5 : Int32) (v6 : Int32) (v8 : Int32) (s0 : Int32) (I : gI) (J : gL) : Prop :=
  ∀ n31 : Int32, n31 = v8 + 1 → K50 v6 s0 n31 J
def w_X10_laid_112  (Po : Int32 → gI → gL → Prop) (K50 : Int32 → Int32 → Int32 → gL → Prop) (v1 : Int32) (v2 : Int32) (v3 : Int32) (v4 : Int32) (v5 : Int32) (v6 : Int32) (v8 : Int32) (I : gI) (J : gL) : Prop :=
  vp_in v8 4096 ∧ vp_in (((10000 : Int32) * (v2 - (1 : Int32))) + (I 204 (v8).toNatClampNeg)) 50000 ∧ ((lg_cmp (J 206 ((((10000 : Int32) * (v2 - (1 : Int32))) + (I 204 (v8).toNatClampNeg))).toNatClampNeg) (0 : Int64)) ≤ 0 → w_X10_laid_143 Po K50 v1 v2 v3 v4 v5 v6 v8 (-1 : Int32) I J) ∧ (¬ (lg_cmp (J 206 ((((10000 : Int32) * (v2 - (1 : Int32))) + (I 204 (v8).toNatClampNeg))).toNatClampNeg) (0 : Int64)) ≤ 0 → w_X10_laid_143 Po K50 v1 v2 v3 v4 v5 v6 v8 v8 I J)
def w_X10_laid_101  (Po : Int32 → gI → gL → Prop) (K50 : Int32 → Int32 → Int32 → gL → Prop) (v1 : Int32) (v2 : Int32) (v3 : Int32) (v4 : Int32) (v5 : Int32) (v8 : Int32) (s0 : Int32) (I : gI) (J : gL) : Prop :=
  wp_X10_tellWays (v2 - (1 : Int32)) s0 I J (fun J27 => w_X10_laid_112 Po K50 v1 v2 v3 v4 v5 s0 v8 I J27)
def w_X10_laid_86  (Po : Int32 → gI → gL → Prop) (K50 : Int32 → Int32 → Int32 → gL → Prop) (v1 : Int32) (v2 : Int32) (v3 : Int32) (v4 : Int32) (v5 : Int32) (v8 : Int32) (I : gI) (J : gL) : Prop :=
  (v3 = 0 → w_X10_laid_101 Po K50 v1 v2 v3 v4 v5 v8 (-1 : Int32) I J) ∧ (¬ v3 = 0 → vp_in v8 4096 ∧ w_X10_laid_101 Po K50 v1 v2 v3 v4 v5 v8 (I 203 (v8).toNatClampNeg) I J)
def w_X10_laid_50b  (Po : Int32 → gI → gL → Prop) (K50 : Int32 → Int32 → Int32 → gL → Prop) (v1 : Int32) (v2 : Int32) (v3 : Int32) (v4 : Int32) (v5 : Int32) (v6 : Int32) (v7 : Int32) (v8 : Int32) (I : gI) (J : gL) : Prop :=
  ((I 200 5) ≤ v8 → w_X10_laid_151 Po v1 v2 v3 v4 v5 v7 I J) ∧ (¬ (I 200 5) ≤ v8 → (¬ v7 = (-1 : Int32) → w_X10_laid_151 Po v1 v2 v3 v4 v5 v7 I J) ∧ (v7 = (-1 : Int32) → (v8 = 0 → w_X10_laid_86 Po K50 v1 v2 v3 v4 v5 v8 I J) ∧ (¬ v8 = 0 → (v3 = 0 → w_X10_laid_112 Po K50 v1 v2 v3 v4 v5 v6 v8 I J) ∧ (¬ v3 = 0 → vp_in v8 4096 ∧ ((I 203 (v8).toNatClampNeg) = v6 → w_X10_laid_112 Po K50 v1 v2 v3 v4 v5 v6 v8 I J) ∧ (¬ (I 203 (v8).toNatClampNeg) = v6 → w_X10_laid_86 Po K50 v1 v2 v3 v4 v5 v8 I J)))))
def w_X10_laid_50  (Po : Int32 → gI → gL → Prop)  (v1 : Int32) (v2 : Int32) (v3 : Int32) (v4 : Int32) (v5 : Int32) (v6 : Int32) (v7 : Int32) (v8 : Int32) (I : gI) (J : gL) : Prop :=
  ∃ (Inv : Int32 → Int32 → Int32 → gL → Prop) (mu : Int32 → Int32 → Int32 → gL → Nat), Inv v6 v7 v8 J ∧ ∀ (v6 : Int32) (v7 : Int32) (v8 : Int32) (J : gL), Inv v6 v7 v8 J → w_X10_laid_50b  Po  (fun u6 u7 u8 J1 => Inv u6 u7 u8 J1 ∧ mu u6 u7 u8 J1 < mu v6 v7 v8 J) v1 v2 v3 v4 v5 v6 v7 v8 I J
def wp_X10_laid (a1 : Int32) (a2 : Int32) (a3 : Int32) (a4 : Int32) (a5 : Int32) (I : gI) (J : gL) (Po : Int32 → gI → gL → Prop) : Prop :=
  wp_X10_isSize a1 a2 (fun r1 => (r1 = 0 → Po (-2 : Int32) I J) ∧ (¬ r1 = 0 → wp_X10_isIn a4 (0 : Int32) (a1 - (1 : Int32)) (fun r3 => (r3 = 0 → Po (-2 : Int32) I J) ∧ (¬ r3 = 0 → wp_X10_isIn a5 (0 : Int32) (a2 - (1 : Int32)) (fun r5 => (¬ r5 = 0 → wp_X10_layRows a1 a3 I (fun I7 => w_X10_laid_50 Po a1 a2 a3 a4 a5 (-1 : Int32) (-1 : Int32) (0 : Int32) I7 J)) ∧ (r5 = 0 → Po (-2 : Int32) I J))))))
set_option maxRecDepth 100000 in
set_option maxHeartbeats 4000000 in
theorem t_X10_laid_243 {X : gX} {l : Launch} {D : va_G} {cy : Nat → ClassId} {nm : String} {V : gV} (hM : gModM V) (C : gC X cX10_laid RX10 (some .int) 11 rm_X10_laid) (hX : gIs X l D cy nm) {I : gI} {J : gL} {Po : Int32 → gI → gL → Prop} (hR : gR X (gPi V (fun x I' J' => Po x I' J'))) {v1 : Int32} {v2 : Int32} {v4 : Int32} {v5 : Int32} {v8 : Int32} {v9 : Int32} {v10 : Int32} {K188 : Int32 → Int32 → Prop} {K198 : Int32 → Prop} (hK188 : ∀ (y8 : Int32) (y9 : Int32), K188 y8 y9 → gJ X V 0 0 188 [(0, .ref (V.2.1 200)), (1, .int v1), (2, .int v2), (4, .int v4), (5, .int v5), (8, .int y8), (9, .int y9)] [] I J) (hK198 : ∀ (y10 : Int32), K198 y10 → gJ X V 0 0 198 [(0, .ref (V.2.1 200)), (1, .int v1), (2, .int v2), (4, .int v4), (5, .int v5), (8, .int v8), (9, .int v9), (10, .int y10)] [] I J) (h : w_X10_laid_243 Po K188 K198 v1 v2 v4 v5 v8 v9 v10 I J) : gJ X V 0 0 243 [(0, .ref (V.2.1 200)), (1, .int v1), (2, .int v2), (4, .int v4), (5, .int v5), (8, .int v8), (9, .int v9), (10, .int v10)] [] I J := by
  unfold w_X10_laid_243 at h
  obtain ⟨n18, en18⟩ : ∃ z : Int32, z = v10 + 1 := ⟨_, rfl⟩
  have h := h n18 en18
  refine j_iinc (pc := 243) (v := n18) (lv' := [(10, .int n18), (0, .ref (V.2.1 200)), (1, .int v1), (2, .int v2), (4, .int v4), (5, .int v5), (8, .int v8), (9, .int v9)]) C dX10_laid_243 7 rfl (by rw [en18]; rfl) (by decide) rfl ?_
  refine j_goto (pc := 246) (tgt := 198) C dX10_laid_246 (by decide) ?_
  refine gJ.sub [1, 2, 3, 4, 5, 6, 7, 0] rfl ?_
  exact hK198 _ h
set_option maxRecDepth 100000 in
set_option maxHeartbeats 4000000 in
theorem t_X10_laid_198b {X : gX} {l : Launch} {D : va_G} {cy : Nat → ClassId} {nm : String} {V : gV} (hM : gModM V) (C : gC X cX10_laid RX10 (some .int) 11 rm_X10_laid) (hX : gIs X l D cy nm) {I : gI} {J : gL} {Po : Int32 → gI → gL → Prop} (hR : gR X (gPi V (fun x I' J' => Po x I' J'))) {v1 : Int32} {v2 : Int32} {v4 : Int32} {v5 : Int32} {v8 : Int32} {v9 : Int32} {v10 : Int32} {K188 : Int32 → Int32 → Prop} {K198 : Int32 → Prop} (hK188 : ∀ (y8 : Int32) (y9 : Int32), K188 y8 y9 → gJ X V 0 0 188 [(0, .ref (V.2.1 200)), (1, .int v1), (2, .int v2), (4, .int v4), (5, .int v5), (8, .int y8), (9, .int y9)] [] I J) (hK198 : ∀ (y10 : Int32), K198 y10 → gJ X V 0 0 198 [(0, .ref (V.2.1 200)), (1, .int v1), (2, .int v2), (4, .int v4), (5, .int v5), (8, .int v8), (9, .int v9), (10, .int y10)] [] I J) (h : w_X10_laid_198b Po K188 K198 v1 v2 v4 v5 v8 v9 v10 I J) : gJ X V 0 0 198 [(0, .ref (V.2.1 200)), (1, .int v1), (2, .int v2), (4, .int v4), (5, .int v5), (8, .int v8), (9, .int v9), (10, .int v10)] [] I J := by
  unfold w_X10_laid_198b at h
  refine j_aload_n (pc := 198) C dX10_laid_198 rfl 0 rfl ?_
  refine j_getR (pc := 199) C 200 3 203 (c_200 hM).1 (c_200 hM).2 rfl rfl (by decide) inw_X10 wd_969 dX10_laid_199 ?_
  refine j_iload (pc := 202) C dX10_laid_202 7 rfl ?_
  obtain ⟨g15, h⟩ := h
  refine j_iald (pc := 204) C 203 (c_203 hM).1 (c_203 hM).2 g15 dX10_laid_204 ?_
  refine j_aload_n (pc := 205) C dX10_laid_205 rfl 0 rfl ?_
  refine j_getR (pc := 206) C 200 4 204 (c_200 hM).1 (c_200 hM).2 rfl rfl (by decide) inw_X10 wd_970 dX10_laid_206 ?_
  refine j_iload (pc := 209) C dX10_laid_209 5 rfl ?_
  obtain ⟨g16, h⟩ := h
  refine j_iald (pc := 211) C 204 (c_204 hM).1 (c_204 hM).2 g16 dX10_laid_211 ?_
  refine j_icmp_ne (pc := 212) (tgt := 243) C dX10_laid_212 (by decide) (fun c17 => ?_) (fun c17 => ?_)
  · have h := h.1 c17
    refine gJ.sub [0, 1, 2, 3, 4, 5, 6, 7] rfl ?_
    exact t_X10_laid_243 hM C hX hR  hK188 hK198 h
  · have h := h.2 c17
    refine j_aload_n (pc := 215) C dX10_laid_215 rfl 0 rfl ?_
    refine j_getR (pc := 216) C 200 7 206 (c_200 hM).1 (c_200 hM).2 rfl rfl (by decide) inw_X10 wd_973 dX10_laid_216 ?_
    refine j_sipush (pc := 219) (v := 10000) C dX10_laid_219 (by decide) ?_
    refine j_iload_n (pc := 222) C dX10_laid_222 rfl 2 rfl ?_
    refine j_iconst (pc := 223) (v := 1) C dX10_laid_223 (by decide) ?_
    refine j_isub (pc := 224) C dX10_laid_224 ?_
    refine j_iload (pc := 225) C dX10_laid_225 6 rfl ?_
    refine j_isub (pc := 227) C dX10_laid_227 ?_
    refine j_imul (pc := 228) C dX10_laid_228 ?_
    refine j_aload_n (pc := 229) C dX10_laid_229 rfl 0 rfl ?_
    refine j_getR (pc := 230) C 200 4 204 (c_200 hM).1 (c_200 hM).2 rfl rfl (by decide) inw_X10 wd_970 dX10_laid_230 ?_
    refine j_iload (pc := 233) C dX10_laid_233 7 rfl ?_
    obtain ⟨g19, h⟩ := h
    refine j_iald (pc := 235) C 204 (c_204 hM).1 (c_204 hM).2 g19 dX10_laid_235 ?_
    refine j_iadd (pc := 236) C dX10_laid_236 ?_
    obtain ⟨g20, h⟩ := h
    refine j_lald (pc := 237) C 206 (c_206 hM).1 (c_206 hM).2 g20 dX10_laid_237 ?_
    refine j_lconst (pc := 238) (v := 0) C dX10_laid_238 (by decide) ?_
    refine j_lcmp (pc := 239) C dX10_laid_239 ?_
    refine j_if_ne (pc := 240) (tgt := 249) C dX10_laid_240 (by decide) (fun c21 => ?_) (fun c21 => ?_)
    · have h := h.1 c21
      refine j_iload (pc := 249) C dX10_laid_249 7 rfl ?_
      refine j_istore (pc := 251) (lv' := [(8, .int v10), (0, .ref (V.2.1 200)), (1, .int v1), (2, .int v2), (4, .int v4), (5, .int v5), (9, .int v9), (10, .int v10)]) C dX10_laid_251 (by decide) rfl ?_
      obtain ⟨n22, en22⟩ : ∃ z : Int32, z = v9 + 1 := ⟨_, rfl⟩
      have h := h n22 en22
      refine j_iinc (pc := 253) (v := n22) (lv' := [(9, .int n22), (8, .int v10), (0, .ref (V.2.1 200)), (1, .int v1), (2, .int v2), (4, .int v4), (5, .int v5), (10, .int v10)]) C dX10_laid_253 6 rfl (by rw [en22]; rfl) (by decide) rfl ?_
      refine j_goto (pc := 256) (tgt := 188) C dX10_laid_256 (by decide) ?_
      refine gJ.sub [2, 3, 4, 5, 6, 1, 0] rfl ?_
      exact hK188 _ _ h
    · have h := h.2 c21
      refine gJ.sub [0, 1, 2, 3, 4, 5, 6, 7] rfl ?_
      exact t_X10_laid_243 hM C hX hR  hK188 hK198 h
set_option maxRecDepth 100000 in
set_option maxHeartbeats 4000000 in
theorem t_X10_laid_198 {X : gX} {l : Launch} {D : va_G} {cy : Nat → ClassId} {nm : String} {V : gV} (hM : gModM V) (C : gC X cX10_laid RX10 (some .int) 11 rm_X10_laid) (hX : gIs X l D cy nm) {I : gI} {J : gL} {Po : Int32 → gI → gL → Prop} (hR : gR X (gPi V (fun x I' J' => Po x I' J'))) {v1 : Int32} {v2 : Int32} {v4 : Int32} {v5 : Int32} {v8 : Int32} {v9 : Int32} {v10 : Int32} {K188 : Int32 → Int32 → Prop} (hK188 : ∀ (y8 : Int32) (y9 : Int32), K188 y8 y9 → gJ X V 0 0 188 [(0, .ref (V.2.1 200)), (1, .int v1), (2, .int v2), (4, .int v4), (5, .int v5), (8, .int y8), (9, .int y9)] [] I J) (h : w_X10_laid_198 Po K188 v1 v2 v4 v5 v8 v9 v10 I J) : gJ X V 0 0 198 [(0, .ref (V.2.1 200)), (1, .int v1), (2, .int v2), (4, .int v4), (5, .int v5), (8, .int v8), (9, .int v9), (10, .int v10)] [] I J := by
  unfold w_X10_laid_198 at h
  obtain ⟨Inv, mu, h0, hs⟩ := h
  have key : ∀ (n : Nat) (v10 : Int32), Inv v10 → mu v10 < n → gJ X V 0 0 198 [(0, .ref (V.2.1 200)), (1, .int v1), (2, .int v2), (4, .int v4), (5, .int v5), (8, .int v8), (9, .int v9), (10, .int v10)] [] I J := by
    intro n
    induction n with
    | zero => intro v10 hi hn; exact absurd hn (Nat.not_lt_zero _)
    | succ n ih =>
      intro v10 hi hn
      exact t_X10_laid_198b hM C hX hR  hK188 (fun u10 hk => ih u10 hk.1 (Nat.lt_of_lt_of_le hk.2 (Nat.le_of_lt_succ hn))) (hs v10 hi)
  exact key _ v10 h0 (Nat.lt_succ_self _)
set_option maxRecDepth 100000 in
set_option maxHeartbeats 4000000 in
theorem t_X10_laid_188b {X : gX} {l : Launch} {D : va_G} {cy : Nat → ClassId} {nm : String} {V : gV} (hM : gModM V) (C : gC X cX10_laid RX10 (some .int) 11 rm_X10_laid) (hX : gIs X l D cy nm) {I : gI} {J : gL} {Po : Int32 → gI → gL → Prop} (hR : gR X (gPi V (fun x I' J' => Po x I' J'))) {v1 : Int32} {v2 : Int32} {v4 : Int32} {v5 : Int32} {v8 : Int32} {v9 : Int32} {K188 : Int32 → Int32 → Prop} (hK188 : ∀ (y8 : Int32) (y9 : Int32), K188 y8 y9 → gJ X V 0 0 188 [(0, .ref (V.2.1 200)), (1, .int v1), (2, .int v2), (4, .int v4), (5, .int v5), (8, .int y8), (9, .int y9)] [] I J) (h : w_X10_laid_188b Po K188 v1 v2 v4 v5 v8 v9 I J) : gJ X V 0 0 188 [(0, .ref (V.2.1 200)), (1, .int v1), (2, .int v2), (4, .int v4), (5, .int v5), (8, .int v8), (9, .int v9)] [] I J := by
  unfold w_X10_laid_188b at h
  refine j_iload (pc := 188) C dX10_laid_188 6 rfl ?_
  refine j_iload (pc := 190) C dX10_laid_190 4 rfl ?_
  refine j_icmp_gt (pc := 192) (tgt := 259) C dX10_laid_192 (by decide) (fun c12 => ?_) (fun c12 => ?_)
  · have h := h.1 c12
    refine j_aload_n (pc := 259) C dX10_laid_259 rfl 0 rfl ?_
    refine j_aload_n (pc := 260) C dX10_laid_260 rfl 0 rfl ?_
    refine j_getR (pc := 261) C 200 2 202 (c_200 hM).1 (c_200 hM).2 rfl rfl (by decide) inw_X10 wd_968 dX10_laid_261 ?_
    refine j_iload (pc := 264) C dX10_laid_264 5 rfl ?_
    obtain ⟨g13, h⟩ := h
    refine j_iald (pc := 266) C 202 (c_202 hM).1 (c_202 hM).2 g13 dX10_laid_266 ?_
    refine j_iload_n (pc := 267) C dX10_laid_267 rfl 1 rfl ?_
    refine j_iload (pc := 268) C dX10_laid_268 3 rfl ?_
    refine j_callV (pc := 270) (As := [.int (I 202 (v8).toNatClampNeg), .int v1, .int v4]) (st := []) C hX 200 (m_X10_digit hM  h) (c_200 hM).1 (c_200 hM).2 rfl ok_X10_digit wd_1143 wd_1145 wd_49 ⟨by decide, by decide⟩ rfl rfl (Nat.le_of_ble_eq_true rfl) ⟨Nat.le_refl 0, Nat.le_refl 0⟩ dX10_laid_270 (fun r V1 I1 J1 hp => ?_)
    obtain ⟨r14, rfl, rfl, rfl, rfl, h⟩ := hp
    show gJ X V 0 0 273 _ [.int r14] _ _
    exact j_iret (pc := 273) C hR (Nat.zero_le _) (Nat.zero_le _) dX10_laid_273 ⟨_, rfl, rfl, h⟩
  · have h := h.2 c12
    refine j_iconst (pc := 195) (v := 0) C dX10_laid_195 (by decide) ?_
    refine j_istore (pc := 196) (lv' := [(10, .int (0 : Int32)), (0, .ref (V.2.1 200)), (1, .int v1), (2, .int v2), (4, .int v4), (5, .int v5), (8, .int v8), (9, .int v9)]) C dX10_laid_196 (by decide) rfl ?_
    refine gJ.sub [1, 2, 3, 4, 5, 6, 7, 0] rfl ?_
    exact t_X10_laid_198 hM C hX hR  hK188 h
set_option maxRecDepth 100000 in
set_option maxHeartbeats 4000000 in
theorem t_X10_laid_188 {X : gX} {l : Launch} {D : va_G} {cy : Nat → ClassId} {nm : String} {V : gV} (hM : gModM V) (C : gC X cX10_laid RX10 (some .int) 11 rm_X10_laid) (hX : gIs X l D cy nm) {I : gI} {J : gL} {Po : Int32 → gI → gL → Prop} (hR : gR X (gPi V (fun x I' J' => Po x I' J'))) {v1 : Int32} {v2 : Int32} {v4 : Int32} {v5 : Int32} {v8 : Int32} {v9 : Int32} (h : w_X10_laid_188 Po v1 v2 v4 v5 v8 v9 I J) : gJ X V 0 0 188 [(0, .ref (V.2.1 200)), (1, .int v1), (2, .int v2), (4, .int v4), (5, .int v5), (8, .int v8), (9, .int v9)] [] I J := by
  unfold w_X10_laid_188 at h
  obtain ⟨Inv, mu, h0, hs⟩ := h
  have key : ∀ (n : Nat) (v8 : Int32) (v9 : Int32), Inv v8 v9 → mu v8 v9 < n → gJ X V 0 0 188 [(0, .ref (V.2.1 200)), (1, .int v1), (2, .int v2), (4, .int v4), (5, .int v5), (8, .int v8), (9, .int v9)] [] I J := by
    intro n
    induction n with
    | zero => intro v8 v9 hi hn; exact absurd hn (Nat.not_lt_zero _)
    | succ n ih =>
      intro v8 v9 hi hn
      exact t_X10_laid_188b hM C hX hR   (fun u8 u9 hk => ih u8 u9 hk.1 (Nat.lt_of_lt_of_le hk.2 (Nat.le_of_lt_succ hn))) (hs v8 v9 hi)
  exact key _ v8 v9 h0 (Nat.lt_succ_self _)
set_option maxRecDepth 100000 in
set_option maxHeartbeats 4000000 in
theorem t_X10_laid_178 {X : gX} {l : Launch} {D : va_G} {cy : Nat → ClassId} {nm : String} {V : gV} (hM : gModM V) (C : gC X cX10_laid RX10 (some .int) 11 rm_X10_laid) (hX : gIs X l D cy nm) {I : gI} {J : gL} {Po : Int32 → gI → gL → Prop} (hR : gR X (gPi V (fun x I' J' => Po x I' J'))) {v1 : Int32} {v2 : Int32} {v4 : Int32} {v5 : Int32} {v7 : Int32} {s0 : Int32} {s1 : Int32} (h : w_X10_laid_178 Po v1 v2 v4 v5 v7 s0 s1 I J) : gJ X V 0 0 178 [(0, .ref (V.2.1 200)), (1, .int v1), (2, .int v2), (4, .int v4), (5, .int v5), (7, .int v7)] [.int s0, .int s1, .ref (V.2.1 200)] I J := by
  unfold w_X10_laid_178 at h
  refine j_callV (pc := 178) (As := [.int s1, .int s0]) (st := []) C hX 200 (m_X10_tellWays hM  h) (c_200 hM).1 (c_200 hM).2 rfl ok_X10_tellWays wd_1130 wd_1132 wd_47 ⟨by decide, by decide⟩ rfl rfl (Nat.le_of_ble_eq_true rfl) ⟨Nat.le_refl 0, Nat.le_refl 0⟩ dX10_laid_178 (fun r V1 I1 J11 hp => ?_)
  obtain ⟨rfl, rfl, rfl, h⟩ := hp
  show gJ X V 0 0 181 _ [] _ _
  refine j_iload (pc := 181) C dX10_laid_181 5 rfl ?_
  refine j_istore (pc := 183) (lv' := [(8, .int v7), (0, .ref (V.2.1 200)), (1, .int v1), (2, .int v2), (4, .int v4), (5, .int v5), (7, .int v7)]) C dX10_laid_183 (by decide) rfl ?_
  refine j_iconst (pc := 185) (v := 1) C dX10_laid_185 (by decide) ?_
  refine j_istore (pc := 186) (lv' := [(9, .int (1 : Int32)), (8, .int v7), (0, .ref (V.2.1 200)), (1, .int v1), (2, .int v2), (4, .int v4), (5, .int v5), (7, .int v7)]) C dX10_laid_186 (by decide) rfl ?_
  refine gJ.sub [2, 3, 4, 5, 6, 1, 0] rfl ?_
  exact t_X10_laid_188 hM C hX hR   h
set_option maxRecDepth 100000 in
set_option maxHeartbeats 4000000 in
theorem t_X10_laid_151 {X : gX} {l : Launch} {D : va_G} {cy : Nat → ClassId} {nm : String} {V : gV} (hM : gModM V) (C : gC X cX10_laid RX10 (some .int) 11 rm_X10_laid) (hX : gIs X l D cy nm) {I : gI} {J : gL} {Po : Int32 → gI → gL → Prop} (hR : gR X (gPi V (fun x I' J' => Po x I' J'))) {v1 : Int32} {v2 : Int32} {v3 : Int32} {v4 : Int32} {v5 : Int32} {v7 : Int32} (h : w_X10_laid_151 Po v1 v2 v3 v4 v5 v7 I J) : gJ X V 0 0 151 [(0, .ref (V.2.1 200)), (1, .int v1), (2, .int v2), (3, .int v3), (4, .int v4), (5, .int v5), (7, .int v7)] [] I J := by
  unfold w_X10_laid_151 at h
  refine j_iload (pc := 151) C dX10_laid_151 6 rfl ?_
  refine j_iconst (pc := 153) (v := (-1)) C dX10_laid_153 (by decide) ?_
  refine j_icmp_ne (pc := 154) (tgt := 159) C dX10_laid_154 (by decide) (fun c9 => ?_) (fun c9 => ?_)
  · have h := h.1 c9
    refine j_aload_n (pc := 159) C dX10_laid_159 rfl 0 rfl ?_
    refine j_iload_n (pc := 160) C dX10_laid_160 rfl 2 rfl ?_
    refine j_iconst (pc := 161) (v := 1) C dX10_laid_161 (by decide) ?_
    refine j_isub (pc := 162) C dX10_laid_162 ?_
    refine j_iload_n (pc := 163) C dX10_laid_163 rfl 3 rfl ?_
    refine j_if_eq (pc := 164) (tgt := 177) C dX10_laid_164 (by decide) (fun c10 => ?_) (fun c10 => ?_)
    · have h := h.1 c10
      refine j_iconst (pc := 177) (v := (-1)) C dX10_laid_177 (by decide) ?_
      refine gJ.sub [0, 1, 2, 4, 5, 6] rfl ?_
      exact t_X10_laid_178 hM C hX hR   h
    · have h := h.2 c10
      refine j_aload_n (pc := 167) C dX10_laid_167 rfl 0 rfl ?_
      refine j_getR (pc := 168) C 200 3 203 (c_200 hM).1 (c_200 hM).2 rfl rfl (by decide) inw_X10 wd_969 dX10_laid_168 ?_
      refine j_iload (pc := 171) C dX10_laid_171 6 rfl ?_
      obtain ⟨g23, h⟩ := h
      refine j_iald (pc := 173) C 203 (c_203 hM).1 (c_203 hM).2 g23 dX10_laid_173 ?_
      refine j_goto (pc := 174) (tgt := 178) C dX10_laid_174 (by decide) ?_
      refine gJ.sub [0, 1, 2, 4, 5, 6] rfl ?_
      exact t_X10_laid_178 hM C hX hR   h
  · have h := h.2 c9
    refine j_iconst (pc := 157) (v := (-1)) C dX10_laid_157 (by decide) ?_
    exact j_iret (pc := 158) C hR (Nat.zero_le _) (Nat.zero_le _) dX10_laid_158 ⟨_, rfl, rfl, h⟩
set_option maxRecDepth 100000 in
set_option maxHeartbeats 4000000 in
theorem t_X10_laid_143 {X : gX} {l : Launch} {D : va_G} {cy : Nat → ClassId} {nm : String} {V : gV} (hM : gModM V) (C : gC X cX10_laid RX10 (some .int) 11 rm_X10_laid) (hX : gIs X l D cy nm) {I : gI} {J : gL} {Po : Int32 → gI → gL → Prop} (hR : gR X (gPi V (fun x I' J' => Po x I' J'))) {v1 : Int32} {v2 : Int32} {v3 : Int32} {v4 : Int32} {v5 : Int32} {v6 : Int32} {v8 : Int32} {s0 : Int32} {K50 : Int32 → Int32 → Int32 → gL → Prop} (hK50 : ∀ (y6 : Int32) (y7 : Int32) (y8 : Int32) (J1 : gL), K50 y6 y7 y8 J1 → gJ X V 0 0 50 [(0, .ref (V.2.1 200)), (1, .int v1), (2, .int v2), (3, .int v3), (4, .int v4), (5, .int v5), (6, .int y6), (7, .int y7), (8, .int y8)] [] I J1) (h : w_X10_laid_143 Po K50 v1 v2 v3 v4 v5 v6 v8 s0 I J) : gJ X V 0 0 143 [(0, .ref (V.2.1 200)), (1, .int v1), (2, .int v2), (3, .int v3), (4, .int v4), (5, .int v5), (6, .int v6), (8, .int v8)] [.int s0] I J := by
  unfold w_X10_laid_143 at h
  refine j_istore (pc := 143) (lv' := [(7, .int s0), (0, .ref (V.2.1 200)), (1, .int v1), (2, .int v2), (3, .int v3), (4, .int v4), (5, .int v5), (6, .int v6), (8, .int v8)]) C dX10_laid_143 (by decide) rfl ?_
  obtain ⟨n31, en31⟩ : ∃ z : Int32, z = v8 + 1 := ⟨_, rfl⟩
  have h := h n31 en31
  refine j_iinc (pc := 145) (v := n31) (lv' := [(8, .int n31), (7, .int s0), (0, .ref (V.2.1 200)), (1, .int v1), (2, .int v2), (3, .int v3), (4, .int v4), (5, .int v5), (6, .int v6)]) C dX10_laid_145 8 rfl (by rw [en31]; rfl) (by decide) rfl ?_
  refine j_goto (pc := 148) (tgt := 50) C dX10_laid_148 (by decide) ?_
  refine gJ.sub [2, 3, 4, 5, 6, 7, 8, 1, 0] rfl ?_
  exact hK50 _ _ _ _ h
set_option maxRecDepth 100000 in
set_option maxHeartbeats 4000000 in
theorem t_X10_laid_112 {X : gX} {l : Launch} {D : va_G} {cy : Nat → ClassId} {nm : String} {V : gV} (hM : gModM V) (C : gC X cX10_laid RX10 (some .int) 11 rm_X10_laid) (hX : gIs X l D cy nm) {I : gI} {J : gL} {Po : Int32 → gI → gL → Prop} (hR : gR X (gPi V (fun x I' J' => Po x I' J'))) {v1 : Int32} {v2 : Int32} {v3 : Int32} {v4 : Int32} {v5 : Int32} {v6 : Int32} {v8 : Int32} {K50 : Int32 → Int32 → Int32 → gL → Prop} (hK50 : ∀ (y6 : Int32) (y7 : Int32) (y8 : Int32) (J1 : gL), K50 y6 y7 y8 J1 → gJ X V 0 0 50 [(0, .ref (V.2.1 200)), (1, .int v1), (2, .int v2), (3, .int v3), (4, .int v4), (5, .int v5), (6, .int y6), (7, .int y7), (8, .int y8)] [] I J1) (h : w_X10_laid_112 Po K50 v1 v2 v3 v4 v5 v6 v8 I J) : gJ X V 0 0 112 [(0, .ref (V.2.1 200)), (1, .int v1), (2, .int v2), (3, .int v3), (4, .int v4), (5, .int v5), (6, .int v6), (8, .int v8)] [] I J := by
  unfold w_X10_laid_112 at h
  refine j_aload_n (pc := 112) C dX10_laid_112 rfl 0 rfl ?_
  refine j_getR (pc := 113) C 200 7 206 (c_200 hM).1 (c_200 hM).2 rfl rfl (by decide) inw_X10 wd_973 dX10_laid_113 ?_
  refine j_sipush (pc := 116) (v := 10000) C dX10_laid_116 (by decide) ?_
  refine j_iload_n (pc := 119) C dX10_laid_119 rfl 2 rfl ?_
  refine j_iconst (pc := 120) (v := 1) C dX10_laid_120 (by decide) ?_
  refine j_isub (pc := 121) C dX10_laid_121 ?_
  refine j_imul (pc := 122) C dX10_laid_122 ?_
  refine j_aload_n (pc := 123) C dX10_laid_123 rfl 0 rfl ?_
  refine j_getR (pc := 124) C 200 4 204 (c_200 hM).1 (c_200 hM).2 rfl rfl (by decide) inw_X10 wd_970 dX10_laid_124 ?_
  refine j_iload (pc := 127) C dX10_laid_127 7 rfl ?_
  obtain ⟨g28, h⟩ := h
  refine j_iald (pc := 129) C 204 (c_204 hM).1 (c_204 hM).2 g28 dX10_laid_129 ?_
  refine j_iadd (pc := 130) C dX10_laid_130 ?_
  obtain ⟨g29, h⟩ := h
  refine j_lald (pc := 131) C 206 (c_206 hM).1 (c_206 hM).2 g29 dX10_laid_131 ?_
  refine j_lconst (pc := 132) (v := 0) C dX10_laid_132 (by decide) ?_
  refine j_lcmp (pc := 133) C dX10_laid_133 ?_
  refine j_if_le (pc := 134) (tgt := 142) C dX10_laid_134 (by decide) (fun c30 => ?_) (fun c30 => ?_)
  · have h := h.1 c30
    refine j_iconst (pc := 142) (v := (-1)) C dX10_laid_142 (by decide) ?_
    refine gJ.sub [0, 1, 2, 3, 4, 5, 6, 7] rfl ?_
    exact t_X10_laid_143 hM C hX hR  hK50 h
  · have h := h.2 c30
    refine j_iload (pc := 137) C dX10_laid_137 7 rfl ?_
    refine j_goto (pc := 139) (tgt := 143) C dX10_laid_139 (by decide) ?_
    refine gJ.sub [0, 1, 2, 3, 4, 5, 6, 7] rfl ?_
    exact t_X10_laid_143 hM C hX hR  hK50 h
set_option maxRecDepth 100000 in
set_option maxHeartbeats 4000000 in
theorem t_X10_laid_101 {X : gX} {l : Launch} {D : va_G} {cy : Nat → ClassId} {nm : String} {V : gV} (hM : gModM V) (C : gC X cX10_laid RX10 (some .int) 11 rm_X10_laid) (hX : gIs X l D cy nm) {I : gI} {J : gL} {Po : Int32 → gI → gL → Prop} (hR : gR X (gPi V (fun x I' J' => Po x I' J'))) {v1 : Int32} {v2 : Int32} {v3 : Int32} {v4 : Int32} {v5 : Int32} {v8 : Int32} {s0 : Int32} {K50 : Int32 → Int32 → Int32 → gL → Prop} (hK50 : ∀ (y6 : Int32) (y7 : Int32) (y8 : Int32) (J1 : gL), K50 y6 y7 y8 J1 → gJ X V 0 0 50 [(0, .ref (V.2.1 200)), (1, .int v1), (2, .int v2), (3, .int v3), (4, .int v4), (5, .int v5), (6, .int y6), (7, .int y7), (8, .int y8)] [] I J1) (h : w_X10_laid_101 Po K50 v1 v2 v3 v4 v5 v8 s0 I J) : gJ X V 0 0 101 [(0, .ref (V.2.1 200)), (1, .int v1), (2, .int v2), (3, .int v3), (4, .int v4), (5, .int v5), (8, .int v8)] [.int s0] I J := by
  unfold w_X10_laid_101 at h
  refine j_istore (pc := 101) (lv' := [(6, .int s0), (0, .ref (V.2.1 200)), (1, .int v1), (2, .int v2), (3, .int v3), (4, .int v4), (5, .int v5), (8, .int v8)]) C dX10_laid_101 (by decide) rfl ?_
  refine j_aload_n (pc := 103) C dX10_laid_103 rfl 1 rfl ?_
  refine j_iload_n (pc := 104) C dX10_laid_104 rfl 3 rfl ?_
  refine j_iconst (pc := 105) (v := 1) C dX10_laid_105 (by decide) ?_
  refine j_isub (pc := 106) C dX10_laid_106 ?_
  refine j_iload (pc := 107) C dX10_laid_107 0 rfl ?_
  refine j_callV (pc := 109) (As := [.int (v2 - (1 : Int32)), .int s0]) (st := []) C hX 200 (m_X10_tellWays hM  h) (c_200 hM).1 (c_200 hM).2 rfl ok_X10_tellWays wd_1130 wd_1132 wd_47 ⟨by decide, by decide⟩ rfl rfl (Nat.le_of_ble_eq_true rfl) ⟨Nat.le_refl 0, Nat.le_refl 0⟩ dX10_laid_109 (fun r V1 I1 J27 hp => ?_)
  obtain ⟨rfl, rfl, rfl, h⟩ := hp
  show gJ X V 0 0 112 _ [] _ _
  refine gJ.sub [1, 2, 3, 4, 5, 6, 0, 7] rfl ?_
  exact t_X10_laid_112 hM C hX hR  hK50 h
set_option maxRecDepth 100000 in
set_option maxHeartbeats 4000000 in
theorem t_X10_laid_86 {X : gX} {l : Launch} {D : va_G} {cy : Nat → ClassId} {nm : String} {V : gV} (hM : gModM V) (C : gC X cX10_laid RX10 (some .int) 11 rm_X10_laid) (hX : gIs X l D cy nm) {I : gI} {J : gL} {Po : Int32 → gI → gL → Prop} (hR : gR X (gPi V (fun x I' J' => Po x I' J'))) {v1 : Int32} {v2 : Int32} {v3 : Int32} {v4 : Int32} {v5 : Int32} {v8 : Int32} {K50 : Int32 → Int32 → Int32 → gL → Prop} (hK50 : ∀ (y6 : Int32) (y7 : Int32) (y8 : Int32) (J1 : gL), K50 y6 y7 y8 J1 → gJ X V 0 0 50 [(0, .ref (V.2.1 200)), (1, .int v1), (2, .int v2), (3, .int v3), (4, .int v4), (5, .int v5), (6, .int y6), (7, .int y7), (8, .int y8)] [] I J1) (h : w_X10_laid_86 Po K50 v1 v2 v3 v4 v5 v8 I J) : gJ X V 0 0 86 [(0, .ref (V.2.1 200)), (1, .int v1), (2, .int v2), (3, .int v3), (4, .int v4), (5, .int v5), (8, .int v8)] [] I J := by
  unfold w_X10_laid_86 at h
  refine j_iload_n (pc := 86) C dX10_laid_86 rfl 3 rfl ?_
  refine j_if_eq (pc := 87) (tgt := 100) C dX10_laid_87 (by decide) (fun c26 => ?_) (fun c26 => ?_)
  · have h := h.1 c26
    refine j_iconst (pc := 100) (v := (-1)) C dX10_laid_100 (by decide) ?_
    refine gJ.sub [0, 1, 2, 3, 4, 5, 6] rfl ?_
    exact t_X10_laid_101 hM C hX hR  hK50 h
  · have h := h.2 c26
    refine j_aload_n (pc := 90) C dX10_laid_90 rfl 0 rfl ?_
    refine j_getR (pc := 91) C 200 3 203 (c_200 hM).1 (c_200 hM).2 rfl rfl (by decide) inw_X10 wd_969 dX10_laid_91 ?_
    refine j_iload (pc := 94) C dX10_laid_94 6 rfl ?_
    obtain ⟨g32, h⟩ := h
    refine j_iald (pc := 96) C 203 (c_203 hM).1 (c_203 hM).2 g32 dX10_laid_96 ?_
    refine j_goto (pc := 97) (tgt := 101) C dX10_laid_97 (by decide) ?_
    refine gJ.sub [0, 1, 2, 3, 4, 5, 6] rfl ?_
    exact t_X10_laid_101 hM C hX hR  hK50 h
set_option maxRecDepth 100000 in
set_option maxHeartbeats 4000000 in
theorem t_X10_laid_50b {X : gX} {l : Launch} {D : va_G} {cy : Nat → ClassId} {nm : String} {V : gV} (hM : gModM V) (C : gC X cX10_laid RX10 (some .int) 11 rm_X10_laid) (hX : gIs X l D cy nm) {I : gI} {J : gL} {Po : Int32 → gI → gL → Prop} (hR : gR X (gPi V (fun x I' J' => Po x I' J'))) {v1 : Int32} {v2 : Int32} {v3 : Int32} {v4 : Int32} {v5 : Int32} {v6 : Int32} {v7 : Int32} {v8 : Int32} {K50 : Int32 → Int32 → Int32 → gL → Prop} (hK50 : ∀ (y6 : Int32) (y7 : Int32) (y8 : Int32) (J1 : gL), K50 y6 y7 y8 J1 → gJ X V 0 0 50 [(0, .ref (V.2.1 200)), (1, .int v1), (2, .int v2), (3, .int v3), (4, .int v4), (5, .int v5), (6, .int y6), (7, .int y7), (8, .int y8)] [] I J1) (h : w_X10_laid_50b Po K50 v1 v2 v3 v4 v5 v6 v7 v8 I J) : gJ X V 0 0 50 [(0, .ref (V.2.1 200)), (1, .int v1), (2, .int v2), (3, .int v3), (4, .int v4), (5, .int v5), (6, .int v6), (7, .int v7), (8, .int v8)] [] I J := by
  unfold w_X10_laid_50b at h
  refine j_iload (pc := 50) C dX10_laid_50 8 rfl ?_
  refine j_aload_n (pc := 52) C dX10_laid_52 rfl 0 rfl ?_
  refine j_getI (pc := 53) C 200 5 (c_200 hM).1 (c_200 hM).2 rfl rfl (by decide) inw_X10 wd_971 dX10_laid_53 ?_
  refine j_icmp_ge (pc := 56) (tgt := 151) C dX10_laid_56 (by decide) (fun c8 => ?_) (fun c8 => ?_)
  · have h := h.1 c8
    refine gJ.sub [0, 1, 2, 3, 4, 5, 7] rfl ?_
    exact t_X10_laid_151 hM C hX hR   h
  · have h := h.2 c8
    refine j_iload (pc := 59) C dX10_laid_59 7 rfl ?_
    refine j_iconst (pc := 61) (v := (-1)) C dX10_laid_61 (by decide) ?_
    refine j_icmp_ne (pc := 62) (tgt := 151) C dX10_laid_62 (by decide) (fun c24 => ?_) (fun c24 => ?_)
    · have h := h.1 c24
      refine gJ.sub [0, 1, 2, 3, 4, 5, 7] rfl ?_
      exact t_X10_laid_151 hM C hX hR   h
    · have h := h.2 c24
      refine j_iload (pc := 65) C dX10_laid_65 8 rfl ?_
      refine j_if_eq (pc := 67) (tgt := 86) C dX10_laid_67 (by decide) (fun c25 => ?_) (fun c25 => ?_)
      · have h := h.1 c25
        refine gJ.sub [0, 1, 2, 3, 4, 5, 8] rfl ?_
        exact t_X10_laid_86 hM C hX hR  hK50 h
      · have h := h.2 c25
        refine j_iload_n (pc := 70) C dX10_laid_70 rfl 3 rfl ?_
        refine j_if_eq (pc := 71) (tgt := 112) C dX10_laid_71 (by decide) (fun c33 => ?_) (fun c33 => ?_)
        · have h := h.1 c33
          refine gJ.sub [0, 1, 2, 3, 4, 5, 6, 8] rfl ?_
          exact t_X10_laid_112 hM C hX hR  hK50 h
        · have h := h.2 c33
          refine j_aload_n (pc := 74) C dX10_laid_74 rfl 0 rfl ?_
          refine j_getR (pc := 75) C 200 3 203 (c_200 hM).1 (c_200 hM).2 rfl rfl (by decide) inw_X10 wd_969 dX10_laid_75 ?_
          refine j_iload (pc := 78) C dX10_laid_78 8 rfl ?_
          obtain ⟨g34, h⟩ := h
          refine j_iald (pc := 80) C 203 (c_203 hM).1 (c_203 hM).2 g34 dX10_laid_80 ?_
          refine j_iload (pc := 81) C dX10_laid_81 6 rfl ?_
          refine j_icmp_eq (pc := 83) (tgt := 112) C dX10_laid_83 (by decide) (fun c35 => ?_) (fun c35 => ?_)
          · have h := h.1 c35
            refine gJ.sub [0, 1, 2, 3, 4, 5, 6, 8] rfl ?_
            exact t_X10_laid_112 hM C hX hR  hK50 h
          · have h := h.2 c35
            refine gJ.sub [0, 1, 2, 3, 4, 5, 8] rfl ?_
            exact t_X10_laid_86 hM C hX hR  hK50 h
set_option maxRecDepth 100000 in
set_option maxHeartbeats 4000000 in
theorem t_X10_laid_50 {X : gX} {l : Launch} {D : va_G} {cy : Nat → ClassId} {nm : String} {V : gV} (hM : gModM V) (C : gC X cX10_laid RX10 (some .int) 11 rm_X10_laid) (hX : gIs X l D cy nm) {I : gI} {J : gL} {Po : Int32 → gI → gL → Prop} (hR : gR X (gPi V (fun x I' J' => Po x I' J'))) {v1 : Int32} {v2 : Int32} {v3 : Int32} {v4 : Int32} {v5 : Int32} {v6 : Int32} {v7 : Int32} {v8 : Int32} (h : w_X10_laid_50 Po v1 v2 v3 v4 v5 v6 v7 v8 I J) : gJ X V 0 0 50 [(0, .ref (V.2.1 200)), (1, .int v1), (2, .int v2), (3, .int v3), (4, .int v4), (5, .int v5), (6, .int v6), (7, .int v7), (8, .int v8)] [] I J := by
  unfold w_X10_laid_50 at h
  obtain ⟨Inv, mu, h0, hs⟩ := h
  have key : ∀ (n : Nat) (v6 : Int32) (v7 : Int32) (v8 : Int32) (J : gL), Inv v6 v7 v8 J → mu v6 v7 v8 J < n → gJ X V 0 0 50 [(0, .ref (V.2.1 200)), (1, .int v1), (2, .int v2), (3, .int v3), (4, .int v4), (5, .int v5), (6, .int v6), (7, .int v7), (8, .int v8)] [] I J := by
    intro n
    induction n with
    | zero => intro v6 v7 v8 J hi hn; exact absurd hn (Nat.not_lt_zero _)
    | succ n ih =>
      intro v6 v7 v8 J hi hn
      exact t_X10_laid_50b hM C hX hR   (fun u6 u7 u8 J1 hk => ih u6 u7 u8 J1 hk.1 (Nat.lt_of_lt_of_le hk.2 (Nat.le_of_lt_succ hn))) (hs v6 v7 v8 J hi)
  exact key _ v6 v7 v8 J h0 (Nat.lt_succ_self _)
set_option maxRecDepth 100000 in
set_option maxHeartbeats 4000000 in
theorem m_X10_laid {l : Launch} {D : va_G} {cy : Nat → ClassId} {V : gV} (hM : gModM V) {a1 : Int32} {a2 : Int32} {a3 : Int32} {a4 : Int32} {a5 : Int32} {I : gI} {J : gL} {Po : Int32 → gI → gL → Prop} (h : wp_X10_laid a1 a2 a3 a4 a5 I J Po) : gMet l D cy yX10_laid cX10_laid 11 (some .int) rm_X10_laid V [.ref (V.2.1 200), .int a1, .int a2, .int a3, .int a4, .int a5] I J (gPi V (fun x I' J' => Po x I' J')) := by
  refine gMet.of (by decide) (Nat.le_of_ble_eq_true rfl) (fun X hX C hR => ?_)
  have C : gC X cX10_laid RX10 (some .int) 11 rm_X10_laid := C
  show gJ X V 0 0 0 [(0, .ref (V.2.1 200)), (1, .int a1), (2, .int a2), (3, .int a3), (4, .int a4), (5, .int a5)] [] I J
  unfold wp_X10_laid at h
  refine j_iload_n (pc := 0) C dX10_laid_0 rfl 1 rfl ?_
  refine j_iload_n (pc := 1) C dX10_laid_1 rfl 2 rfl ?_
  refine j_callS (pc := 2) (As := [.int a1, .int a2]) (st := []) C hX (m_X10_isSize   h) ok_X10_isSize wd_1119 wd_1120 ⟨by decide, by decide⟩ rfl rfl (Nat.le_of_ble_eq_true rfl) ⟨Nat.le_refl 0, Nat.le_refl 0⟩ dX10_laid_2 (fun r V1 I1 J1 hp => ?_)
  obtain ⟨r1, rfl, rfl, rfl, rfl, h⟩ := hp
  show gJ X V 0 0 5 _ [.int r1] _ _
  refine j_if_eq (pc := 5) (tgt := 32) C dX10_laid_5 (by decide) (fun c2 => ?_) (fun c2 => ?_)
  · have h := h.1 c2
    refine j_bipush (pc := 32) (v := (-2)) C dX10_laid_32 (by decide) ?_
    exact j_iret (pc := 34) C hR (Nat.zero_le _) (Nat.zero_le _) dX10_laid_34 ⟨_, rfl, rfl, h⟩
  · have h := h.2 c2
    refine j_iload (pc := 8) C dX10_laid_8 4 rfl ?_
    refine j_iconst (pc := 10) (v := 0) C dX10_laid_10 (by decide) ?_
    refine j_iload_n (pc := 11) C dX10_laid_11 rfl 1 rfl ?_
    refine j_iconst (pc := 12) (v := 1) C dX10_laid_12 (by decide) ?_
    refine j_isub (pc := 13) C dX10_laid_13 ?_
    refine j_callS (pc := 14) (As := [.int a4, .int (0 : Int32), .int (a1 - (1 : Int32))]) (st := []) C hX (m_X10_isIn   h) ok_X10_isIn wd_1108 wd_1109 ⟨by decide, by decide⟩ rfl rfl (Nat.le_of_ble_eq_true rfl) ⟨Nat.le_refl 0, Nat.le_refl 0⟩ dX10_laid_14 (fun r V1 I1 J1 hp => ?_)
    obtain ⟨r3, rfl, rfl, rfl, rfl, h⟩ := hp
    show gJ X V 0 0 17 _ [.int r3] _ _
    refine j_if_eq (pc := 17) (tgt := 32) C dX10_laid_17 (by decide) (fun c4 => ?_) (fun c4 => ?_)
    · have h := h.1 c4
      refine j_bipush (pc := 32) (v := (-2)) C dX10_laid_32 (by decide) ?_
      exact j_iret (pc := 34) C hR (Nat.zero_le _) (Nat.zero_le _) dX10_laid_34 ⟨_, rfl, rfl, h⟩
    · have h := h.2 c4
      refine j_iload (pc := 20) C dX10_laid_20 5 rfl ?_
      refine j_iconst (pc := 22) (v := 0) C dX10_laid_22 (by decide) ?_
      refine j_iload_n (pc := 23) C dX10_laid_23 rfl 2 rfl ?_
      refine j_iconst (pc := 24) (v := 1) C dX10_laid_24 (by decide) ?_
      refine j_isub (pc := 25) C dX10_laid_25 ?_
      refine j_callS (pc := 26) (As := [.int a5, .int (0 : Int32), .int (a2 - (1 : Int32))]) (st := []) C hX (m_X10_isIn   h) ok_X10_isIn wd_1108 wd_1109 ⟨by decide, by decide⟩ rfl rfl (Nat.le_of_ble_eq_true rfl) ⟨Nat.le_refl 0, Nat.le_refl 0⟩ dX10_laid_26 (fun r V1 I1 J1 hp => ?_)
      obtain ⟨r5, rfl, rfl, rfl, rfl, h⟩ := hp
      show gJ X V 0 0 29 _ [.int r5] _ _
      refine j_if_ne (pc := 29) (tgt := 35) C dX10_laid_29 (by decide) (fun c6 => ?_) (fun c6 => ?_)
      · have h := h.1 c6
        refine j_aload_n (pc := 35) C dX10_laid_35 rfl 0 rfl ?_
        refine j_iload_n (pc := 36) C dX10_laid_36 rfl 1 rfl ?_
        refine j_iload_n (pc := 37) C dX10_laid_37 rfl 3 rfl ?_
        refine j_callV (pc := 38) (As := [.int a1, .int a3]) (st := []) C hX 200 (m_X10_layRows hM  h) (c_200 hM).1 (c_200 hM).2 rfl ok_X10_layRows wd_1126 wd_1128 wd_46 ⟨by decide, by decide⟩ rfl rfl (Nat.le_of_ble_eq_true rfl) ⟨Nat.le_refl 0, Nat.le_refl 0⟩ dX10_laid_38 (fun r V1 I7 J1 hp => ?_)
        obtain ⟨rfl, rfl, rfl, h⟩ := hp
        show gJ X V 0 0 41 _ [] _ _
        refine j_iconst (pc := 41) (v := (-1)) C dX10_laid_41 (by decide) ?_
        refine j_istore (pc := 42) (lv' := [(6, .int (-1 : Int32)), (0, .ref (V.2.1 200)), (1, .int a1), (2, .int a2), (3, .int a3), (4, .int a4), (5, .int a5)]) C dX10_laid_42 (by decide) rfl ?_
        refine j_iconst (pc := 44) (v := (-1)) C dX10_laid_44 (by decide) ?_
        refine j_istore (pc := 45) (lv' := [(7, .int (-1 : Int32)), (6, .int (-1 : Int32)), (0, .ref (V.2.1 200)), (1, .int a1), (2, .int a2), (3, .int a3), (4, .int a4), (5, .int a5)]) C dX10_laid_45 (by decide) rfl ?_
        refine j_iconst (pc := 47) (v := 0) C dX10_laid_47 (by decide) ?_
        refine j_istore (pc := 48) (lv' := [(8, .int (0 : Int32)), (7, .int (-1 : Int32)), (6, .int (-1 : Int32)), (0, .ref (V.2.1 200)), (1, .int a1), (2, .int a2), (3, .int a3), (4, .int a4), (5, .int a5)]) C dX10_laid_48 (by decide) rfl ?_
        refine gJ.sub [3, 4, 5, 6, 7, 8, 2, 1, 0] rfl ?_
        exact t_X10_laid_50 hM C hX hR   h
      · have h := h.2 c6
        refine j_bipush (pc := 32) (v := (-2)) C dX10_laid_32 (by decide) ?_
        exact j_iret (pc := 34) C hR (Nat.zero_le _) (Nat.zero_le _) dX10_laid_34 ⟨_, rfl, rfl, h⟩
/-! TileRulesModel.repeats()I -/
abbrev rm_X10_repeats : Room := { frames := 2, cells := 0, slots := 0, locals := 56 }
theorem ok_X10_repeats : gOk yX10_repeats cX10_repeats 3 (some .int) 0 := ⟨wd_1150, wd_74, by decide +kernel⟩
def w_X10_repeats_51  (Po : Int32 → gI → gL → Prop) (K2 : Int32 → gI → gL → Prop) (K10 : Int32 → gI → gL → Prop) (v1 : Int32) (v2 : Int32) (I : gI) (J : gL) : Prop :=
  ∀ n6 : Int32, n6 = v2 + 1 → K10 n6 I J
def w_X10_repeats_10b  (Po : Int32 → gI → gL → Prop) (K2 : Int32 → gI → gL → Prop) (K10 : Int32 → gI → gL → Prop) (v1 : Int32) (v2 : Int32) (I : gI) (J : gL) : Prop :=
  ((4 : Int32) < v2 → ∀ n3 : Int32, n3 = v1 + 1 → K2 n3 I J) ∧ (¬ (4 : Int32) < v2 → ¬ v2 = 0 ∧ (¬ (v1 - v1 / v2 * v2) = 0 → w_X10_repeats_51 Po K2 K10 v1 v2 I J) ∧ ((v1 - v1 / v2 * v2) = 0 → ¬ v2 = 0 ∧ ((4 : Int32) < (v1 / v2) → w_X10_repeats_51 Po K2 K10 v1 v2 I J) ∧ (¬ (4 : Int32) < (v1 / v2) → ¬ v2 = 0 ∧ wp_X10_fill v2 (v1 / v2) (1 : Int32) I J (fun r10 I11 J12 => ((lg_cmp r10 (0 : Int64)) ≤ 0 → w_X10_repeats_51 Po K2 K10 v1 v2 I11 J12) ∧ (¬ (lg_cmp r10 (0 : Int64)) ≤ 0 → ¬ v2 = 0 ∧ Po (((10 : Int32) * v2) + (v1 / v2)) I11 J12)))))
def w_X10_repeats_10  (Po : Int32 → gI → gL → Prop) (K2 : Int32 → gI → gL → Prop) (v1 : Int32) (v2 : Int32) (I : gI) (J : gL) : Prop :=
  ∃ (Inv : Int32 → gI → gL → Prop) (mu : Int32 → gI → gL → Nat), Inv v2 I J ∧ ∀ (v2 : Int32) (I : gI) (J : gL), Inv v2 I J → w_X10_repeats_10b  Po K2 (fun u2 I1 J1 => Inv u2 I1 J1 ∧ mu u2 I1 J1 < mu v2 I J) v1 v2 I J
def w_X10_repeats_2b  (Po : Int32 → gI → gL → Prop) (K2 : Int32 → gI → gL → Prop) (v1 : Int32) (I : gI) (J : gL) : Prop :=
  ((16 : Int32) < v1 → Po (-1 : Int32) I J) ∧ (¬ (16 : Int32) < v1 → w_X10_repeats_10 Po K2 v1 (1 : Int32) I J)
def w_X10_repeats_2  (Po : Int32 → gI → gL → Prop)  (v1 : Int32) (I : gI) (J : gL) : Prop :=
  ∃ (Inv : Int32 → gI → gL → Prop) (mu : Int32 → gI → gL → Nat), Inv v1 I J ∧ ∀ (v1 : Int32) (I : gI) (J : gL), Inv v1 I J → w_X10_repeats_2b  Po  (fun u1 I1 J1 => Inv u1 I1 J1 ∧ mu u1 I1 J1 < mu v1 I J) v1 I J
def wp_X10_repeats (I : gI) (J : gL) (Po : Int32 → gI → gL → Prop) : Prop :=
  w_X10_repeats_2 Po (1 : Int32) I J
set_option maxRecDepth 100000 in
set_option maxHeartbeats 4000000 in
theorem t_X10_repeats_51 {X : gX} {l : Launch} {D : va_G} {cy : Nat → ClassId} {nm : String} {V : gV} (hM : gModM V) (C : gC X cX10_repeats RX10 (some .int) 3 rm_X10_repeats) (hX : gIs X l D cy nm) {I : gI} {J : gL} {Po : Int32 → gI → gL → Prop} (hR : gR X (gPi V (fun x I' J' => Po x I' J'))) {v1 : Int32} {v2 : Int32} {K2 : Int32 → gI → gL → Prop} {K10 : Int32 → gI → gL → Prop} (hK2 : ∀ (y1 : Int32) (I1 : gI) (J1 : gL), K2 y1 I1 J1 → gJ X V 0 0 2 [(0, .ref (V.2.1 200)), (1, .int y1)] [] I1 J1) (hK10 : ∀ (y2 : Int32) (I1 : gI) (J1 : gL), K10 y2 I1 J1 → gJ X V 0 0 10 [(0, .ref (V.2.1 200)), (1, .int v1), (2, .int y2)] [] I1 J1) (h : w_X10_repeats_51 Po K2 K10 v1 v2 I J) : gJ X V 0 0 51 [(0, .ref (V.2.1 200)), (1, .int v1), (2, .int v2)] [] I J := by
  unfold w_X10_repeats_51 at h
  obtain ⟨n6, en6⟩ : ∃ z : Int32, z = v2 + 1 := ⟨_, rfl⟩
  have h := h n6 en6
  refine j_iinc (pc := 51) (v := n6) (lv' := [(2, .int n6), (0, .ref (V.2.1 200)), (1, .int v1)]) C dX10_repeats_51 2 rfl (by rw [en6]; rfl) (by decide) rfl ?_
  refine j_goto (pc := 54) (tgt := 10) C dX10_repeats_54 (by decide) ?_
  refine gJ.sub [1, 2, 0] rfl ?_
  exact hK10 _ _ _ h
set_option maxRecDepth 100000 in
set_option maxHeartbeats 4000000 in
theorem t_X10_repeats_10b {X : gX} {l : Launch} {D : va_G} {cy : Nat → ClassId} {nm : String} {V : gV} (hM : gModM V) (C : gC X cX10_repeats RX10 (some .int) 3 rm_X10_repeats) (hX : gIs X l D cy nm) {I : gI} {J : gL} {Po : Int32 → gI → gL → Prop} (hR : gR X (gPi V (fun x I' J' => Po x I' J'))) {v1 : Int32} {v2 : Int32} {K2 : Int32 → gI → gL → Prop} {K10 : Int32 → gI → gL → Prop} (hK2 : ∀ (y1 : Int32) (I1 : gI) (J1 : gL), K2 y1 I1 J1 → gJ X V 0 0 2 [(0, .ref (V.2.1 200)), (1, .int y1)] [] I1 J1) (hK10 : ∀ (y2 : Int32) (I1 : gI) (J1 : gL), K10 y2 I1 J1 → gJ X V 0 0 10 [(0, .ref (V.2.1 200)), (1, .int v1), (2, .int y2)] [] I1 J1) (h : w_X10_repeats_10b Po K2 K10 v1 v2 I J) : gJ X V 0 0 10 [(0, .ref (V.2.1 200)), (1, .int v1), (2, .int v2)] [] I J := by
  unfold w_X10_repeats_10b at h
  refine j_iload_n (pc := 10) C dX10_repeats_10 rfl 2 rfl ?_
  refine j_iconst (pc := 11) (v := 4) C dX10_repeats_11 (by decide) ?_
  refine j_icmp_gt (pc := 12) (tgt := 57) C dX10_repeats_12 (by decide) (fun c2 => ?_) (fun c2 => ?_)
  · have h := h.1 c2
    obtain ⟨n3, en3⟩ : ∃ z : Int32, z = v1 + 1 := ⟨_, rfl⟩
    have h := h n3 en3
    refine j_iinc (pc := 57) (v := n3) (lv' := [(1, .int n3), (0, .ref (V.2.1 200)), (2, .int v2)]) C dX10_repeats_57 1 rfl (by rw [en3]; rfl) (by decide) rfl ?_
    refine j_goto (pc := 60) (tgt := 2) C dX10_repeats_60 (by decide) ?_
    refine gJ.sub [1, 0] rfl ?_
    exact hK2 _ _ _ h
  · have h := h.2 c2
    refine j_iload_n (pc := 15) C dX10_repeats_15 rfl 1 rfl ?_
    refine j_iload_n (pc := 16) C dX10_repeats_16 rfl 2 rfl ?_
    obtain ⟨g4, h⟩ := h
    refine j_irem (pc := 17) C dX10_repeats_17 g4 ?_
    refine j_if_ne (pc := 18) (tgt := 51) C dX10_repeats_18 (by decide) (fun c5 => ?_) (fun c5 => ?_)
    · have h := h.1 c5
      refine gJ.sub [0, 1, 2] rfl ?_
      exact t_X10_repeats_51 hM C hX hR  hK2 hK10 h
    · have h := h.2 c5
      refine j_iload_n (pc := 21) C dX10_repeats_21 rfl 1 rfl ?_
      refine j_iload_n (pc := 22) C dX10_repeats_22 rfl 2 rfl ?_
      obtain ⟨g7, h⟩ := h
      refine j_idiv (pc := 23) C dX10_repeats_23 g7 ?_
      refine j_iconst (pc := 24) (v := 4) C dX10_repeats_24 (by decide) ?_
      refine j_icmp_gt (pc := 25) (tgt := 51) C dX10_repeats_25 (by decide) (fun c8 => ?_) (fun c8 => ?_)
      · have h := h.1 c8
        refine gJ.sub [0, 1, 2] rfl ?_
        exact t_X10_repeats_51 hM C hX hR  hK2 hK10 h
      · have h := h.2 c8
        refine j_aload_n (pc := 28) C dX10_repeats_28 rfl 0 rfl ?_
        refine j_iload_n (pc := 29) C dX10_repeats_29 rfl 2 rfl ?_
        refine j_iload_n (pc := 30) C dX10_repeats_30 rfl 1 rfl ?_
        refine j_iload_n (pc := 31) C dX10_repeats_31 rfl 2 rfl ?_
        obtain ⟨g9, h⟩ := h
        refine j_idiv (pc := 32) C dX10_repeats_32 g9 ?_
        refine j_iconst (pc := 33) (v := 1) C dX10_repeats_33 (by decide) ?_
        refine j_callV (pc := 34) (As := [.int v2, .int (v1 / v2), .int (1 : Int32)]) (st := []) C hX 200 (m_X10_fill hM  h) (c_200 hM).1 (c_200 hM).2 rfl ok_X10_fill wd_1122 wd_1124 wd_45 ⟨by decide, by decide⟩ rfl rfl (Nat.le_of_ble_eq_true rfl) ⟨Nat.le_refl 0, Nat.le_refl 0⟩ dX10_repeats_34 (fun r V1 I11 J12 hp => ?_)
        obtain ⟨r10, rfl, rfl, h⟩ := hp
        show gJ X V 0 0 37 _ [.long r10] _ _
        refine j_lconst (pc := 37) (v := 0) C dX10_repeats_37 (by decide) ?_
        refine j_lcmp (pc := 38) C dX10_repeats_38 ?_
        refine j_if_le (pc := 39) (tgt := 51) C dX10_repeats_39 (by decide) (fun c13 => ?_) (fun c13 => ?_)
        · have h := h.1 c13
          refine gJ.sub [0, 1, 2] rfl ?_
          exact t_X10_repeats_51 hM C hX hR  hK2 hK10 h
        · have h := h.2 c13
          refine j_bipush (pc := 42) (v := 10) C dX10_repeats_42 (by decide) ?_
          refine j_iload_n (pc := 44) C dX10_repeats_44 rfl 2 rfl ?_
          refine j_imul (pc := 45) C dX10_repeats_45 ?_
          refine j_iload_n (pc := 46) C dX10_repeats_46 rfl 1 rfl ?_
          refine j_iload_n (pc := 47) C dX10_repeats_47 rfl 2 rfl ?_
          obtain ⟨g14, h⟩ := h
          refine j_idiv (pc := 48) C dX10_repeats_48 g14 ?_
          refine j_iadd (pc := 49) C dX10_repeats_49 ?_
          exact j_iret (pc := 50) C hR (Nat.zero_le _) (Nat.zero_le _) dX10_repeats_50 ⟨_, rfl, rfl, h⟩
set_option maxRecDepth 100000 in
set_option maxHeartbeats 4000000 in
theorem t_X10_repeats_10 {X : gX} {l : Launch} {D : va_G} {cy : Nat → ClassId} {nm : String} {V : gV} (hM : gModM V) (C : gC X cX10_repeats RX10 (some .int) 3 rm_X10_repeats) (hX : gIs X l D cy nm) {I : gI} {J : gL} {Po : Int32 → gI → gL → Prop} (hR : gR X (gPi V (fun x I' J' => Po x I' J'))) {v1 : Int32} {v2 : Int32} {K2 : Int32 → gI → gL → Prop} (hK2 : ∀ (y1 : Int32) (I1 : gI) (J1 : gL), K2 y1 I1 J1 → gJ X V 0 0 2 [(0, .ref (V.2.1 200)), (1, .int y1)] [] I1 J1) (h : w_X10_repeats_10 Po K2 v1 v2 I J) : gJ X V 0 0 10 [(0, .ref (V.2.1 200)), (1, .int v1), (2, .int v2)] [] I J := by
  unfold w_X10_repeats_10 at h
  obtain ⟨Inv, mu, h0, hs⟩ := h
  have key : ∀ (n : Nat) (v2 : Int32) (I : gI) (J : gL), Inv v2 I J → mu v2 I J < n → gJ X V 0 0 10 [(0, .ref (V.2.1 200)), (1, .int v1), (2, .int v2)] [] I J := by
    intro n
    induction n with
    | zero => intro v2 I J hi hn; exact absurd hn (Nat.not_lt_zero _)
    | succ n ih =>
      intro v2 I J hi hn
      exact t_X10_repeats_10b hM C hX hR  hK2 (fun u2 I1 J1 hk => ih u2 I1 J1 hk.1 (Nat.lt_of_lt_of_le hk.2 (Nat.le_of_lt_succ hn))) (hs v2 I J hi)
  exact key _ v2 I J h0 (Nat.lt_succ_self _)
set_option maxRecDepth 100000 in
set_option maxHeartbeats 4000000 in
theorem t_X10_repeats_2b {X : gX} {l : Launch} {D : va_G} {cy : Nat → ClassId} {nm : String} {V : gV} (hM : gModM V) (C : gC X cX10_repeats RX10 (some .int) 3 rm_X10_repeats) (hX : gIs X l D cy nm) {I : gI} {J : gL} {Po : Int32 → gI → gL → Prop} (hR : gR X (gPi V (fun x I' J' => Po x I' J'))) {v1 : Int32} {K2 : Int32 → gI → gL → Prop} (hK2 : ∀ (y1 : Int32) (I1 : gI) (J1 : gL), K2 y1 I1 J1 → gJ X V 0 0 2 [(0, .ref (V.2.1 200)), (1, .int y1)] [] I1 J1) (h : w_X10_repeats_2b Po K2 v1 I J) : gJ X V 0 0 2 [(0, .ref (V.2.1 200)), (1, .int v1)] [] I J := by
  unfold w_X10_repeats_2b at h
  refine j_iload_n (pc := 2) C dX10_repeats_2 rfl 1 rfl ?_
  refine j_bipush (pc := 3) (v := 16) C dX10_repeats_3 (by decide) ?_
  refine j_icmp_gt (pc := 5) (tgt := 63) C dX10_repeats_5 (by decide) (fun c1 => ?_) (fun c1 => ?_)
  · have h := h.1 c1
    refine j_iconst (pc := 63) (v := (-1)) C dX10_repeats_63 (by decide) ?_
    exact j_iret (pc := 64) C hR (Nat.zero_le _) (Nat.zero_le _) dX10_repeats_64 ⟨_, rfl, rfl, h⟩
  · have h := h.2 c1
    refine j_iconst (pc := 8) (v := 1) C dX10_repeats_8 (by decide) ?_
    refine j_istore_n (pc := 9) (lv' := [(2, .int (1 : Int32)), (0, .ref (V.2.1 200)), (1, .int v1)]) C dX10_repeats_9 rfl (by decide) rfl ?_
    refine gJ.sub [1, 2, 0] rfl ?_
    exact t_X10_repeats_10 hM C hX hR  hK2 h
set_option maxRecDepth 100000 in
set_option maxHeartbeats 4000000 in
theorem t_X10_repeats_2 {X : gX} {l : Launch} {D : va_G} {cy : Nat → ClassId} {nm : String} {V : gV} (hM : gModM V) (C : gC X cX10_repeats RX10 (some .int) 3 rm_X10_repeats) (hX : gIs X l D cy nm) {I : gI} {J : gL} {Po : Int32 → gI → gL → Prop} (hR : gR X (gPi V (fun x I' J' => Po x I' J'))) {v1 : Int32} (h : w_X10_repeats_2 Po v1 I J) : gJ X V 0 0 2 [(0, .ref (V.2.1 200)), (1, .int v1)] [] I J := by
  unfold w_X10_repeats_2 at h
  obtain ⟨Inv, mu, h0, hs⟩ := h
  have key : ∀ (n : Nat) (v1 : Int32) (I : gI) (J : gL), Inv v1 I J → mu v1 I J < n → gJ X V 0 0 2 [(0, .ref (V.2.1 200)), (1, .int v1)] [] I J := by
    intro n
    induction n with
    | zero => intro v1 I J hi hn; exact absurd hn (Nat.not_lt_zero _)
    | succ n ih =>
      intro v1 I J hi hn
      exact t_X10_repeats_2b hM C hX hR   (fun u1 I1 J1 hk => ih u1 I1 J1 hk.1 (Nat.lt_of_lt_of_le hk.2 (Nat.le_of_lt_succ hn))) (hs v1 I J hi)
  exact key _ v1 I J h0 (Nat.lt_succ_self _)
set_option maxRecDepth 100000 in
set_option maxHeartbeats 4000000 in
theorem m_X10_repeats {l : Launch} {D : va_G} {cy : Nat → ClassId} {V : gV} (hM : gModM V) {I : gI} {J : gL} {Po : Int32 → gI → gL → Prop} (h : wp_X10_repeats I J Po) : gMet l D cy yX10_repeats cX10_repeats 3 (some .int) rm_X10_repeats V [.ref (V.2.1 200)] I J (gPi V (fun x I' J' => Po x I' J')) := by
  refine gMet.of (by decide) (Nat.le_of_ble_eq_true rfl) (fun X hX C hR => ?_)
  have C : gC X cX10_repeats RX10 (some .int) 3 rm_X10_repeats := C
  show gJ X V 0 0 0 [(0, .ref (V.2.1 200))] [] I J
  unfold wp_X10_repeats at h
  refine j_iconst (pc := 0) (v := 1) C dX10_repeats_0 (by decide) ?_
  refine j_istore_n (pc := 1) (lv' := [(1, .int (1 : Int32)), (0, .ref (V.2.1 200))]) C dX10_repeats_1 rfl (by decide) rfl ?_
  refine gJ.sub [1, 0] rfl ?_
  exact t_X10_repeats_2 hM C hX hR   h
/-! TileRulesModel.radius()I -/
abbrev rm_X10_radius : Room := { frames := 2, cells := 0, slots := 0, locals := 56 }
theorem ok_X10_radius : gOk yX10_radius cX10_radius 2 (some .int) 0 := ⟨wd_1154, wd_74, by decide +kernel⟩
def w_X10_radius_2b  (Po : Int32 → gI → gL → Prop) (K2 : Int32 → gI → gL → Prop) (v1 : Int32) (I : gI) (J : gL) : Prop :=
  ((4 : Int32) < v1 → Po (-1 : Int32) I J) ∧ (¬ (4 : Int32) < v1 → wp_X10_fill v1 v1 (0 : Int32) I J (fun r2 I3 J4 => (¬ (lg_cmp r2 (0 : Int64)) = 0 → ∀ n6 : Int32, n6 = v1 + 1 → K2 n6 I3 J4) ∧ ((lg_cmp r2 (0 : Int64)) = 0 → Po v1 I3 J4)))
def w_X10_radius_2  (Po : Int32 → gI → gL → Prop)  (v1 : Int32) (I : gI) (J : gL) : Prop :=
  ∃ (Inv : Int32 → gI → gL → Prop) (mu : Int32 → gI → gL → Nat), Inv v1 I J ∧ ∀ (v1 : Int32) (I : gI) (J : gL), Inv v1 I J → w_X10_radius_2b  Po  (fun u1 I1 J1 => Inv u1 I1 J1 ∧ mu u1 I1 J1 < mu v1 I J) v1 I J
def wp_X10_radius (I : gI) (J : gL) (Po : Int32 → gI → gL → Prop) : Prop :=
  w_X10_radius_2 Po (1 : Int32) I J
set_option maxRecDepth 100000 in
set_option maxHeartbeats 4000000 in
theorem t_X10_radius_2b {X : gX} {l : Launch} {D : va_G} {cy : Nat → ClassId} {nm : String} {V : gV} (hM : gModM V) (C : gC X cX10_radius RX10 (some .int) 2 rm_X10_radius) (hX : gIs X l D cy nm) {I : gI} {J : gL} {Po : Int32 → gI → gL → Prop} (hR : gR X (gPi V (fun x I' J' => Po x I' J'))) {v1 : Int32} {K2 : Int32 → gI → gL → Prop} (hK2 : ∀ (y1 : Int32) (I1 : gI) (J1 : gL), K2 y1 I1 J1 → gJ X V 0 0 2 [(0, .ref (V.2.1 200)), (1, .int y1)] [] I1 J1) (h : w_X10_radius_2b Po K2 v1 I J) : gJ X V 0 0 2 [(0, .ref (V.2.1 200)), (1, .int v1)] [] I J := by
  unfold w_X10_radius_2b at h
  refine j_iload_n (pc := 2) C dX10_radius_2 rfl 1 rfl ?_
  refine j_iconst (pc := 3) (v := 4) C dX10_radius_3 (by decide) ?_
  refine j_icmp_gt (pc := 4) (tgt := 27) C dX10_radius_4 (by decide) (fun c1 => ?_) (fun c1 => ?_)
  · have h := h.1 c1
    refine j_iconst (pc := 27) (v := (-1)) C dX10_radius_27 (by decide) ?_
    exact j_iret (pc := 28) C hR (Nat.zero_le _) (Nat.zero_le _) dX10_radius_28 ⟨_, rfl, rfl, h⟩
  · have h := h.2 c1
    refine j_aload_n (pc := 7) C dX10_radius_7 rfl 0 rfl ?_
    refine j_iload_n (pc := 8) C dX10_radius_8 rfl 1 rfl ?_
    refine j_iload_n (pc := 9) C dX10_radius_9 rfl 1 rfl ?_
    refine j_iconst (pc := 10) (v := 0) C dX10_radius_10 (by decide) ?_
    refine j_callV (pc := 11) (As := [.int v1, .int v1, .int (0 : Int32)]) (st := []) C hX 200 (m_X10_fill hM  h) (c_200 hM).1 (c_200 hM).2 rfl ok_X10_fill wd_1122 wd_1124 wd_45 ⟨by decide, by decide⟩ rfl rfl (Nat.le_of_ble_eq_true rfl) ⟨Nat.le_refl 0, Nat.le_refl 0⟩ dX10_radius_11 (fun r V1 I3 J4 hp => ?_)
    obtain ⟨r2, rfl, rfl, h⟩ := hp
    show gJ X V 0 0 14 _ [.long r2] _ _
    refine j_lconst (pc := 14) (v := 0) C dX10_radius_14 (by decide) ?_
    refine j_lcmp (pc := 15) C dX10_radius_15 ?_
    refine j_if_ne (pc := 16) (tgt := 21) C dX10_radius_16 (by decide) (fun c5 => ?_) (fun c5 => ?_)
    · have h := h.1 c5
      obtain ⟨n6, en6⟩ : ∃ z : Int32, z = v1 + 1 := ⟨_, rfl⟩
      have h := h n6 en6
      refine j_iinc (pc := 21) (v := n6) (lv' := [(1, .int n6), (0, .ref (V.2.1 200))]) C dX10_radius_21 1 rfl (by rw [en6]; rfl) (by decide) rfl ?_
      refine j_goto (pc := 24) (tgt := 2) C dX10_radius_24 (by decide) ?_
      refine gJ.sub [1, 0] rfl ?_
      exact hK2 _ _ _ h
    · have h := h.2 c5
      refine j_iload_n (pc := 19) C dX10_radius_19 rfl 1 rfl ?_
      exact j_iret (pc := 20) C hR (Nat.zero_le _) (Nat.zero_le _) dX10_radius_20 ⟨_, rfl, rfl, h⟩
set_option maxRecDepth 100000 in
set_option maxHeartbeats 4000000 in
theorem t_X10_radius_2 {X : gX} {l : Launch} {D : va_G} {cy : Nat → ClassId} {nm : String} {V : gV} (hM : gModM V) (C : gC X cX10_radius RX10 (some .int) 2 rm_X10_radius) (hX : gIs X l D cy nm) {I : gI} {J : gL} {Po : Int32 → gI → gL → Prop} (hR : gR X (gPi V (fun x I' J' => Po x I' J'))) {v1 : Int32} (h : w_X10_radius_2 Po v1 I J) : gJ X V 0 0 2 [(0, .ref (V.2.1 200)), (1, .int v1)] [] I J := by
  unfold w_X10_radius_2 at h
  obtain ⟨Inv, mu, h0, hs⟩ := h
  have key : ∀ (n : Nat) (v1 : Int32) (I : gI) (J : gL), Inv v1 I J → mu v1 I J < n → gJ X V 0 0 2 [(0, .ref (V.2.1 200)), (1, .int v1)] [] I J := by
    intro n
    induction n with
    | zero => intro v1 I J hi hn; exact absurd hn (Nat.not_lt_zero _)
    | succ n ih =>
      intro v1 I J hi hn
      exact t_X10_radius_2b hM C hX hR   (fun u1 I1 J1 hk => ih u1 I1 J1 hk.1 (Nat.lt_of_lt_of_le hk.2 (Nat.le_of_lt_succ hn))) (hs v1 I J hi)
  exact key _ v1 I J h0 (Nat.lt_succ_self _)
set_option maxRecDepth 100000 in
set_option maxHeartbeats 4000000 in
theorem m_X10_radius {l : Launch} {D : va_G} {cy : Nat → ClassId} {V : gV} (hM : gModM V) {I : gI} {J : gL} {Po : Int32 → gI → gL → Prop} (h : wp_X10_radius I J Po) : gMet l D cy yX10_radius cX10_radius 2 (some .int) rm_X10_radius V [.ref (V.2.1 200)] I J (gPi V (fun x I' J' => Po x I' J')) := by
  refine gMet.of (by decide) (Nat.le_of_ble_eq_true rfl) (fun X hX C hR => ?_)
  have C : gC X cX10_radius RX10 (some .int) 2 rm_X10_radius := C
  show gJ X V 0 0 0 [(0, .ref (V.2.1 200))] [] I J
  unfold wp_X10_radius at h
  refine j_iconst (pc := 0) (v := 1) C dX10_radius_0 (by decide) ?_
  refine j_istore_n (pc := 1) (lv' := [(1, .int (1 : Int32)), (0, .ref (V.2.1 200))]) C dX10_radius_1 rfl (by decide) rfl ?_
  refine gJ.sub [1, 0] rfl ?_
  exact t_X10_radius_2 hM C hX hR   h
/-! TileRulesModel.middle(I)J -/
abbrev rm_X10_middle : Room := { frames := 1, cells := 0, slots := 0, locals := 29 }
theorem ok_X10_middle : gOk yX10_middle cX10_middle 5 (some .long) 1 := ⟨wd_1158, wd_74, by decide +kernel⟩
def w_X10_middle_148  (Po : Int64 → gI → gL → Prop) (K88 : Int64 → Int32 → Prop) (v1 : Int32) (v4 : Int32) (s0 : Int64) (s1 : Int64) (I : gI) (J : gL) : Prop :=
  ∀ n11 : Int64, n11 = (s1 + s0) → ∀ n12 : Int32, n12 = v4 + 1 → K88 n11 n12
def w_X10_middle_88b  (Po : Int64 → gI → gL → Prop) (K88 : Int64 → Int32 → Prop) (v1 : Int32) (v2 : Int64) (v4 : Int32) (I : gI) (J : gL) : Prop :=
  ((I 200 5) ≤ v4 → Po v2 I J) ∧ (¬ (I 200 5) ≤ v4 → vp_in v4 4096 ∧ wp_X10_digit (I 202 (v4).toNatClampNeg) (3 : Int32) (1 : Int32) I (fun r9 => (¬ r9 = v1 → w_X10_middle_148 Po K88 v1 v4 (0 : Int64) v2 I J) ∧ (r9 = v1 → vp_in v4 4096 ∧ vp_in (I 203 (v4).toNatClampNeg) 10000 ∧ vp_in v4 4096 ∧ vp_in ((10000 : Int32) + (I 204 (v4).toNatClampNeg)) 50000 ∧ w_X10_middle_148 Po K88 v1 v4 ((J 208 ((I 203 (v4).toNatClampNeg)).toNatClampNeg) * (J 206 (((10000 : Int32) + (I 204 (v4).toNatClampNeg))).toNatClampNeg)) v2 I J)))
def w_X10_middle_88  (Po : Int64 → gI → gL → Prop)  (v1 : Int32) (v2 : Int64) (v4 : Int32) (I : gI) (J : gL) : Prop :=
  ∃ (Inv : Int64 → Int32 → Prop) (mu : Int64 → Int32 → Nat), Inv v2 v4 ∧ ∀ (v2 : Int64) (v4 : Int32), Inv v2 v4 → w_X10_middle_88b  Po  (fun u2 u4 => Inv u2 u4 ∧ mu u2 u4 < mu v2 v4) v1 v2 v4 I J
def w_X10_middle_54b  (Po : Int64 → gI → gL → Prop) (K54 : Int32 → gL → Prop) (v1 : Int32) (v2 : Int32) (I : gI) (J : gL) : Prop :=
  ((I 200 5) ≤ v2 → w_X10_middle_88 Po v1 (0 : Int64) (0 : Int32) I J) ∧ (¬ (I 200 5) ≤ v2 → vp_in v2 4096 ∧ vp_in (I 204 (v2).toNatClampNeg) 10000 ∧ vp_in (I 204 (v2).toNatClampNeg) 10000 ∧ ∀ J20 : gL, J20 = gup J 208 ((I 204 (v2).toNatClampNeg)).toNatClampNeg ((J 208 ((I 204 (v2).toNatClampNeg)).toNatClampNeg) + (1 : Int64)) → ∀ n21 : Int32, n21 = v2 + 1 → K54 n21 J20)
def w_X10_middle_54  (Po : Int64 → gI → gL → Prop)  (v1 : Int32) (v2 : Int32) (I : gI) (J : gL) : Prop :=
  ∃ (Inv : Int32 → gL → Prop) (mu : Int32 → gL → Nat), Inv v2 J ∧ ∀ (v2 : Int32) (J : gL), Inv v2 J → w_X10_middle_54b  Po  (fun u2 J1 => Inv u2 J1 ∧ mu u2 J1 < mu v2 J) v1 v2 I J
def w_X10_middle_32b  (Po : Int64 → gI → gL → Prop) (K32 : Int32 → gL → Prop) (v1 : Int32) (v2 : Int32) (I : gI) (J : gL) : Prop :=
  ((10000 : Int32) ≤ v2 → w_X10_middle_54 Po v1 (0 : Int32) I J) ∧ (¬ (10000 : Int32) ≤ v2 → vp_in v2 10000 ∧ ∀ J23 : gL, J23 = gup J 208 (v2).toNatClampNeg (0 : Int64) → ∀ n24 : Int32, n24 = v2 + 1 → K32 n24 J23)
def w_X10_middle_32  (Po : Int64 → gI → gL → Prop)  (v1 : Int32) (v2 : Int32) (I : gI) (J : gL) : Prop :=
  ∃ (Inv : Int32 → gL → Prop) (mu : Int32 → gL → Nat), Inv v2 J ∧ ∀ (v2 : Int32) (J : gL), Inv v2 J → w_X10_middle_32b  Po  (fun u2 J1 => Inv u2 J1 ∧ mu u2 J1 < mu v2 J) v1 v2 I J
def wp_X10_middle (a1 : Int32) (I : gI) (J : gL) (Po : Int64 → gI → gL → Prop) : Prop :=
  wp_X10_isIn a1 (0 : Int32) ((I 200 0) - (1 : Int32)) (fun r1 => (¬ r1 = 0 → wp_X10_layRows (3 : Int32) (0 : Int32) I (fun I3 => wp_X10_tellWays (1 : Int32) (-1 : Int32) I3 J (fun J4 => w_X10_middle_32 Po a1 (0 : Int32) I3 J4))) ∧ (r1 = 0 → Po (-2 : Int64) I J))
set_option maxRecDepth 100000 in
set_option maxHeartbeats 4000000 in
theorem t_X10_middle_148 {X : gX} {l : Launch} {D : va_G} {cy : Nat → ClassId} {nm : String} {V : gV} (hM : gModM V) (C : gC X cX10_middle RX10 (some .long) 5 rm_X10_middle) (hX : gIs X l D cy nm) {I : gI} {J : gL} {Po : Int64 → gI → gL → Prop} (hR : gR X (gPl V (fun x I' J' => Po x I' J'))) {v1 : Int32} {v4 : Int32} {s0 : Int64} {s1 : Int64} {K88 : Int64 → Int32 → Prop} (hK88 : ∀ (y2 : Int64) (y4 : Int32), K88 y2 y4 → gJ X V 0 0 88 [(0, .ref (V.2.1 200)), (1, .int v1), (2, .long y2), (4, .int y4)] [] I J) (h : w_X10_middle_148 Po K88 v1 v4 s0 s1 I J) : gJ X V 0 0 148 [(0, .ref (V.2.1 200)), (1, .int v1), (4, .int v4)] [.long s0, .long s1] I J := by
  unfold w_X10_middle_148 at h
  refine j_ladd (pc := 148) C dX10_middle_148 ?_
  refine gJ.topl (fun n11 en11 => ?_)
  have h := h n11 en11
  refine j_lstore_n (pc := 149) (lv' := [(2, .long n11), (0, .ref (V.2.1 200)), (1, .int v1), (4, .int v4)]) C dX10_middle_149 rfl (by decide) rfl ?_
  obtain ⟨n12, en12⟩ : ∃ z : Int32, z = v4 + 1 := ⟨_, rfl⟩
  have h := h n12 en12
  refine j_iinc (pc := 150) (v := n12) (lv' := [(4, .int n12), (2, .long n11), (0, .ref (V.2.1 200)), (1, .int v1)]) C dX10_middle_150 3 rfl (by rw [en12]; rfl) (by decide) rfl ?_
  refine j_goto (pc := 153) (tgt := 88) C dX10_middle_153 (by decide) ?_
  refine gJ.sub [2, 3, 1, 0] rfl ?_
  exact hK88 _ _ h
set_option maxRecDepth 100000 in
set_option maxHeartbeats 4000000 in
theorem t_X10_middle_88b {X : gX} {l : Launch} {D : va_G} {cy : Nat → ClassId} {nm : String} {V : gV} (hM : gModM V) (C : gC X cX10_middle RX10 (some .long) 5 rm_X10_middle) (hX : gIs X l D cy nm) {I : gI} {J : gL} {Po : Int64 → gI → gL → Prop} (hR : gR X (gPl V (fun x I' J' => Po x I' J'))) {v1 : Int32} {v2 : Int64} {v4 : Int32} {K88 : Int64 → Int32 → Prop} (hK88 : ∀ (y2 : Int64) (y4 : Int32), K88 y2 y4 → gJ X V 0 0 88 [(0, .ref (V.2.1 200)), (1, .int v1), (2, .long y2), (4, .int y4)] [] I J) (h : w_X10_middle_88b Po K88 v1 v2 v4 I J) : gJ X V 0 0 88 [(0, .ref (V.2.1 200)), (1, .int v1), (2, .long v2), (4, .int v4)] [] I J := by
  unfold w_X10_middle_88b at h
  refine j_iload (pc := 88) C dX10_middle_88 3 rfl ?_
  refine j_aload_n (pc := 90) C dX10_middle_90 rfl 0 rfl ?_
  refine j_getI (pc := 91) C 200 5 (c_200 hM).1 (c_200 hM).2 rfl rfl (by decide) inw_X10 wd_971 dX10_middle_91 ?_
  refine j_icmp_ge (pc := 94) (tgt := 156) C dX10_middle_94 (by decide) (fun c7 => ?_) (fun c7 => ?_)
  · have h := h.1 c7
    refine j_lload_n (pc := 156) C dX10_middle_156 rfl 2 rfl ?_
    exact j_lret (pc := 157) C hR (Nat.zero_le _) (Nat.zero_le _) dX10_middle_157 ⟨_, rfl, rfl, h⟩
  · have h := h.2 c7
    refine j_lload_n (pc := 97) C dX10_middle_97 rfl 2 rfl ?_
    refine j_aload_n (pc := 98) C dX10_middle_98 rfl 0 rfl ?_
    refine j_aload_n (pc := 99) C dX10_middle_99 rfl 0 rfl ?_
    refine j_getR (pc := 100) C 200 2 202 (c_200 hM).1 (c_200 hM).2 rfl rfl (by decide) inw_X10 wd_968 dX10_middle_100 ?_
    refine j_iload (pc := 103) C dX10_middle_103 3 rfl ?_
    obtain ⟨g8, h⟩ := h
    refine j_iald (pc := 105) C 202 (c_202 hM).1 (c_202 hM).2 g8 dX10_middle_105 ?_
    refine j_iconst (pc := 106) (v := 3) C dX10_middle_106 (by decide) ?_
    refine j_iconst (pc := 107) (v := 1) C dX10_middle_107 (by decide) ?_
    refine j_callV (pc := 108) (As := [.int (I 202 (v4).toNatClampNeg), .int (3 : Int32), .int (1 : Int32)]) (st := [.long v2]) C hX 200 (m_X10_digit hM  h) (c_200 hM).1 (c_200 hM).2 rfl ok_X10_digit wd_1143 wd_1145 wd_49 ⟨by decide, by decide⟩ rfl rfl (Nat.le_of_ble_eq_true rfl) ⟨Nat.le_refl 0, Nat.le_refl 0⟩ dX10_middle_108 (fun r V1 I1 J1 hp => ?_)
    obtain ⟨r9, rfl, rfl, rfl, rfl, h⟩ := hp
    show gJ X V 0 0 111 _ [.int r9, .long v2] _ _
    refine j_iload_n (pc := 111) C dX10_middle_111 rfl 1 rfl ?_
    refine j_icmp_ne (pc := 112) (tgt := 147) C dX10_middle_112 (by decide) (fun c10 => ?_) (fun c10 => ?_)
    · have h := h.1 c10
      refine j_lconst (pc := 147) (v := 0) C dX10_middle_147 (by decide) ?_
      refine gJ.sub [0, 1, 3] rfl ?_
      exact t_X10_middle_148 hM C hX hR  hK88 h
    · have h := h.2 c10
      refine j_aload_n (pc := 115) C dX10_middle_115 rfl 0 rfl ?_
      refine j_getR (pc := 116) C 200 9 208 (c_200 hM).1 (c_200 hM).2 rfl rfl (by decide) inw_X10 wd_975 dX10_middle_116 ?_
      refine j_aload_n (pc := 119) C dX10_middle_119 rfl 0 rfl ?_
      refine j_getR (pc := 120) C 200 3 203 (c_200 hM).1 (c_200 hM).2 rfl rfl (by decide) inw_X10 wd_969 dX10_middle_120 ?_
      refine j_iload (pc := 123) C dX10_middle_123 3 rfl ?_
      obtain ⟨g13, h⟩ := h
      refine j_iald (pc := 125) C 203 (c_203 hM).1 (c_203 hM).2 g13 dX10_middle_125 ?_
      obtain ⟨g14, h⟩ := h
      refine j_lald (pc := 126) C 208 (c_208 hM).1 (c_208 hM).2 g14 dX10_middle_126 ?_
      refine j_aload_n (pc := 127) C dX10_middle_127 rfl 0 rfl ?_
      refine j_getR (pc := 128) C 200 7 206 (c_200 hM).1 (c_200 hM).2 rfl rfl (by decide) inw_X10 wd_973 dX10_middle_128 ?_
      refine j_sipush (pc := 131) (v := 10000) C dX10_middle_131 (by decide) ?_
      refine j_aload_n (pc := 134) C dX10_middle_134 rfl 0 rfl ?_
      refine j_getR (pc := 135) C 200 4 204 (c_200 hM).1 (c_200 hM).2 rfl rfl (by decide) inw_X10 wd_970 dX10_middle_135 ?_
      refine j_iload (pc := 138) C dX10_middle_138 3 rfl ?_
      obtain ⟨g15, h⟩ := h
      refine j_iald (pc := 140) C 204 (c_204 hM).1 (c_204 hM).2 g15 dX10_middle_140 ?_
      refine j_iadd (pc := 141) C dX10_middle_141 ?_
      obtain ⟨g16, h⟩ := h
      refine j_lald (pc := 142) C 206 (c_206 hM).1 (c_206 hM).2 g16 dX10_middle_142 ?_
      refine j_lmul (pc := 143) C dX10_middle_143 ?_
      refine j_goto (pc := 144) (tgt := 148) C dX10_middle_144 (by decide) ?_
      refine gJ.sub [0, 1, 3] rfl ?_
      exact t_X10_middle_148 hM C hX hR  hK88 h
set_option maxRecDepth 100000 in
set_option maxHeartbeats 4000000 in
theorem t_X10_middle_88 {X : gX} {l : Launch} {D : va_G} {cy : Nat → ClassId} {nm : String} {V : gV} (hM : gModM V) (C : gC X cX10_middle RX10 (some .long) 5 rm_X10_middle) (hX : gIs X l D cy nm) {I : gI} {J : gL} {Po : Int64 → gI → gL → Prop} (hR : gR X (gPl V (fun x I' J' => Po x I' J'))) {v1 : Int32} {v2 : Int64} {v4 : Int32} (h : w_X10_middle_88 Po v1 v2 v4 I J) : gJ X V 0 0 88 [(0, .ref (V.2.1 200)), (1, .int v1), (2, .long v2), (4, .int v4)] [] I J := by
  unfold w_X10_middle_88 at h
  obtain ⟨Inv, mu, h0, hs⟩ := h
  have key : ∀ (n : Nat) (v2 : Int64) (v4 : Int32), Inv v2 v4 → mu v2 v4 < n → gJ X V 0 0 88 [(0, .ref (V.2.1 200)), (1, .int v1), (2, .long v2), (4, .int v4)] [] I J := by
    intro n
    induction n with
    | zero => intro v2 v4 hi hn; exact absurd hn (Nat.not_lt_zero _)
    | succ n ih =>
      intro v2 v4 hi hn
      exact t_X10_middle_88b hM C hX hR   (fun u2 u4 hk => ih u2 u4 hk.1 (Nat.lt_of_lt_of_le hk.2 (Nat.le_of_lt_succ hn))) (hs v2 v4 hi)
  exact key _ v2 v4 h0 (Nat.lt_succ_self _)
set_option maxRecDepth 100000 in
set_option maxHeartbeats 4000000 in
theorem t_X10_middle_54b {X : gX} {l : Launch} {D : va_G} {cy : Nat → ClassId} {nm : String} {V : gV} (hM : gModM V) (C : gC X cX10_middle RX10 (some .long) 5 rm_X10_middle) (hX : gIs X l D cy nm) {I : gI} {J : gL} {Po : Int64 → gI → gL → Prop} (hR : gR X (gPl V (fun x I' J' => Po x I' J'))) {v1 : Int32} {v2 : Int32} {K54 : Int32 → gL → Prop} (hK54 : ∀ (y2 : Int32) (J1 : gL), K54 y2 J1 → gJ X V 0 0 54 [(0, .ref (V.2.1 200)), (1, .int v1), (2, .int y2)] [] I J1) (h : w_X10_middle_54b Po K54 v1 v2 I J) : gJ X V 0 0 54 [(0, .ref (V.2.1 200)), (1, .int v1), (2, .int v2)] [] I J := by
  unfold w_X10_middle_54b at h
  refine j_iload_n (pc := 54) C dX10_middle_54 rfl 2 rfl ?_
  refine j_aload_n (pc := 55) C dX10_middle_55 rfl 0 rfl ?_
  refine j_getI (pc := 56) C 200 5 (c_200 hM).1 (c_200 hM).2 rfl rfl (by decide) inw_X10 wd_971 dX10_middle_56 ?_
  refine j_icmp_ge (pc := 59) (tgt := 83) C dX10_middle_59 (by decide) (fun c6 => ?_) (fun c6 => ?_)
  · have h := h.1 c6
    refine j_lconst (pc := 83) (v := 0) C dX10_middle_83 (by decide) ?_
    refine j_lstore_n (pc := 84) (lv' := [(2, .long (0 : Int64)), (0, .ref (V.2.1 200)), (1, .int v1)]) C dX10_middle_84 rfl (by decide) rfl ?_
    refine j_iconst (pc := 85) (v := 0) C dX10_middle_85 (by decide) ?_
    refine j_istore (pc := 86) (lv' := [(4, .int (0 : Int32)), (2, .long (0 : Int64)), (0, .ref (V.2.1 200)), (1, .int v1)]) C dX10_middle_86 (by decide) rfl ?_
    refine gJ.sub [2, 3, 1, 0] rfl ?_
    exact t_X10_middle_88 hM C hX hR   h
  · have h := h.2 c6
    refine j_aload_n (pc := 62) C dX10_middle_62 rfl 0 rfl ?_
    refine j_getR (pc := 63) C 200 9 208 (c_200 hM).1 (c_200 hM).2 rfl rfl (by decide) inw_X10 wd_975 dX10_middle_63 ?_
    refine j_aload_n (pc := 66) C dX10_middle_66 rfl 0 rfl ?_
    refine j_getR (pc := 67) C 200 4 204 (c_200 hM).1 (c_200 hM).2 rfl rfl (by decide) inw_X10 wd_970 dX10_middle_67 ?_
    refine j_iload_n (pc := 70) C dX10_middle_70 rfl 2 rfl ?_
    obtain ⟨g17, h⟩ := h
    refine j_iald (pc := 71) C 204 (c_204 hM).1 (c_204 hM).2 g17 dX10_middle_71 ?_
    refine j_dup2_11 (pc := 72) C dX10_middle_72 rfl rfl ?_
    obtain ⟨g18, h⟩ := h
    refine j_lald (pc := 73) C 208 (c_208 hM).1 (c_208 hM).2 g18 dX10_middle_73 ?_
    refine j_lconst (pc := 74) (v := 1) C dX10_middle_74 (by decide) ?_
    refine j_ladd (pc := 75) C dX10_middle_75 ?_
    obtain ⟨g19, h⟩ := h
    refine j_last (pc := 76) C 208 (c_208 hM).1 (c_208 hM).2 g19 dX10_middle_76 ?_
    refine gJ.nmJ (fun J20 eJ20 => ?_)
    have h := h J20 eJ20
    obtain ⟨n21, en21⟩ : ∃ z : Int32, z = v2 + 1 := ⟨_, rfl⟩
    have h := h n21 en21
    refine j_iinc (pc := 77) (v := n21) (lv' := [(2, .int n21), (0, .ref (V.2.1 200)), (1, .int v1)]) C dX10_middle_77 2 rfl (by rw [en21]; rfl) (by decide) rfl ?_
    refine j_goto (pc := 80) (tgt := 54) C dX10_middle_80 (by decide) ?_
    refine gJ.sub [1, 2, 0] rfl ?_
    exact hK54 _ _ h
set_option maxRecDepth 100000 in
set_option maxHeartbeats 4000000 in
theorem t_X10_middle_54 {X : gX} {l : Launch} {D : va_G} {cy : Nat → ClassId} {nm : String} {V : gV} (hM : gModM V) (C : gC X cX10_middle RX10 (some .long) 5 rm_X10_middle) (hX : gIs X l D cy nm) {I : gI} {J : gL} {Po : Int64 → gI → gL → Prop} (hR : gR X (gPl V (fun x I' J' => Po x I' J'))) {v1 : Int32} {v2 : Int32} (h : w_X10_middle_54 Po v1 v2 I J) : gJ X V 0 0 54 [(0, .ref (V.2.1 200)), (1, .int v1), (2, .int v2)] [] I J := by
  unfold w_X10_middle_54 at h
  obtain ⟨Inv, mu, h0, hs⟩ := h
  have key : ∀ (n : Nat) (v2 : Int32) (J : gL), Inv v2 J → mu v2 J < n → gJ X V 0 0 54 [(0, .ref (V.2.1 200)), (1, .int v1), (2, .int v2)] [] I J := by
    intro n
    induction n with
    | zero => intro v2 J hi hn; exact absurd hn (Nat.not_lt_zero _)
    | succ n ih =>
      intro v2 J hi hn
      exact t_X10_middle_54b hM C hX hR   (fun u2 J1 hk => ih u2 J1 hk.1 (Nat.lt_of_lt_of_le hk.2 (Nat.le_of_lt_succ hn))) (hs v2 J hi)
  exact key _ v2 J h0 (Nat.lt_succ_self _)
set_option maxRecDepth 100000 in
set_option maxHeartbeats 4000000 in
theorem t_X10_middle_32b {X : gX} {l : Launch} {D : va_G} {cy : Nat → ClassId} {nm : String} {V : gV} (hM : gModM V) (C : gC X cX10_middle RX10 (some .long) 5 rm_X10_middle) (hX : gIs X l D cy nm) {I : gI} {J : gL} {Po : Int64 → gI → gL → Prop} (hR : gR X (gPl V (fun x I' J' => Po x I' J'))) {v1 : Int32} {v2 : Int32} {K32 : Int32 → gL → Prop} (hK32 : ∀ (y2 : Int32) (J1 : gL), K32 y2 J1 → gJ X V 0 0 32 [(0, .ref (V.2.1 200)), (1, .int v1), (2, .int y2)] [] I J1) (h : w_X10_middle_32b Po K32 v1 v2 I J) : gJ X V 0 0 32 [(0, .ref (V.2.1 200)), (1, .int v1), (2, .int v2)] [] I J := by
  unfold w_X10_middle_32b at h
  refine j_iload_n (pc := 32) C dX10_middle_32 rfl 2 rfl ?_
  refine j_sipush (pc := 33) (v := 10000) C dX10_middle_33 (by decide) ?_
  refine j_icmp_ge (pc := 36) (tgt := 52) C dX10_middle_36 (by decide) (fun c5 => ?_) (fun c5 => ?_)
  · have h := h.1 c5
    refine j_iconst (pc := 52) (v := 0) C dX10_middle_52 (by decide) ?_
    refine j_istore_n (pc := 53) (lv' := [(2, .int (0 : Int32)), (0, .ref (V.2.1 200)), (1, .int v1)]) C dX10_middle_53 rfl (by decide) rfl ?_
    refine gJ.sub [1, 2, 0] rfl ?_
    exact t_X10_middle_54 hM C hX hR   h
  · have h := h.2 c5
    refine j_aload_n (pc := 39) C dX10_middle_39 rfl 0 rfl ?_
    refine j_getR (pc := 40) C 200 9 208 (c_200 hM).1 (c_200 hM).2 rfl rfl (by decide) inw_X10 wd_975 dX10_middle_40 ?_
    refine j_iload_n (pc := 43) C dX10_middle_43 rfl 2 rfl ?_
    refine j_lconst (pc := 44) (v := 0) C dX10_middle_44 (by decide) ?_
    obtain ⟨g22, h⟩ := h
    refine j_last (pc := 45) C 208 (c_208 hM).1 (c_208 hM).2 g22 dX10_middle_45 ?_
    refine gJ.nmJ (fun J23 eJ23 => ?_)
    have h := h J23 eJ23
    obtain ⟨n24, en24⟩ : ∃ z : Int32, z = v2 + 1 := ⟨_, rfl⟩
    have h := h n24 en24
    refine j_iinc (pc := 46) (v := n24) (lv' := [(2, .int n24), (0, .ref (V.2.1 200)), (1, .int v1)]) C dX10_middle_46 2 rfl (by rw [en24]; rfl) (by decide) rfl ?_
    refine j_goto (pc := 49) (tgt := 32) C dX10_middle_49 (by decide) ?_
    refine gJ.sub [1, 2, 0] rfl ?_
    exact hK32 _ _ h
set_option maxRecDepth 100000 in
set_option maxHeartbeats 4000000 in
theorem t_X10_middle_32 {X : gX} {l : Launch} {D : va_G} {cy : Nat → ClassId} {nm : String} {V : gV} (hM : gModM V) (C : gC X cX10_middle RX10 (some .long) 5 rm_X10_middle) (hX : gIs X l D cy nm) {I : gI} {J : gL} {Po : Int64 → gI → gL → Prop} (hR : gR X (gPl V (fun x I' J' => Po x I' J'))) {v1 : Int32} {v2 : Int32} (h : w_X10_middle_32 Po v1 v2 I J) : gJ X V 0 0 32 [(0, .ref (V.2.1 200)), (1, .int v1), (2, .int v2)] [] I J := by
  unfold w_X10_middle_32 at h
  obtain ⟨Inv, mu, h0, hs⟩ := h
  have key : ∀ (n : Nat) (v2 : Int32) (J : gL), Inv v2 J → mu v2 J < n → gJ X V 0 0 32 [(0, .ref (V.2.1 200)), (1, .int v1), (2, .int v2)] [] I J := by
    intro n
    induction n with
    | zero => intro v2 J hi hn; exact absurd hn (Nat.not_lt_zero _)
    | succ n ih =>
      intro v2 J hi hn
      exact t_X10_middle_32b hM C hX hR   (fun u2 J1 hk => ih u2 J1 hk.1 (Nat.lt_of_lt_of_le hk.2 (Nat.le_of_lt_succ hn))) (hs v2 J hi)
  exact key _ v2 J h0 (Nat.lt_succ_self _)
set_option maxRecDepth 100000 in
set_option maxHeartbeats 4000000 in
theorem m_X10_middle {l : Launch} {D : va_G} {cy : Nat → ClassId} {V : gV} (hM : gModM V) {a1 : Int32} {I : gI} {J : gL} {Po : Int64 → gI → gL → Prop} (h : wp_X10_middle a1 I J Po) : gMet l D cy yX10_middle cX10_middle 5 (some .long) rm_X10_middle V [.ref (V.2.1 200), .int a1] I J (gPl V (fun x I' J' => Po x I' J')) := by
  refine gMet.of (by decide) (Nat.le_of_ble_eq_true rfl) (fun X hX C hR => ?_)
  have C : gC X cX10_middle RX10 (some .long) 5 rm_X10_middle := C
  show gJ X V 0 0 0 [(0, .ref (V.2.1 200)), (1, .int a1)] [] I J
  unfold wp_X10_middle at h
  refine j_iload_n (pc := 0) C dX10_middle_0 rfl 1 rfl ?_
  refine j_iconst (pc := 1) (v := 0) C dX10_middle_1 (by decide) ?_
  refine j_aload_n (pc := 2) C dX10_middle_2 rfl 0 rfl ?_
  refine j_getI (pc := 3) C 200 0 (c_200 hM).1 (c_200 hM).2 rfl rfl (by decide) inw_X10 wd_966 dX10_middle_3 ?_
  refine j_iconst (pc := 6) (v := 1) C dX10_middle_6 (by decide) ?_
  refine j_isub (pc := 7) C dX10_middle_7 ?_
  refine j_callS (pc := 8) (As := [.int a1, .int (0 : Int32), .int ((I 200 0) - (1 : Int32))]) (st := []) C hX (m_X10_isIn   h) ok_X10_isIn wd_1108 wd_1109 ⟨by decide, by decide⟩ rfl rfl (Nat.le_of_ble_eq_true rfl) ⟨Nat.le_refl 0, Nat.le_refl 0⟩ dX10_middle_8 (fun r V1 I1 J1 hp => ?_)
  obtain ⟨r1, rfl, rfl, rfl, rfl, h⟩ := hp
  show gJ X V 0 0 11 _ [.int r1] _ _
  refine j_if_ne (pc := 11) (tgt := 18) C dX10_middle_11 (by decide) (fun c2 => ?_) (fun c2 => ?_)
  · have h := h.1 c2
    refine j_aload_n (pc := 18) C dX10_middle_18 rfl 0 rfl ?_
    refine j_iconst (pc := 19) (v := 3) C dX10_middle_19 (by decide) ?_
    refine j_iconst (pc := 20) (v := 0) C dX10_middle_20 (by decide) ?_
    refine j_callV (pc := 21) (As := [.int (3 : Int32), .int (0 : Int32)]) (st := []) C hX 200 (m_X10_layRows hM  h) (c_200 hM).1 (c_200 hM).2 rfl ok_X10_layRows wd_1126 wd_1128 wd_46 ⟨by decide, by decide⟩ rfl rfl (Nat.le_of_ble_eq_true rfl) ⟨Nat.le_refl 0, Nat.le_refl 0⟩ dX10_middle_21 (fun r V1 I3 J1 hp => ?_)
    obtain ⟨rfl, rfl, rfl, h⟩ := hp
    show gJ X V 0 0 24 _ [] _ _
    refine j_aload_n (pc := 24) C dX10_middle_24 rfl 0 rfl ?_
    refine j_iconst (pc := 25) (v := 1) C dX10_middle_25 (by decide) ?_
    refine j_iconst (pc := 26) (v := (-1)) C dX10_middle_26 (by decide) ?_
    refine j_callV (pc := 27) (As := [.int (1 : Int32), .int (-1 : Int32)]) (st := []) C hX 200 (m_X10_tellWays hM  h) (c_200 hM).1 (c_200 hM).2 rfl ok_X10_tellWays wd_1130 wd_1132 wd_47 ⟨by decide, by decide⟩ rfl rfl (Nat.le_of_ble_eq_true rfl) ⟨Nat.le_refl 0, Nat.le_refl 0⟩ dX10_middle_27 (fun r V1 I1 J4 hp => ?_)
    obtain ⟨rfl, rfl, rfl, h⟩ := hp
    show gJ X V 0 0 30 _ [] _ _
    refine j_iconst (pc := 30) (v := 0) C dX10_middle_30 (by decide) ?_
    refine j_istore_n (pc := 31) (lv' := [(2, .int (0 : Int32)), (0, .ref (V.2.1 200)), (1, .int a1)]) C dX10_middle_31 rfl (by decide) rfl ?_
    refine gJ.sub [1, 2, 0] rfl ?_
    exact t_X10_middle_32 hM C hX hR   h
  · have h := h.2 c2
    refine j_ldc2 (pc := 14) (v := (-2)) C dX10_middle_14 wd_1138 ?_
    exact j_lret (pc := 17) C hR (Nat.zero_le _) (Nat.zero_le _) dX10_middle_17 ⟨_, rfl, rfl, h⟩
/-! TileRulesModel.ones(I)I -/
abbrev rm_X10_ones : Room := { frames := 0, cells := 0, slots := 0, locals := 0 }
theorem ok_X10_ones : gOk yX10_ones cX10_ones 3 (some .int) 1 := ⟨wd_1166, wd_74, by decide +kernel⟩
def w_X10_ones_4b  (Po : Int32 → Prop) (K4 : Int32 → Int32 → Prop) (v0 : Int32) (v1 : Int32) (v2 : Int32) : Prop :=
  ((25 : Int32) ≤ v2 → Po v1) ∧ (¬ (25 : Int32) ≤ v2 → ∀ n2 : Int32, n2 = (v1 + ((v0 >>> (v2 &&& 31)) &&& (1 : Int32))) → ∀ n3 : Int32, n3 = v2 + 1 → K4 n2 n3)
def w_X10_ones_4  (Po : Int32 → Prop)  (v0 : Int32) (v1 : Int32) (v2 : Int32) : Prop :=
  ∃ (Inv : Int32 → Int32 → Prop) (mu : Int32 → Int32 → Nat), Inv v1 v2 ∧ ∀ (v1 : Int32) (v2 : Int32), Inv v1 v2 → w_X10_ones_4b  Po  (fun u1 u2 => Inv u1 u2 ∧ mu u1 u2 < mu v1 v2) v0 v1 v2
def wp_X10_ones (a0 : Int32) (Po : Int32 → Prop) : Prop :=
  w_X10_ones_4 Po a0 (0 : Int32) (0 : Int32)
set_option maxRecDepth 100000 in
set_option maxHeartbeats 4000000 in
theorem t_X10_ones_4b {X : gX} {l : Launch} {D : va_G} {cy : Nat → ClassId} {nm : String} {V : gV} (C : gC X cX10_ones RX10 (some .int) 3 rm_X10_ones) (hX : gIs X l D cy nm) {I : gI} {J : gL} {Po : Int32 → Prop} (hR : gR X (gPi V (fun x I' J' => I = I' ∧ J = J' ∧ Po x))) {v0 : Int32} {v1 : Int32} {v2 : Int32} {K4 : Int32 → Int32 → Prop} (hK4 : ∀ (y1 : Int32) (y2 : Int32), K4 y1 y2 → gJ X V 0 0 4 [(0, .int v0), (1, .int y1), (2, .int y2)] [] I J) (h : w_X10_ones_4b Po K4 v0 v1 v2) : gJ X V 0 0 4 [(0, .int v0), (1, .int v1), (2, .int v2)] [] I J := by
  unfold w_X10_ones_4b at h
  refine j_iload_n (pc := 4) C dX10_ones_4 rfl 2 rfl ?_
  refine j_bipush (pc := 5) (v := 25) C dX10_ones_5 (by decide) ?_
  refine j_icmp_ge (pc := 7) (tgt := 24) C dX10_ones_7 (by decide) (fun c1 => ?_) (fun c1 => ?_)
  · have h := h.1 c1
    refine j_iload_n (pc := 24) C dX10_ones_24 rfl 1 rfl ?_
    exact j_iret (pc := 25) C hR (Nat.zero_le _) (Nat.zero_le _) dX10_ones_25 ⟨_, rfl, rfl, rfl, rfl, h⟩
  · have h := h.2 c1
    refine j_iload_n (pc := 10) C dX10_ones_10 rfl 1 rfl ?_
    refine j_iload_n (pc := 11) C dX10_ones_11 rfl 0 rfl ?_
    refine j_iload_n (pc := 12) C dX10_ones_12 rfl 2 rfl ?_
    refine j_ishr (pc := 13) C dX10_ones_13 ?_
    refine j_iconst (pc := 14) (v := 1) C dX10_ones_14 (by decide) ?_
    refine j_iand (pc := 15) C dX10_ones_15 ?_
    refine j_iadd (pc := 16) C dX10_ones_16 ?_
    refine gJ.topi (fun n2 en2 => ?_)
    have h := h n2 en2
    refine j_istore_n (pc := 17) (lv' := [(1, .int n2), (0, .int v0), (2, .int v2)]) C dX10_ones_17 rfl (by decide) rfl ?_
    obtain ⟨n3, en3⟩ : ∃ z : Int32, z = v2 + 1 := ⟨_, rfl⟩
    have h := h n3 en3
    refine j_iinc (pc := 18) (v := n3) (lv' := [(2, .int n3), (1, .int n2), (0, .int v0)]) C dX10_ones_18 2 rfl (by rw [en3]; rfl) (by decide) rfl ?_
    refine j_goto (pc := 21) (tgt := 4) C dX10_ones_21 (by decide) ?_
    refine gJ.sub [2, 1, 0] rfl ?_
    exact hK4 _ _ h
set_option maxRecDepth 100000 in
set_option maxHeartbeats 4000000 in
theorem t_X10_ones_4 {X : gX} {l : Launch} {D : va_G} {cy : Nat → ClassId} {nm : String} {V : gV} (C : gC X cX10_ones RX10 (some .int) 3 rm_X10_ones) (hX : gIs X l D cy nm) {I : gI} {J : gL} {Po : Int32 → Prop} (hR : gR X (gPi V (fun x I' J' => I = I' ∧ J = J' ∧ Po x))) {v0 : Int32} {v1 : Int32} {v2 : Int32} (h : w_X10_ones_4 Po v0 v1 v2) : gJ X V 0 0 4 [(0, .int v0), (1, .int v1), (2, .int v2)] [] I J := by
  unfold w_X10_ones_4 at h
  obtain ⟨Inv, mu, h0, hs⟩ := h
  have key : ∀ (n : Nat) (v1 : Int32) (v2 : Int32), Inv v1 v2 → mu v1 v2 < n → gJ X V 0 0 4 [(0, .int v0), (1, .int v1), (2, .int v2)] [] I J := by
    intro n
    induction n with
    | zero => intro v1 v2 hi hn; exact absurd hn (Nat.not_lt_zero _)
    | succ n ih =>
      intro v1 v2 hi hn
      exact t_X10_ones_4b  C hX hR   (fun u1 u2 hk => ih u1 u2 hk.1 (Nat.lt_of_lt_of_le hk.2 (Nat.le_of_lt_succ hn))) (hs v1 v2 hi)
  exact key _ v1 v2 h0 (Nat.lt_succ_self _)
set_option maxRecDepth 100000 in
set_option maxHeartbeats 4000000 in
theorem m_X10_ones {l : Launch} {D : va_G} {cy : Nat → ClassId} {V : gV} {a0 : Int32} {I : gI} {J : gL} {Po : Int32 → Prop} (h : wp_X10_ones a0 Po) : gMet l D cy yX10_ones cX10_ones 3 (some .int) rm_X10_ones V [.int a0] I J (gPi V (fun x I' J' => I = I' ∧ J = J' ∧ Po x)) := by
  refine gMet.of (by decide) (Nat.le_of_ble_eq_true rfl) (fun X hX C hR => ?_)
  have C : gC X cX10_ones RX10 (some .int) 3 rm_X10_ones := C
  show gJ X V 0 0 0 [(0, .int a0)] [] I J
  unfold wp_X10_ones at h
  refine j_iconst (pc := 0) (v := 0) C dX10_ones_0 (by decide) ?_
  refine j_istore_n (pc := 1) (lv' := [(1, .int (0 : Int32)), (0, .int a0)]) C dX10_ones_1 rfl (by decide) rfl ?_
  refine j_iconst (pc := 2) (v := 0) C dX10_ones_2 (by decide) ?_
  refine j_istore_n (pc := 3) (lv' := [(2, .int (0 : Int32)), (1, .int (0 : Int32)), (0, .int a0)]) C dX10_ones_3 rfl (by decide) rfl ?_
  refine gJ.sub [2, 1, 0] rfl ?_
  exact t_X10_ones_4  C hX hR   h
/-! TileRulesModel.hangs(I)Z -/
abbrev rm_X10_hangs : Room := { frames := 0, cells := 0, slots := 0, locals := 0 }
theorem ok_X10_hangs : gOk yX10_hangs cX10_hangs 4 (some .boolean) 1 := ⟨wd_1169, wd_74, by decide +kernel⟩
def w_X10_hangs_110  (Po : Int32 → Prop) (K7 : Int32 → Int32 → Prop) (K15 : Int32 → Int32 → Prop) (v0 : Int32) (v1 : Int32) (v2 : Int32) (v3 : Int32) : Prop :=
  ∀ n7 : Int32, n7 = v3 + 1 → K15 v1 n7
def w_X10_hangs_108  (Po : Int32 → Prop) (K7 : Int32 → Int32 → Prop) (K15 : Int32 → Int32 → Prop) (v0 : Int32) (v2 : Int32) (v3 : Int32) (s0 : Int32) (s1 : Int32) : Prop :=
  ∀ n17 : Int32, n17 = (s1 ||| s0) → w_X10_hangs_110 Po K7 K15 v0 n17 v2 v3
def w_X10_hangs_88  (Po : Int32 → Prop) (K7 : Int32 → Int32 → Prop) (K15 : Int32 → Int32 → Prop) (v0 : Int32) (v2 : Int32) (v3 : Int32) (s0 : Int32) (s1 : Int32) : Prop :=
  ∀ n15 : Int32, n15 = (s1 ||| s0) → ((20 : Int32) ≤ v3 → w_X10_hangs_108 Po K7 K15 v0 v2 v3 (0 : Int32) n15) ∧ (¬ (20 : Int32) ≤ v3 → w_X10_hangs_108 Po K7 K15 v0 v2 v3 (v0 &&& ((1 : Int32) <<< ((v3 + (5 : Int32)) &&& 31))) n15)
def w_X10_hangs_69  (Po : Int32 → Prop) (K7 : Int32 → Int32 → Prop) (K15 : Int32 → Int32 → Prop) (v0 : Int32) (v2 : Int32) (v3 : Int32) (s0 : Int32) (s1 : Int32) : Prop :=
  ∀ n13 : Int32, n13 = (s1 ||| s0) → (v3 ≤ (4 : Int32) → w_X10_hangs_88 Po K7 K15 v0 v2 v3 (0 : Int32) n13) ∧ (¬ v3 ≤ (4 : Int32) → w_X10_hangs_88 Po K7 K15 v0 v2 v3 (v0 &&& ((1 : Int32) <<< ((v3 - (5 : Int32)) &&& 31))) n13)
def w_X10_hangs_48  (Po : Int32 → Prop) (K7 : Int32 → Int32 → Prop) (K15 : Int32 → Int32 → Prop) (v0 : Int32) (v2 : Int32) (v3 : Int32) (s0 : Int32) (s1 : Int32) : Prop :=
  ∀ n10 : Int32, n10 = (s1 ||| s0) → ¬ (5 : Int32) = 0 ∧ ((4 : Int32) ≤ (v3 - v3 / (5 : Int32) * (5 : Int32)) → w_X10_hangs_69 Po K7 K15 v0 v2 v3 (0 : Int32) n10) ∧ (¬ (4 : Int32) ≤ (v3 - v3 / (5 : Int32) * (5 : Int32)) → w_X10_hangs_69 Po K7 K15 v0 v2 v3 (v0 &&& ((1 : Int32) <<< ((v3 + (1 : Int32)) &&& 31))) n10)
def w_X10_hangs_15b  (Po : Int32 → Prop) (K7 : Int32 → Int32 → Prop) (K15 : Int32 → Int32 → Prop) (v0 : Int32) (v1 : Int32) (v2 : Int32) (v3 : Int32) : Prop :=
  ((25 : Int32) ≤ v3 → ∀ n5 : Int32, n5 = v2 + 1 → K7 v1 n5) ∧ (¬ (25 : Int32) ≤ v3 → (¬ ((v1 >>> (v3 &&& 31)) &&& (1 : Int32)) = (1 : Int32) → w_X10_hangs_110 Po K7 K15 v0 v1 v2 v3) ∧ (((v1 >>> (v3 &&& 31)) &&& (1 : Int32)) = (1 : Int32) → ¬ (5 : Int32) = 0 ∧ ((v3 - v3 / (5 : Int32) * (5 : Int32)) ≤ 0 → w_X10_hangs_48 Po K7 K15 v0 v2 v3 (0 : Int32) v1) ∧ (¬ (v3 - v3 / (5 : Int32) * (5 : Int32)) ≤ 0 → w_X10_hangs_48 Po K7 K15 v0 v2 v3 (v0 &&& ((1 : Int32) <<< ((v3 - (1 : Int32)) &&& 31))) v1)))
def w_X10_hangs_15  (Po : Int32 → Prop) (K7 : Int32 → Int32 → Prop) (v0 : Int32) (v1 : Int32) (v2 : Int32) (v3 : Int32) : Prop :=
  ∃ (Inv : Int32 → Int32 → Prop) (mu : Int32 → Int32 → Nat), Inv v1 v3 ∧ ∀ (v1 : Int32) (v3 : Int32), Inv v1 v3 → w_X10_hangs_15b  Po K7 (fun u1 u3 => Inv u1 u3 ∧ mu u1 u3 < mu v1 v3) v0 v1 v2 v3
def w_X10_hangs_7b  (Po : Int32 → Prop) (K7 : Int32 → Int32 → Prop) (v0 : Int32) (v1 : Int32) (v2 : Int32) : Prop :=
  ((25 : Int32) ≤ v2 → (¬ v1 = v0 → Po (0 : Int32)) ∧ (v1 = v0 → Po (1 : Int32))) ∧ (¬ (25 : Int32) ≤ v2 → w_X10_hangs_15 Po K7 v0 v1 v2 (0 : Int32))
def w_X10_hangs_7  (Po : Int32 → Prop)  (v0 : Int32) (v1 : Int32) (v2 : Int32) : Prop :=
  ∃ (Inv : Int32 → Int32 → Prop) (mu : Int32 → Int32 → Nat), Inv v1 v2 ∧ ∀ (v1 : Int32) (v2 : Int32), Inv v1 v2 → w_X10_hangs_7b  Po  (fun u1 u2 => Inv u1 u2 ∧ mu u1 u2 < mu v1 v2) v0 v1 v2
def wp_X10_hangs (a0 : Int32) (Po : Int32 → Prop) : Prop :=
  ∀ n1 : Int32, n1 = (a0 &&& (-a0)) → w_X10_hangs_7 Po a0 n1 (0 : Int32)
set_option maxRecDepth 100000 in
set_option maxHeartbeats 4000000 in
theorem t_X10_hangs_110 {X : gX} {l : Launch} {D : va_G} {cy : Nat → ClassId} {nm : String} {V : gV} (C : gC X cX10_hangs RX10 (some .boolean) 4 rm_X10_hangs) (hX : gIs X l D cy nm) {I : gI} {J : gL} {Po : Int32 → Prop} (hR : gR X (gPi V (fun x I' J' => I = I' ∧ J = J' ∧ Po x))) {v0 : Int32} {v1 : Int32} {v2 : Int32} {v3 : Int32} {K7 : Int32 → Int32 → Prop} {K15 : Int32 → Int32 → Prop} (hK7 : ∀ (y1 : Int32) (y2 : Int32), K7 y1 y2 → gJ X V 0 0 7 [(0, .int v0), (1, .int y1), (2, .int y2)] [] I J) (hK15 : ∀ (y1 : Int32) (y3 : Int32), K15 y1 y3 → gJ X V 0 0 15 [(0, .int v0), (1, .int y1), (2, .int v2), (3, .int y3)] [] I J) (h : w_X10_hangs_110 Po K7 K15 v0 v1 v2 v3) : gJ X V 0 0 110 [(0, .int v0), (1, .int v1), (2, .int v2), (3, .int v3)] [] I J := by
  unfold w_X10_hangs_110 at h
  obtain ⟨n7, en7⟩ : ∃ z : Int32, z = v3 + 1 := ⟨_, rfl⟩
  have h := h n7 en7
  refine j_iinc (pc := 110) (v := n7) (lv' := [(3, .int n7), (0, .int v0), (1, .int v1), (2, .int v2)]) C dX10_hangs_110 3 rfl (by rw [en7]; rfl) (by decide) rfl ?_
  refine j_goto (pc := 113) (tgt := 15) C dX10_hangs_113 (by decide) ?_
  refine gJ.sub [1, 2, 3, 0] rfl ?_
  exact hK15 _ _ h
set_option maxRecDepth 100000 in
set_option maxHeartbeats 4000000 in
theorem t_X10_hangs_108 {X : gX} {l : Launch} {D : va_G} {cy : Nat → ClassId} {nm : String} {V : gV} (C : gC X cX10_hangs RX10 (some .boolean) 4 rm_X10_hangs) (hX : gIs X l D cy nm) {I : gI} {J : gL} {Po : Int32 → Prop} (hR : gR X (gPi V (fun x I' J' => I = I' ∧ J = J' ∧ Po x))) {v0 : Int32} {v2 : Int32} {v3 : Int32} {s0 : Int32} {s1 : Int32} {K7 : Int32 → Int32 → Prop} {K15 : Int32 → Int32 → Prop} (hK7 : ∀ (y1 : Int32) (y2 : Int32), K7 y1 y2 → gJ X V 0 0 7 [(0, .int v0), (1, .int y1), (2, .int y2)] [] I J) (hK15 : ∀ (y1 : Int32) (y3 : Int32), K15 y1 y3 → gJ X V 0 0 15 [(0, .int v0), (1, .int y1), (2, .int v2), (3, .int y3)] [] I J) (h : w_X10_hangs_108 Po K7 K15 v0 v2 v3 s0 s1) : gJ X V 0 0 108 [(0, .int v0), (2, .int v2), (3, .int v3)] [.int s0, .int s1] I J := by
  unfold w_X10_hangs_108 at h
  refine j_ior (pc := 108) C dX10_hangs_108 ?_
  refine gJ.topi (fun n17 en17 => ?_)
  have h := h n17 en17
  refine j_istore_n (pc := 109) (lv' := [(1, .int n17), (0, .int v0), (2, .int v2), (3, .int v3)]) C dX10_hangs_109 rfl (by decide) rfl ?_
  refine gJ.sub [1, 0, 2, 3] rfl ?_
  exact t_X10_hangs_110  C hX hR  hK7 hK15 h
set_option maxRecDepth 100000 in
set_option maxHeartbeats 4000000 in
theorem t_X10_hangs_88 {X : gX} {l : Launch} {D : va_G} {cy : Nat → ClassId} {nm : String} {V : gV} (C : gC X cX10_hangs RX10 (some .boolean) 4 rm_X10_hangs) (hX : gIs X l D cy nm) {I : gI} {J : gL} {Po : Int32 → Prop} (hR : gR X (gPi V (fun x I' J' => I = I' ∧ J = J' ∧ Po x))) {v0 : Int32} {v2 : Int32} {v3 : Int32} {s0 : Int32} {s1 : Int32} {K7 : Int32 → Int32 → Prop} {K15 : Int32 → Int32 → Prop} (hK7 : ∀ (y1 : Int32) (y2 : Int32), K7 y1 y2 → gJ X V 0 0 7 [(0, .int v0), (1, .int y1), (2, .int y2)] [] I J) (hK15 : ∀ (y1 : Int32) (y3 : Int32), K15 y1 y3 → gJ X V 0 0 15 [(0, .int v0), (1, .int y1), (2, .int v2), (3, .int y3)] [] I J) (h : w_X10_hangs_88 Po K7 K15 v0 v2 v3 s0 s1) : gJ X V 0 0 88 [(0, .int v0), (2, .int v2), (3, .int v3)] [.int s0, .int s1] I J := by
  unfold w_X10_hangs_88 at h
  refine j_ior (pc := 88) C dX10_hangs_88 ?_
  refine gJ.topi (fun n15 en15 => ?_)
  have h := h n15 en15
  refine j_istore_n (pc := 89) (lv' := [(1, .int n15), (0, .int v0), (2, .int v2), (3, .int v3)]) C dX10_hangs_89 rfl (by decide) rfl ?_
  refine j_iload_n (pc := 90) C dX10_hangs_90 rfl 0 rfl ?_
  refine j_iload_n (pc := 91) C dX10_hangs_91 rfl 3 rfl ?_
  refine j_bipush (pc := 92) (v := 20) C dX10_hangs_92 (by decide) ?_
  refine j_icmp_ge (pc := 94) (tgt := 107) C dX10_hangs_94 (by decide) (fun c16 => ?_) (fun c16 => ?_)
  · have h := h.1 c16
    refine j_iconst (pc := 107) (v := 0) C dX10_hangs_107 (by decide) ?_
    refine gJ.sub [1, 2, 3] rfl ?_
    exact t_X10_hangs_108  C hX hR  hK7 hK15 h
  · have h := h.2 c16
    refine j_iload_n (pc := 97) C dX10_hangs_97 rfl 1 rfl ?_
    refine j_iconst (pc := 98) (v := 1) C dX10_hangs_98 (by decide) ?_
    refine j_iload_n (pc := 99) C dX10_hangs_99 rfl 3 rfl ?_
    refine j_iconst (pc := 100) (v := 5) C dX10_hangs_100 (by decide) ?_
    refine j_iadd (pc := 101) C dX10_hangs_101 ?_
    refine j_ishl (pc := 102) C dX10_hangs_102 ?_
    refine j_iand (pc := 103) C dX10_hangs_103 ?_
    refine j_goto (pc := 104) (tgt := 108) C dX10_hangs_104 (by decide) ?_
    refine gJ.sub [1, 2, 3] rfl ?_
    exact t_X10_hangs_108  C hX hR  hK7 hK15 h
set_option maxRecDepth 100000 in
set_option maxHeartbeats 4000000 in
theorem t_X10_hangs_69 {X : gX} {l : Launch} {D : va_G} {cy : Nat → ClassId} {nm : String} {V : gV} (C : gC X cX10_hangs RX10 (some .boolean) 4 rm_X10_hangs) (hX : gIs X l D cy nm) {I : gI} {J : gL} {Po : Int32 → Prop} (hR : gR X (gPi V (fun x I' J' => I = I' ∧ J = J' ∧ Po x))) {v0 : Int32} {v2 : Int32} {v3 : Int32} {s0 : Int32} {s1 : Int32} {K7 : Int32 → Int32 → Prop} {K15 : Int32 → Int32 → Prop} (hK7 : ∀ (y1 : Int32) (y2 : Int32), K7 y1 y2 → gJ X V 0 0 7 [(0, .int v0), (1, .int y1), (2, .int y2)] [] I J) (hK15 : ∀ (y1 : Int32) (y3 : Int32), K15 y1 y3 → gJ X V 0 0 15 [(0, .int v0), (1, .int y1), (2, .int v2), (3, .int y3)] [] I J) (h : w_X10_hangs_69 Po K7 K15 v0 v2 v3 s0 s1) : gJ X V 0 0 69 [(0, .int v0), (2, .int v2), (3, .int v3)] [.int s0, .int s1] I J := by
  unfold w_X10_hangs_69 at h
  refine j_ior (pc := 69) C dX10_hangs_69 ?_
  refine gJ.topi (fun n13 en13 => ?_)
  have h := h n13 en13
  refine j_istore_n (pc := 70) (lv' := [(1, .int n13), (0, .int v0), (2, .int v2), (3, .int v3)]) C dX10_hangs_70 rfl (by decide) rfl ?_
  refine j_iload_n (pc := 71) C dX10_hangs_71 rfl 0 rfl ?_
  refine j_iload_n (pc := 72) C dX10_hangs_72 rfl 3 rfl ?_
  refine j_iconst (pc := 73) (v := 4) C dX10_hangs_73 (by decide) ?_
  refine j_icmp_le (pc := 74) (tgt := 87) C dX10_hangs_74 (by decide) (fun c14 => ?_) (fun c14 => ?_)
  · have h := h.1 c14
    refine j_iconst (pc := 87) (v := 0) C dX10_hangs_87 (by decide) ?_
    refine gJ.sub [1, 2, 3] rfl ?_
    exact t_X10_hangs_88  C hX hR  hK7 hK15 h
  · have h := h.2 c14
    refine j_iload_n (pc := 77) C dX10_hangs_77 rfl 1 rfl ?_
    refine j_iconst (pc := 78) (v := 1) C dX10_hangs_78 (by decide) ?_
    refine j_iload_n (pc := 79) C dX10_hangs_79 rfl 3 rfl ?_
    refine j_iconst (pc := 80) (v := 5) C dX10_hangs_80 (by decide) ?_
    refine j_isub (pc := 81) C dX10_hangs_81 ?_
    refine j_ishl (pc := 82) C dX10_hangs_82 ?_
    refine j_iand (pc := 83) C dX10_hangs_83 ?_
    refine j_goto (pc := 84) (tgt := 88) C dX10_hangs_84 (by decide) ?_
    refine gJ.sub [1, 2, 3] rfl ?_
    exact t_X10_hangs_88  C hX hR  hK7 hK15 h
set_option maxRecDepth 100000 in
set_option maxHeartbeats 4000000 in
theorem t_X10_hangs_48 {X : gX} {l : Launch} {D : va_G} {cy : Nat → ClassId} {nm : String} {V : gV} (C : gC X cX10_hangs RX10 (some .boolean) 4 rm_X10_hangs) (hX : gIs X l D cy nm) {I : gI} {J : gL} {Po : Int32 → Prop} (hR : gR X (gPi V (fun x I' J' => I = I' ∧ J = J' ∧ Po x))) {v0 : Int32} {v2 : Int32} {v3 : Int32} {s0 : Int32} {s1 : Int32} {K7 : Int32 → Int32 → Prop} {K15 : Int32 → Int32 → Prop} (hK7 : ∀ (y1 : Int32) (y2 : Int32), K7 y1 y2 → gJ X V 0 0 7 [(0, .int v0), (1, .int y1), (2, .int y2)] [] I J) (hK15 : ∀ (y1 : Int32) (y3 : Int32), K15 y1 y3 → gJ X V 0 0 15 [(0, .int v0), (1, .int y1), (2, .int v2), (3, .int y3)] [] I J) (h : w_X10_hangs_48 Po K7 K15 v0 v2 v3 s0 s1) : gJ X V 0 0 48 [(0, .int v0), (2, .int v2), (3, .int v3)] [.int s0, .int s1] I J := by
  unfold w_X10_hangs_48 at h
  refine j_ior (pc := 48) C dX10_hangs_48 ?_
  refine gJ.topi (fun n10 en10 => ?_)
  have h := h n10 en10
  refine j_istore_n (pc := 49) (lv' := [(1, .int n10), (0, .int v0), (2, .int v2), (3, .int v3)]) C dX10_hangs_49 rfl (by decide) rfl ?_
  refine j_iload_n (pc := 50) C dX10_hangs_50 rfl 0 rfl ?_
  refine j_iload_n (pc := 51) C dX10_hangs_51 rfl 3 rfl ?_
  refine j_iconst (pc := 52) (v := 5) C dX10_hangs_52 (by decide) ?_
  obtain ⟨g11, h⟩ := h
  refine j_irem (pc := 53) C dX10_hangs_53 g11 ?_
  refine j_iconst (pc := 54) (v := 4) C dX10_hangs_54 (by decide) ?_
  refine j_icmp_ge (pc := 55) (tgt := 68) C dX10_hangs_55 (by decide) (fun c12 => ?_) (fun c12 => ?_)
  · have h := h.1 c12
    refine j_iconst (pc := 68) (v := 0) C dX10_hangs_68 (by decide) ?_
    refine gJ.sub [1, 2, 3] rfl ?_
    exact t_X10_hangs_69  C hX hR  hK7 hK15 h
  · have h := h.2 c12
    refine j_iload_n (pc := 58) C dX10_hangs_58 rfl 1 rfl ?_
    refine j_iconst (pc := 59) (v := 1) C dX10_hangs_59 (by decide) ?_
    refine j_iload_n (pc := 60) C dX10_hangs_60 rfl 3 rfl ?_
    refine j_iconst (pc := 61) (v := 1) C dX10_hangs_61 (by decide) ?_
    refine j_iadd (pc := 62) C dX10_hangs_62 ?_
    refine j_ishl (pc := 63) C dX10_hangs_63 ?_
    refine j_iand (pc := 64) C dX10_hangs_64 ?_
    refine j_goto (pc := 65) (tgt := 69) C dX10_hangs_65 (by decide) ?_
    refine gJ.sub [1, 2, 3] rfl ?_
    exact t_X10_hangs_69  C hX hR  hK7 hK15 h
set_option maxRecDepth 100000 in
set_option maxHeartbeats 4000000 in
theorem t_X10_hangs_15b {X : gX} {l : Launch} {D : va_G} {cy : Nat → ClassId} {nm : String} {V : gV} (C : gC X cX10_hangs RX10 (some .boolean) 4 rm_X10_hangs) (hX : gIs X l D cy nm) {I : gI} {J : gL} {Po : Int32 → Prop} (hR : gR X (gPi V (fun x I' J' => I = I' ∧ J = J' ∧ Po x))) {v0 : Int32} {v1 : Int32} {v2 : Int32} {v3 : Int32} {K7 : Int32 → Int32 → Prop} {K15 : Int32 → Int32 → Prop} (hK7 : ∀ (y1 : Int32) (y2 : Int32), K7 y1 y2 → gJ X V 0 0 7 [(0, .int v0), (1, .int y1), (2, .int y2)] [] I J) (hK15 : ∀ (y1 : Int32) (y3 : Int32), K15 y1 y3 → gJ X V 0 0 15 [(0, .int v0), (1, .int y1), (2, .int v2), (3, .int y3)] [] I J) (h : w_X10_hangs_15b Po K7 K15 v0 v1 v2 v3) : gJ X V 0 0 15 [(0, .int v0), (1, .int v1), (2, .int v2), (3, .int v3)] [] I J := by
  unfold w_X10_hangs_15b at h
  refine j_iload_n (pc := 15) C dX10_hangs_15 rfl 3 rfl ?_
  refine j_bipush (pc := 16) (v := 25) C dX10_hangs_16 (by decide) ?_
  refine j_icmp_ge (pc := 18) (tgt := 116) C dX10_hangs_18 (by decide) (fun c4 => ?_) (fun c4 => ?_)
  · have h := h.1 c4
    obtain ⟨n5, en5⟩ : ∃ z : Int32, z = v2 + 1 := ⟨_, rfl⟩
    have h := h n5 en5
    refine j_iinc (pc := 116) (v := n5) (lv' := [(2, .int n5), (0, .int v0), (1, .int v1), (3, .int v3)]) C dX10_hangs_116 2 rfl (by rw [en5]; rfl) (by decide) rfl ?_
    refine j_goto (pc := 119) (tgt := 7) C dX10_hangs_119 (by decide) ?_
    refine gJ.sub [1, 2, 0] rfl ?_
    exact hK7 _ _ h
  · have h := h.2 c4
    refine j_iload_n (pc := 21) C dX10_hangs_21 rfl 1 rfl ?_
    refine j_iload_n (pc := 22) C dX10_hangs_22 rfl 3 rfl ?_
    refine j_ishr (pc := 23) C dX10_hangs_23 ?_
    refine j_iconst (pc := 24) (v := 1) C dX10_hangs_24 (by decide) ?_
    refine j_iand (pc := 25) C dX10_hangs_25 ?_
    refine j_iconst (pc := 26) (v := 1) C dX10_hangs_26 (by decide) ?_
    refine j_icmp_ne (pc := 27) (tgt := 110) C dX10_hangs_27 (by decide) (fun c6 => ?_) (fun c6 => ?_)
    · have h := h.1 c6
      refine gJ.sub [0, 1, 2, 3] rfl ?_
      exact t_X10_hangs_110  C hX hR  hK7 hK15 h
    · have h := h.2 c6
      refine j_iload_n (pc := 30) C dX10_hangs_30 rfl 1 rfl ?_
      refine j_iload_n (pc := 31) C dX10_hangs_31 rfl 3 rfl ?_
      refine j_iconst (pc := 32) (v := 5) C dX10_hangs_32 (by decide) ?_
      obtain ⟨g8, h⟩ := h
      refine j_irem (pc := 33) C dX10_hangs_33 g8 ?_
      refine j_if_le (pc := 34) (tgt := 47) C dX10_hangs_34 (by decide) (fun c9 => ?_) (fun c9 => ?_)
      · have h := h.1 c9
        refine j_iconst (pc := 47) (v := 0) C dX10_hangs_47 (by decide) ?_
        refine gJ.sub [0, 2, 3] rfl ?_
        exact t_X10_hangs_48  C hX hR  hK7 hK15 h
      · have h := h.2 c9
        refine j_iload_n (pc := 37) C dX10_hangs_37 rfl 0 rfl ?_
        refine j_iconst (pc := 38) (v := 1) C dX10_hangs_38 (by decide) ?_
        refine j_iload_n (pc := 39) C dX10_hangs_39 rfl 3 rfl ?_
        refine j_iconst (pc := 40) (v := 1) C dX10_hangs_40 (by decide) ?_
        refine j_isub (pc := 41) C dX10_hangs_41 ?_
        refine j_ishl (pc := 42) C dX10_hangs_42 ?_
        refine j_iand (pc := 43) C dX10_hangs_43 ?_
        refine j_goto (pc := 44) (tgt := 48) C dX10_hangs_44 (by decide) ?_
        refine gJ.sub [0, 2, 3] rfl ?_
        exact t_X10_hangs_48  C hX hR  hK7 hK15 h
set_option maxRecDepth 100000 in
set_option maxHeartbeats 4000000 in
theorem t_X10_hangs_15 {X : gX} {l : Launch} {D : va_G} {cy : Nat → ClassId} {nm : String} {V : gV} (C : gC X cX10_hangs RX10 (some .boolean) 4 rm_X10_hangs) (hX : gIs X l D cy nm) {I : gI} {J : gL} {Po : Int32 → Prop} (hR : gR X (gPi V (fun x I' J' => I = I' ∧ J = J' ∧ Po x))) {v0 : Int32} {v1 : Int32} {v2 : Int32} {v3 : Int32} {K7 : Int32 → Int32 → Prop} (hK7 : ∀ (y1 : Int32) (y2 : Int32), K7 y1 y2 → gJ X V 0 0 7 [(0, .int v0), (1, .int y1), (2, .int y2)] [] I J) (h : w_X10_hangs_15 Po K7 v0 v1 v2 v3) : gJ X V 0 0 15 [(0, .int v0), (1, .int v1), (2, .int v2), (3, .int v3)] [] I J := by
  unfold w_X10_hangs_15 at h
  obtain ⟨Inv, mu, h0, hs⟩ := h
  have key : ∀ (n : Nat) (v1 : Int32) (v3 : Int32), Inv v1 v3 → mu v1 v3 < n → gJ X V 0 0 15 [(0, .int v0), (1, .int v1), (2, .int v2), (3, .int v3)] [] I J := by
    intro n
    induction n with
    | zero => intro v1 v3 hi hn; exact absurd hn (Nat.not_lt_zero _)
    | succ n ih =>
      intro v1 v3 hi hn
      exact t_X10_hangs_15b  C hX hR  hK7 (fun u1 u3 hk => ih u1 u3 hk.1 (Nat.lt_of_lt_of_le hk.2 (Nat.le_of_lt_succ hn))) (hs v1 v3 hi)
  exact key _ v1 v3 h0 (Nat.lt_succ_self _)
set_option maxRecDepth 100000 in
set_option maxHeartbeats 4000000 in
theorem t_X10_hangs_7b {X : gX} {l : Launch} {D : va_G} {cy : Nat → ClassId} {nm : String} {V : gV} (C : gC X cX10_hangs RX10 (some .boolean) 4 rm_X10_hangs) (hX : gIs X l D cy nm) {I : gI} {J : gL} {Po : Int32 → Prop} (hR : gR X (gPi V (fun x I' J' => I = I' ∧ J = J' ∧ Po x))) {v0 : Int32} {v1 : Int32} {v2 : Int32} {K7 : Int32 → Int32 → Prop} (hK7 : ∀ (y1 : Int32) (y2 : Int32), K7 y1 y2 → gJ X V 0 0 7 [(0, .int v0), (1, .int y1), (2, .int y2)] [] I J) (h : w_X10_hangs_7b Po K7 v0 v1 v2) : gJ X V 0 0 7 [(0, .int v0), (1, .int v1), (2, .int v2)] [] I J := by
  unfold w_X10_hangs_7b at h
  refine j_iload_n (pc := 7) C dX10_hangs_7 rfl 2 rfl ?_
  refine j_bipush (pc := 8) (v := 25) C dX10_hangs_8 (by decide) ?_
  refine j_icmp_ge (pc := 10) (tgt := 122) C dX10_hangs_10 (by decide) (fun c2 => ?_) (fun c2 => ?_)
  · have h := h.1 c2
    refine j_iload_n (pc := 122) C dX10_hangs_122 rfl 1 rfl ?_
    refine j_iload_n (pc := 123) C dX10_hangs_123 rfl 0 rfl ?_
    refine j_icmp_ne (pc := 124) (tgt := 131) C dX10_hangs_124 (by decide) (fun c3 => ?_) (fun c3 => ?_)
    · have h := h.1 c3
      refine j_iconst (pc := 131) (v := 0) C dX10_hangs_131 (by decide) ?_
      exact j_zret (pc := 132) C hR (Or.inl rfl) (Nat.zero_le _) (Nat.zero_le _) dX10_hangs_132 ⟨_, rfl, rfl, rfl, rfl, h⟩
    · have h := h.2 c3
      refine j_iconst (pc := 127) (v := 1) C dX10_hangs_127 (by decide) ?_
      refine j_goto (pc := 128) (tgt := 132) C dX10_hangs_128 (by decide) ?_
      exact j_zret (pc := 132) C hR (Or.inr rfl) (Nat.zero_le _) (Nat.zero_le _) dX10_hangs_132 ⟨_, rfl, rfl, rfl, rfl, h⟩
  · have h := h.2 c2
    refine j_iconst (pc := 13) (v := 0) C dX10_hangs_13 (by decide) ?_
    refine j_istore_n (pc := 14) (lv' := [(3, .int (0 : Int32)), (0, .int v0), (1, .int v1), (2, .int v2)]) C dX10_hangs_14 rfl (by decide) rfl ?_
    refine gJ.sub [1, 2, 3, 0] rfl ?_
    exact t_X10_hangs_15  C hX hR  hK7 h
set_option maxRecDepth 100000 in
set_option maxHeartbeats 4000000 in
theorem t_X10_hangs_7 {X : gX} {l : Launch} {D : va_G} {cy : Nat → ClassId} {nm : String} {V : gV} (C : gC X cX10_hangs RX10 (some .boolean) 4 rm_X10_hangs) (hX : gIs X l D cy nm) {I : gI} {J : gL} {Po : Int32 → Prop} (hR : gR X (gPi V (fun x I' J' => I = I' ∧ J = J' ∧ Po x))) {v0 : Int32} {v1 : Int32} {v2 : Int32} (h : w_X10_hangs_7 Po v0 v1 v2) : gJ X V 0 0 7 [(0, .int v0), (1, .int v1), (2, .int v2)] [] I J := by
  unfold w_X10_hangs_7 at h
  obtain ⟨Inv, mu, h0, hs⟩ := h
  have key : ∀ (n : Nat) (v1 : Int32) (v2 : Int32), Inv v1 v2 → mu v1 v2 < n → gJ X V 0 0 7 [(0, .int v0), (1, .int v1), (2, .int v2)] [] I J := by
    intro n
    induction n with
    | zero => intro v1 v2 hi hn; exact absurd hn (Nat.not_lt_zero _)
    | succ n ih =>
      intro v1 v2 hi hn
      exact t_X10_hangs_7b  C hX hR   (fun u1 u2 hk => ih u1 u2 hk.1 (Nat.lt_of_lt_of_le hk.2 (Nat.le_of_lt_succ hn))) (hs v1 v2 hi)
  exact key _ v1 v2 h0 (Nat.lt_succ_self _)
set_option maxRecDepth 100000 in
set_option maxHeartbeats 4000000 in
theorem m_X10_hangs {l : Launch} {D : va_G} {cy : Nat → ClassId} {V : gV} {a0 : Int32} {I : gI} {J : gL} {Po : Int32 → Prop} (h : wp_X10_hangs a0 Po) : gMet l D cy yX10_hangs cX10_hangs 4 (some .boolean) rm_X10_hangs V [.int a0] I J (gPi V (fun x I' J' => I = I' ∧ J = J' ∧ Po x)) := by
  refine gMet.of (by decide) (Nat.le_of_ble_eq_true rfl) (fun X hX C hR => ?_)
  have C : gC X cX10_hangs RX10 (some .boolean) 4 rm_X10_hangs := C
  show gJ X V 0 0 0 [(0, .int a0)] [] I J
  unfold wp_X10_hangs at h
  refine j_iload_n (pc := 0) C dX10_hangs_0 rfl 0 rfl ?_
  refine j_iload_n (pc := 1) C dX10_hangs_1 rfl 0 rfl ?_
  refine j_ineg (pc := 2) C dX10_hangs_2 ?_
  refine j_iand (pc := 3) C dX10_hangs_3 ?_
  refine gJ.topi (fun n1 en1 => ?_)
  have h := h n1 en1
  refine j_istore_n (pc := 4) (lv' := [(1, .int n1), (0, .int a0)]) C dX10_hangs_4 rfl (by decide) rfl ?_
  refine j_iconst (pc := 5) (v := 0) C dX10_hangs_5 (by decide) ?_
  refine j_istore_n (pc := 6) (lv' := [(2, .int (0 : Int32)), (1, .int n1), (0, .int a0)]) C dX10_hangs_6 rfl (by decide) rfl ?_
  refine gJ.sub [2, 1, 0] rfl ?_
  exact t_X10_hangs_7  C hX hR   h
/-! TileRulesModel.piece(I)I -/
abbrev rm_X10_piece : Room := { frames := 1, cells := 0, slots := 0, locals := 23 }
theorem ok_X10_piece : gOk yX10_piece cX10_piece 2 (some .int) 1 := ⟨wd_1162, wd_74, by decide +kernel⟩
def wp_X10_piece (a1 : Int32) (I : gI) (Po : Int32 → gI → Prop) : Prop :=
  wp_X10_isIn a1 (1 : Int32) (33554431 : Int32) (fun r1 => (r1 = 0 → Po (-2 : Int32) I) ∧ (¬ r1 = 0 → wp_X10_ones a1 (fun r3 => ((5 : Int32) < r3 → Po (-2 : Int32) I) ∧ (¬ (5 : Int32) < r3 → wp_X10_hangs a1 (fun r5 => (¬ r5 = 0 → (¬ (I 200 11) = (6 : Int32) → vp_in (I 200 11) 6 ∧ ∀ I9 : gI, I9 = gup I 210 ((I 200 11)).toNatClampNeg a1 → ∀ I10 : gI, I10 = gup I9 200 11 ((I9 200 11) + (1 : Int32)) → Po ((I10 200 11) - (1 : Int32)) I10) ∧ ((I 200 11) = (6 : Int32) → Po (-3 : Int32) I)) ∧ (r5 = 0 → Po (-2 : Int32) I))))))
set_option maxRecDepth 100000 in
set_option maxHeartbeats 4000000 in
theorem m_X10_piece {l : Launch} {D : va_G} {cy : Nat → ClassId} {V : gV} (hM : gModM V) {a1 : Int32} {I : gI} {J : gL} {Po : Int32 → gI → Prop} (h : wp_X10_piece a1 I Po) : gMet l D cy yX10_piece cX10_piece 2 (some .int) rm_X10_piece V [.ref (V.2.1 200), .int a1] I J (gPi V (fun x I' J' => J = J' ∧ Po x I')) := by
  refine gMet.of (by decide) (Nat.le_of_ble_eq_true rfl) (fun X hX C hR => ?_)
  have C : gC X cX10_piece RX10 (some .int) 2 rm_X10_piece := C
  show gJ X V 0 0 0 [(0, .ref (V.2.1 200)), (1, .int a1)] [] I J
  unfold wp_X10_piece at h
  refine j_iload_n (pc := 0) C dX10_piece_0 rfl 1 rfl ?_
  refine j_iconst (pc := 1) (v := 1) C dX10_piece_1 (by decide) ?_
  refine j_ldc (pc := 2) (v := 33554431) C dX10_piece_2 wd_1163 ?_
  refine j_callS (pc := 4) (As := [.int a1, .int (1 : Int32), .int (33554431 : Int32)]) (st := []) C hX (m_X10_isIn   h) ok_X10_isIn wd_1108 wd_1109 ⟨by decide, by decide⟩ rfl rfl (Nat.le_of_ble_eq_true rfl) ⟨Nat.le_refl 0, Nat.le_refl 0⟩ dX10_piece_4 (fun r V1 I1 J1 hp => ?_)
  obtain ⟨r1, rfl, rfl, rfl, rfl, h⟩ := hp
  show gJ X V 0 0 7 _ [.int r1] _ _
  refine j_if_eq (pc := 7) (tgt := 25) C dX10_piece_7 (by decide) (fun c2 => ?_) (fun c2 => ?_)
  · have h := h.1 c2
    refine j_bipush (pc := 25) (v := (-2)) C dX10_piece_25 (by decide) ?_
    exact j_iret (pc := 27) C hR (Nat.zero_le _) (Nat.zero_le _) dX10_piece_27 ⟨_, rfl, rfl, rfl, h⟩
  · have h := h.2 c2
    refine j_iload_n (pc := 10) C dX10_piece_10 rfl 1 rfl ?_
    refine j_callS (pc := 11) (As := [.int a1]) (st := []) C hX (m_X10_ones   h) ok_X10_ones wd_1164 wd_1165 ⟨by decide, by decide⟩ rfl rfl (Nat.le_of_ble_eq_true rfl) ⟨Nat.le_refl 0, Nat.le_refl 0⟩ dX10_piece_11 (fun r V1 I1 J1 hp => ?_)
    obtain ⟨r3, rfl, rfl, rfl, rfl, h⟩ := hp
    show gJ X V 0 0 14 _ [.int r3] _ _
    refine j_iconst (pc := 14) (v := 5) C dX10_piece_14 (by decide) ?_
    refine j_icmp_gt (pc := 15) (tgt := 25) C dX10_piece_15 (by decide) (fun c4 => ?_) (fun c4 => ?_)
    · have h := h.1 c4
      refine j_bipush (pc := 25) (v := (-2)) C dX10_piece_25 (by decide) ?_
      exact j_iret (pc := 27) C hR (Nat.zero_le _) (Nat.zero_le _) dX10_piece_27 ⟨_, rfl, rfl, rfl, h⟩
    · have h := h.2 c4
      refine j_iload_n (pc := 18) C dX10_piece_18 rfl 1 rfl ?_
      refine j_callS (pc := 19) (As := [.int a1]) (st := []) C hX (m_X10_hangs   h) ok_X10_hangs wd_1167 wd_1168 ⟨by decide, by decide⟩ rfl rfl (Nat.le_of_ble_eq_true rfl) ⟨Nat.le_refl 0, Nat.le_refl 0⟩ dX10_piece_19 (fun r V1 I1 J1 hp => ?_)
      obtain ⟨r5, rfl, rfl, rfl, rfl, h⟩ := hp
      show gJ X V 0 0 22 _ [.int r5] _ _
      refine j_if_ne (pc := 22) (tgt := 28) C dX10_piece_22 (by decide) (fun c6 => ?_) (fun c6 => ?_)
      · have h := h.1 c6
        refine j_aload_n (pc := 28) C dX10_piece_28 rfl 0 rfl ?_
        refine j_getI (pc := 29) C 200 11 (c_200 hM).1 (c_200 hM).2 rfl rfl (by decide) inw_X10 wd_977 dX10_piece_29 ?_
        refine j_bipush (pc := 32) (v := 6) C dX10_piece_32 (by decide) ?_
        refine j_icmp_ne (pc := 34) (tgt := 40) C dX10_piece_34 (by decide) (fun c7 => ?_) (fun c7 => ?_)
        · have h := h.1 c7
          refine j_aload_n (pc := 40) C dX10_piece_40 rfl 0 rfl ?_
          refine j_getR (pc := 41) C 200 12 210 (c_200 hM).1 (c_200 hM).2 rfl rfl (by decide) inw_X10 wd_978 dX10_piece_41 ?_
          refine j_aload_n (pc := 44) C dX10_piece_44 rfl 0 rfl ?_
          refine j_getI (pc := 45) C 200 11 (c_200 hM).1 (c_200 hM).2 rfl rfl (by decide) inw_X10 wd_977 dX10_piece_45 ?_
          refine j_iload_n (pc := 48) C dX10_piece_48 rfl 1 rfl ?_
          obtain ⟨g8, h⟩ := h
          refine j_iast (pc := 49) C 210 (c_210 hM).1 (c_210 hM).2 g8 dX10_piece_49 ?_
          refine gJ.nmI (fun I9 eI9 => ?_)
          have h := h I9 eI9
          refine j_aload_n (pc := 50) C dX10_piece_50 rfl 0 rfl ?_
          refine j_dup (pc := 51) C dX10_piece_51 rfl ?_
          refine j_getI (pc := 52) C 200 11 (c_200 hM).1 (c_200 hM).2 rfl rfl (by decide) inw_X10 wd_977 dX10_piece_52 ?_
          refine j_iconst (pc := 55) (v := 1) C dX10_piece_55 (by decide) ?_
          refine j_iadd (pc := 56) C dX10_piece_56 ?_
          refine j_putI (pc := 57) (ft := .int) C tyX10 tyX10_ok nmX10 200 11 (c_200 hM).1 (c_200 hM).2 rfl rfl (by decide) inw_X10 wd_977 rfl (by decide +kernel) rfl rfl dX10_piece_57 ?_
          refine gJ.nmI (fun I10 eI10 => ?_)
          have h := h I10 eI10
          refine j_aload_n (pc := 60) C dX10_piece_60 rfl 0 rfl ?_
          refine j_getI (pc := 61) C 200 11 (c_200 hM).1 (c_200 hM).2 rfl rfl (by decide) inw_X10 wd_977 dX10_piece_61 ?_
          refine j_iconst (pc := 64) (v := 1) C dX10_piece_64 (by decide) ?_
          refine j_isub (pc := 65) C dX10_piece_65 ?_
          exact j_iret (pc := 66) C hR (Nat.zero_le _) (Nat.zero_le _) dX10_piece_66 ⟨_, rfl, rfl, rfl, h⟩
        · have h := h.2 c7
          refine j_bipush (pc := 37) (v := (-3)) C dX10_piece_37 (by decide) ?_
          exact j_iret (pc := 39) C hR (Nat.zero_le _) (Nat.zero_le _) dX10_piece_39 ⟨_, rfl, rfl, rfl, h⟩
      · have h := h.2 c6
        refine j_bipush (pc := 25) (v := (-2)) C dX10_piece_25 (by decide) ?_
        exact j_iret (pc := 27) C hR (Nat.zero_le _) (Nat.zero_le _) dX10_piece_27 ⟨_, rfl, rfl, rfl, h⟩
/-! TileRulesModel.unpiece()I -/
abbrev rm_X10_unpiece : Room := { frames := 0, cells := 0, slots := 0, locals := 0 }
theorem ok_X10_unpiece : gOk yX10_unpiece cX10_unpiece 1 (some .int) 0 := ⟨wd_1173, wd_74, by decide +kernel⟩
def wp_X10_unpiece (I : gI) (Po : Int32 → gI → Prop) : Prop :=
  (¬ (I 200 11) = 0 → ∀ I2 : gI, I2 = gup I 200 11 ((I 200 11) - (1 : Int32)) → Po (I2 200 11) I2) ∧ ((I 200 11) = 0 → Po (-1 : Int32) I)
set_option maxRecDepth 100000 in
set_option maxHeartbeats 4000000 in
theorem m_X10_unpiece {l : Launch} {D : va_G} {cy : Nat → ClassId} {V : gV} (hM : gModM V) {I : gI} {J : gL} {Po : Int32 → gI → Prop} (h : wp_X10_unpiece I Po) : gMet l D cy yX10_unpiece cX10_unpiece 1 (some .int) rm_X10_unpiece V [.ref (V.2.1 200)] I J (gPi V (fun x I' J' => J = J' ∧ Po x I')) := by
  refine gMet.of (by decide) (Nat.le_of_ble_eq_true rfl) (fun X hX C hR => ?_)
  have C : gC X cX10_unpiece RX10 (some .int) 1 rm_X10_unpiece := C
  show gJ X V 0 0 0 [(0, .ref (V.2.1 200))] [] I J
  unfold wp_X10_unpiece at h
  refine j_aload_n (pc := 0) C dX10_unpiece_0 rfl 0 rfl ?_
  refine j_getI (pc := 1) C 200 11 (c_200 hM).1 (c_200 hM).2 rfl rfl (by decide) inw_X10 wd_977 dX10_unpiece_1 ?_
  refine j_if_ne (pc := 4) (tgt := 9) C dX10_unpiece_4 (by decide) (fun c1 => ?_) (fun c1 => ?_)
  · have h := h.1 c1
    refine j_aload_n (pc := 9) C dX10_unpiece_9 rfl 0 rfl ?_
    refine j_dup (pc := 10) C dX10_unpiece_10 rfl ?_
    refine j_getI (pc := 11) C 200 11 (c_200 hM).1 (c_200 hM).2 rfl rfl (by decide) inw_X10 wd_977 dX10_unpiece_11 ?_
    refine j_iconst (pc := 14) (v := 1) C dX10_unpiece_14 (by decide) ?_
    refine j_isub (pc := 15) C dX10_unpiece_15 ?_
    refine j_putI (pc := 16) (ft := .int) C tyX10 tyX10_ok nmX10 200 11 (c_200 hM).1 (c_200 hM).2 rfl rfl (by decide) inw_X10 wd_977 rfl (by decide +kernel) rfl rfl dX10_unpiece_16 ?_
    refine gJ.nmI (fun I2 eI2 => ?_)
    have h := h I2 eI2
    refine j_aload_n (pc := 19) C dX10_unpiece_19 rfl 0 rfl ?_
    refine j_getI (pc := 20) C 200 11 (c_200 hM).1 (c_200 hM).2 rfl rfl (by decide) inw_X10 wd_977 dX10_unpiece_20 ?_
    exact j_iret (pc := 23) C hR (Nat.zero_le _) (Nat.zero_le _) dX10_unpiece_23 ⟨_, rfl, rfl, rfl, h⟩
  · have h := h.2 c1
    refine j_iconst (pc := 7) (v := (-1)) C dX10_unpiece_7 (by decide) ?_
    exact j_iret (pc := 8) C hR (Nat.zero_le _) (Nat.zero_le _) dX10_unpiece_8 ⟨_, rfl, rfl, rfl, h⟩
/-! TileRulesModel.cells()I -/
abbrev rm_X10_cells : Room := { frames := 0, cells := 0, slots := 0, locals := 0 }
theorem ok_X10_cells : gOk yX10_cells cX10_cells 1 (some .int) 0 := ⟨wd_1213, wd_74, by decide +kernel⟩
def wp_X10_cells (I : gI) (Po : Int32 → Prop) : Prop :=
  Po (((1 : Int32) <<< (((I 200 13) * (I 200 14)) &&& 31)) - (1 : Int32))
set_option maxRecDepth 100000 in
set_option maxHeartbeats 4000000 in
theorem m_X10_cells {l : Launch} {D : va_G} {cy : Nat → ClassId} {V : gV} (hM : gModM V) {I : gI} {J : gL} {Po : Int32 → Prop} (h : wp_X10_cells I Po) : gMet l D cy yX10_cells cX10_cells 1 (some .int) rm_X10_cells V [.ref (V.2.1 200)] I J (gPi V (fun x I' J' => I = I' ∧ J = J' ∧ Po x)) := by
  refine gMet.of (by decide) (Nat.le_of_ble_eq_true rfl) (fun X hX C hR => ?_)
  have C : gC X cX10_cells RX10 (some .int) 1 rm_X10_cells := C
  show gJ X V 0 0 0 [(0, .ref (V.2.1 200))] [] I J
  unfold wp_X10_cells at h
  refine j_iconst (pc := 0) (v := 1) C dX10_cells_0 (by decide) ?_
  refine j_aload_n (pc := 1) C dX10_cells_1 rfl 0 rfl ?_
  refine j_getI (pc := 2) C 200 13 (c_200 hM).1 (c_200 hM).2 rfl rfl (by decide) inw_X10 wd_979 dX10_cells_2 ?_
  refine j_aload_n (pc := 5) C dX10_cells_5 rfl 0 rfl ?_
  refine j_getI (pc := 6) C 200 14 (c_200 hM).1 (c_200 hM).2 rfl rfl (by decide) inw_X10 wd_980 dX10_cells_6 ?_
  refine j_imul (pc := 9) C dX10_cells_9 ?_
  refine j_ishl (pc := 10) C dX10_cells_10 ?_
  refine j_iconst (pc := 11) (v := 1) C dX10_cells_11 (by decide) ?_
  refine j_isub (pc := 12) C dX10_cells_12 ?_
  exact j_iret (pc := 13) C hR (Nat.zero_le _) (Nat.zero_le _) dX10_cells_13 ⟨_, rfl, rfl, rfl, rfl, h⟩
/-! TileRulesModel.board(III)I -/
abbrev rm_X10_board : Room := { frames := 1, cells := 0, slots := 0, locals := 22 }
theorem ok_X10_board : gOk yX10_board cX10_board 4 (some .int) 3 := ⟨wd_1177, wd_74, by decide +kernel⟩
def wp_X10_board (a1 : Int32) (a2 : Int32) (a3 : Int32) (I : gI) (Po : Int32 → gI → Prop) : Prop :=
  wp_X10_isIn a1 (1 : Int32) (5 : Int32) (fun r1 => (r1 = 0 → Po (-2 : Int32) I) ∧ (¬ r1 = 0 → wp_X10_isIn a2 (1 : Int32) (4 : Int32) (fun r3 => (r3 = 0 → Po (-2 : Int32) I) ∧ (¬ r3 = 0 → wp_X10_isIn a3 (0 : Int32) (((1 : Int32) <<< ((a1 * a2) &&& 31)) - (1 : Int32)) (fun r5 => (¬ r5 = 0 → ∀ I7 : gI, I7 = gup I 200 13 a1 → ∀ I8 : gI, I8 = gup I7 200 14 a2 → ∀ I9 : gI, I9 = gup I8 200 15 a3 → wp_X10_ones a3 (fun r10 => Po ((a1 * a2) - r10) I9)) ∧ (r5 = 0 → Po (-2 : Int32) I))))))
set_option maxRecDepth 100000 in
set_option maxHeartbeats 4000000 in
theorem m_X10_board {l : Launch} {D : va_G} {cy : Nat → ClassId} {V : gV} (hM : gModM V) {a1 : Int32} {a2 : Int32} {a3 : Int32} {I : gI} {J : gL} {Po : Int32 → gI → Prop} (h : wp_X10_board a1 a2 a3 I Po) : gMet l D cy yX10_board cX10_board 4 (some .int) rm_X10_board V [.ref (V.2.1 200), .int a1, .int a2, .int a3] I J (gPi V (fun x I' J' => J = J' ∧ Po x I')) := by
  refine gMet.of (by decide) (Nat.le_of_ble_eq_true rfl) (fun X hX C hR => ?_)
  have C : gC X cX10_board RX10 (some .int) 4 rm_X10_board := C
  show gJ X V 0 0 0 [(0, .ref (V.2.1 200)), (1, .int a1), (2, .int a2), (3, .int a3)] [] I J
  unfold wp_X10_board at h
  refine j_iload_n (pc := 0) C dX10_board_0 rfl 1 rfl ?_
  refine j_iconst (pc := 1) (v := 1) C dX10_board_1 (by decide) ?_
  refine j_iconst (pc := 2) (v := 5) C dX10_board_2 (by decide) ?_
  refine j_callS (pc := 3) (As := [.int a1, .int (1 : Int32), .int (5 : Int32)]) (st := []) C hX (m_X10_isIn   h) ok_X10_isIn wd_1108 wd_1109 ⟨by decide, by decide⟩ rfl rfl (Nat.le_of_ble_eq_true rfl) ⟨Nat.le_refl 0, Nat.le_refl 0⟩ dX10_board_3 (fun r V1 I1 J1 hp => ?_)
  obtain ⟨r1, rfl, rfl, rfl, rfl, h⟩ := hp
  show gJ X V 0 0 6 _ [.int r1] _ _
  refine j_if_eq (pc := 6) (tgt := 33) C dX10_board_6 (by decide) (fun c2 => ?_) (fun c2 => ?_)
  · have h := h.1 c2
    refine j_bipush (pc := 33) (v := (-2)) C dX10_board_33 (by decide) ?_
    exact j_iret (pc := 35) C hR (Nat.zero_le _) (Nat.zero_le _) dX10_board_35 ⟨_, rfl, rfl, rfl, h⟩
  · have h := h.2 c2
    refine j_iload_n (pc := 9) C dX10_board_9 rfl 2 rfl ?_
    refine j_iconst (pc := 10) (v := 1) C dX10_board_10 (by decide) ?_
    refine j_iconst (pc := 11) (v := 4) C dX10_board_11 (by decide) ?_
    refine j_callS (pc := 12) (As := [.int a2, .int (1 : Int32), .int (4 : Int32)]) (st := []) C hX (m_X10_isIn   h) ok_X10_isIn wd_1108 wd_1109 ⟨by decide, by decide⟩ rfl rfl (Nat.le_of_ble_eq_true rfl) ⟨Nat.le_refl 0, Nat.le_refl 0⟩ dX10_board_12 (fun r V1 I1 J1 hp => ?_)
    obtain ⟨r3, rfl, rfl, rfl, rfl, h⟩ := hp
    show gJ X V 0 0 15 _ [.int r3] _ _
    refine j_if_eq (pc := 15) (tgt := 33) C dX10_board_15 (by decide) (fun c4 => ?_) (fun c4 => ?_)
    · have h := h.1 c4
      refine j_bipush (pc := 33) (v := (-2)) C dX10_board_33 (by decide) ?_
      exact j_iret (pc := 35) C hR (Nat.zero_le _) (Nat.zero_le _) dX10_board_35 ⟨_, rfl, rfl, rfl, h⟩
    · have h := h.2 c4
      refine j_iload_n (pc := 18) C dX10_board_18 rfl 3 rfl ?_
      refine j_iconst (pc := 19) (v := 0) C dX10_board_19 (by decide) ?_
      refine j_iconst (pc := 20) (v := 1) C dX10_board_20 (by decide) ?_
      refine j_iload_n (pc := 21) C dX10_board_21 rfl 1 rfl ?_
      refine j_iload_n (pc := 22) C dX10_board_22 rfl 2 rfl ?_
      refine j_imul (pc := 23) C dX10_board_23 ?_
      refine j_ishl (pc := 24) C dX10_board_24 ?_
      refine j_iconst (pc := 25) (v := 1) C dX10_board_25 (by decide) ?_
      refine j_isub (pc := 26) C dX10_board_26 ?_
      refine j_callS (pc := 27) (As := [.int a3, .int (0 : Int32), .int (((1 : Int32) <<< ((a1 * a2) &&& 31)) - (1 : Int32))]) (st := []) C hX (m_X10_isIn   h) ok_X10_isIn wd_1108 wd_1109 ⟨by decide, by decide⟩ rfl rfl (Nat.le_of_ble_eq_true rfl) ⟨Nat.le_refl 0, Nat.le_refl 0⟩ dX10_board_27 (fun r V1 I1 J1 hp => ?_)
      obtain ⟨r5, rfl, rfl, rfl, rfl, h⟩ := hp
      show gJ X V 0 0 30 _ [.int r5] _ _
      refine j_if_ne (pc := 30) (tgt := 36) C dX10_board_30 (by decide) (fun c6 => ?_) (fun c6 => ?_)
      · have h := h.1 c6
        refine j_aload_n (pc := 36) C dX10_board_36 rfl 0 rfl ?_
        refine j_iload_n (pc := 37) C dX10_board_37 rfl 1 rfl ?_
        refine j_putI (pc := 38) (ft := .int) C tyX10 tyX10_ok nmX10 200 13 (c_200 hM).1 (c_200 hM).2 rfl rfl (by decide) inw_X10 wd_979 rfl (by decide +kernel) rfl rfl dX10_board_38 ?_
        refine gJ.nmI (fun I7 eI7 => ?_)
        have h := h I7 eI7
        refine j_aload_n (pc := 41) C dX10_board_41 rfl 0 rfl ?_
        refine j_iload_n (pc := 42) C dX10_board_42 rfl 2 rfl ?_
        refine j_putI (pc := 43) (ft := .int) C tyX10 tyX10_ok nmX10 200 14 (c_200 hM).1 (c_200 hM).2 rfl rfl (by decide) inw_X10 wd_980 rfl (by decide +kernel) rfl rfl dX10_board_43 ?_
        refine gJ.nmI (fun I8 eI8 => ?_)
        have h := h I8 eI8
        refine j_aload_n (pc := 46) C dX10_board_46 rfl 0 rfl ?_
        refine j_iload_n (pc := 47) C dX10_board_47 rfl 3 rfl ?_
        refine j_putI (pc := 48) (ft := .int) C tyX10 tyX10_ok nmX10 200 15 (c_200 hM).1 (c_200 hM).2 rfl rfl (by decide) inw_X10 wd_981 rfl (by decide +kernel) rfl rfl dX10_board_48 ?_
        refine gJ.nmI (fun I9 eI9 => ?_)
        have h := h I9 eI9
        refine j_iload_n (pc := 51) C dX10_board_51 rfl 1 rfl ?_
        refine j_iload_n (pc := 52) C dX10_board_52 rfl 2 rfl ?_
        refine j_imul (pc := 53) C dX10_board_53 ?_
        refine j_iload_n (pc := 54) C dX10_board_54 rfl 3 rfl ?_
        refine j_callS (pc := 55) (As := [.int a3]) (st := [.int (a1 * a2)]) C hX (m_X10_ones   h) ok_X10_ones wd_1164 wd_1165 ⟨by decide, by decide⟩ rfl rfl (Nat.le_of_ble_eq_true rfl) ⟨Nat.le_refl 0, Nat.le_refl 0⟩ dX10_board_55 (fun r V1 I1 J1 hp => ?_)
        obtain ⟨r10, rfl, rfl, rfl, rfl, h⟩ := hp
        show gJ X V 0 0 58 _ [.int r10, .int (a1 * a2)] _ _
        refine j_isub (pc := 58) C dX10_board_58 ?_
        exact j_iret (pc := 59) C hR (Nat.zero_le _) (Nat.zero_le _) dX10_board_59 ⟨_, rfl, rfl, rfl, h⟩
      · have h := h.2 c6
        refine j_bipush (pc := 33) (v := (-2)) C dX10_board_33 (by decide) ?_
        exact j_iret (pc := 35) C hR (Nat.zero_le _) (Nat.zero_le _) dX10_board_35 ⟨_, rfl, rfl, rfl, h⟩
/-! TileRulesModel.may(IZ)I -/
abbrev rm_X10_may : Room := { frames := 1, cells := 0, slots := 0, locals := 22 }
theorem ok_X10_may : gOk yX10_may cX10_may 4 (some .int) 2 := ⟨wd_1181, wd_74, by decide +kernel⟩
def w_X10_may_58  (Po : Int32 → gI → Prop)  (v3 : Int32) (s0 : Int32) (I : gI) : Prop :=
  (s0 = 0 ∨ s0 = 1) ∧ ∀ I9 : gI, I9 = gup I 200 17 s0 → (v3 = 0 → Po (0 : Int32) I9) ∧ (¬ v3 = 0 → Po (1 : Int32) I9)
def w_X10_may_41  (Po : Int32 → gI → Prop)  (v1 : Int32) (v2 : Int32) (v3 : Int32) (s0 : Int32) (I : gI) : Prop :=
  (s0 = 0 ∨ s0 = 1) ∧ ∀ I6 : gI, I6 = gup I 200 16 s0 → (¬ v1 = (1 : Int32) → w_X10_may_58 Po v3 (I6 200 17) I6) ∧ (v1 = (1 : Int32) → w_X10_may_58 Po v3 v2 I6)
def w_X10_may_27  (Po : Int32 → gI → Prop)  (v1 : Int32) (v2 : Int32) (s0 : Int32) (I : gI) : Prop :=
  (¬ v1 = 0 → w_X10_may_41 Po v1 v2 s0 (I 200 16) I) ∧ (v1 = 0 → w_X10_may_41 Po v1 v2 s0 v2 I)
def wp_X10_may (a1 : Int32) (a2 : Int32) (I : gI) (Po : Int32 → gI → Prop) : Prop :=
  wp_X10_isIn a1 (0 : Int32) (1 : Int32) (fun r1 => (¬ r1 = 0 → (¬ a1 = 0 → w_X10_may_27 Po a1 a2 (I 200 17) I) ∧ (a1 = 0 → w_X10_may_27 Po a1 a2 (I 200 16) I)) ∧ (r1 = 0 → Po (-2 : Int32) I))
set_option maxRecDepth 100000 in
set_option maxHeartbeats 4000000 in
theorem t_X10_may_58 {X : gX} {l : Launch} {D : va_G} {cy : Nat → ClassId} {nm : String} {V : gV} (hM : gModM V) (C : gC X cX10_may RX10 (some .int) 4 rm_X10_may) (hX : gIs X l D cy nm) {I : gI} {J : gL} {Po : Int32 → gI → Prop} (hR : gR X (gPi V (fun x I' J' => J = J' ∧ Po x I'))) {v3 : Int32} {s0 : Int32} (h : w_X10_may_58 Po v3 s0 I) : gJ X V 0 0 58 [(3, .int v3)] [.int s0, .ref (V.2.1 200)] I J := by
  unfold w_X10_may_58 at h
  obtain ⟨g8, h⟩ := h
  refine j_putI (pc := 58) (ft := .boolean) C tyX10 tyX10_ok nmX10 200 17 (c_200 hM).1 (c_200 hM).2 rfl rfl (by decide) inw_X10 wd_983 rfl (by decide +kernel) (by rcases g8 with q | q <;> rw [q] <;> rfl) (by rcases g8 with q | q <;> rw [q] <;> rfl) dX10_may_58 ?_
  refine gJ.nmI (fun I9 eI9 => ?_)
  have h := h I9 eI9
  refine j_iload_n (pc := 61) C dX10_may_61 rfl 0 rfl ?_
  refine j_if_eq (pc := 62) (tgt := 69) C dX10_may_62 (by decide) (fun c10 => ?_) (fun c10 => ?_)
  · have h := h.1 c10
    refine j_iconst (pc := 69) (v := 0) C dX10_may_69 (by decide) ?_
    exact j_iret (pc := 70) C hR (Nat.zero_le _) (Nat.zero_le _) dX10_may_70 ⟨_, rfl, rfl, rfl, h⟩
  · have h := h.2 c10
    refine j_iconst (pc := 65) (v := 1) C dX10_may_65 (by decide) ?_
    refine j_goto (pc := 66) (tgt := 70) C dX10_may_66 (by decide) ?_
    exact j_iret (pc := 70) C hR (Nat.zero_le _) (Nat.zero_le _) dX10_may_70 ⟨_, rfl, rfl, rfl, h⟩
set_option maxRecDepth 100000 in
set_option maxHeartbeats 4000000 in
theorem t_X10_may_41 {X : gX} {l : Launch} {D : va_G} {cy : Nat → ClassId} {nm : String} {V : gV} (hM : gModM V) (C : gC X cX10_may RX10 (some .int) 4 rm_X10_may) (hX : gIs X l D cy nm) {I : gI} {J : gL} {Po : Int32 → gI → Prop} (hR : gR X (gPi V (fun x I' J' => J = J' ∧ Po x I'))) {v1 : Int32} {v2 : Int32} {v3 : Int32} {s0 : Int32} (h : w_X10_may_41 Po v1 v2 v3 s0 I) : gJ X V 0 0 41 [(0, .ref (V.2.1 200)), (1, .int v1), (2, .int v2), (3, .int v3)] [.int s0, .ref (V.2.1 200)] I J := by
  unfold w_X10_may_41 at h
  obtain ⟨g5, h⟩ := h
  refine j_putI (pc := 41) (ft := .boolean) C tyX10 tyX10_ok nmX10 200 16 (c_200 hM).1 (c_200 hM).2 rfl rfl (by decide) inw_X10 wd_982 rfl (by decide +kernel) (by rcases g5 with q | q <;> rw [q] <;> rfl) (by rcases g5 with q | q <;> rw [q] <;> rfl) dX10_may_41 ?_
  refine gJ.nmI (fun I6 eI6 => ?_)
  have h := h I6 eI6
  refine j_aload_n (pc := 44) C dX10_may_44 rfl 0 rfl ?_
  refine j_iload_n (pc := 45) C dX10_may_45 rfl 1 rfl ?_
  refine j_iconst (pc := 46) (v := 1) C dX10_may_46 (by decide) ?_
  refine j_icmp_ne (pc := 47) (tgt := 54) C dX10_may_47 (by decide) (fun c7 => ?_) (fun c7 => ?_)
  · have h := h.1 c7
    refine j_aload_n (pc := 54) C dX10_may_54 rfl 0 rfl ?_
    refine j_getI (pc := 55) C 200 17 (c_200 hM).1 (c_200 hM).2 rfl rfl (by decide) inw_X10 wd_983 dX10_may_55 ?_
    refine gJ.sub [3] rfl ?_
    exact t_X10_may_58 hM C hX hR   h
  · have h := h.2 c7
    refine j_iload_n (pc := 50) C dX10_may_50 rfl 2 rfl ?_
    refine j_goto (pc := 51) (tgt := 58) C dX10_may_51 (by decide) ?_
    refine gJ.sub [3] rfl ?_
    exact t_X10_may_58 hM C hX hR   h
set_option maxRecDepth 100000 in
set_option maxHeartbeats 4000000 in
theorem t_X10_may_27 {X : gX} {l : Launch} {D : va_G} {cy : Nat → ClassId} {nm : String} {V : gV} (hM : gModM V) (C : gC X cX10_may RX10 (some .int) 4 rm_X10_may) (hX : gIs X l D cy nm) {I : gI} {J : gL} {Po : Int32 → gI → Prop} (hR : gR X (gPi V (fun x I' J' => J = J' ∧ Po x I'))) {v1 : Int32} {v2 : Int32} {s0 : Int32} (h : w_X10_may_27 Po v1 v2 s0 I) : gJ X V 0 0 27 [(0, .ref (V.2.1 200)), (1, .int v1), (2, .int v2)] [.int s0] I J := by
  unfold w_X10_may_27 at h
  refine j_istore_n (pc := 27) (lv' := [(3, .int s0), (0, .ref (V.2.1 200)), (1, .int v1), (2, .int v2)]) C dX10_may_27 rfl (by decide) rfl ?_
  refine j_aload_n (pc := 28) C dX10_may_28 rfl 1 rfl ?_
  refine j_iload_n (pc := 29) C dX10_may_29 rfl 2 rfl ?_
  refine j_if_ne (pc := 30) (tgt := 37) C dX10_may_30 (by decide) (fun c4 => ?_) (fun c4 => ?_)
  · have h := h.1 c4
    refine j_aload_n (pc := 37) C dX10_may_37 rfl 1 rfl ?_
    refine j_getI (pc := 38) C 200 16 (c_200 hM).1 (c_200 hM).2 rfl rfl (by decide) inw_X10 wd_982 dX10_may_38 ?_
    refine gJ.sub [1, 2, 3, 0] rfl ?_
    exact t_X10_may_41 hM C hX hR   h
  · have h := h.2 c4
    refine j_iload_n (pc := 33) C dX10_may_33 rfl 3 rfl ?_
    refine j_goto (pc := 34) (tgt := 41) C dX10_may_34 (by decide) ?_
    refine gJ.sub [1, 2, 3, 0] rfl ?_
    exact t_X10_may_41 hM C hX hR   h
set_option maxRecDepth 100000 in
set_option maxHeartbeats 4000000 in
theorem m_X10_may {l : Launch} {D : va_G} {cy : Nat → ClassId} {V : gV} (hM : gModM V) {a1 : Int32} {a2 : Int32} {I : gI} {J : gL} {Po : Int32 → gI → Prop} (h : wp_X10_may a1 a2 I Po) : gMet l D cy yX10_may cX10_may 4 (some .int) rm_X10_may V [.ref (V.2.1 200), .int a1, .int a2] I J (gPi V (fun x I' J' => J = J' ∧ Po x I')) := by
  refine gMet.of (by decide) (Nat.le_of_ble_eq_true rfl) (fun X hX C hR => ?_)
  have C : gC X cX10_may RX10 (some .int) 4 rm_X10_may := C
  show gJ X V 0 0 0 [(0, .ref (V.2.1 200)), (1, .int a1), (2, .int a2)] [] I J
  unfold wp_X10_may at h
  refine j_iload_n (pc := 0) C dX10_may_0 rfl 1 rfl ?_
  refine j_iconst (pc := 1) (v := 0) C dX10_may_1 (by decide) ?_
  refine j_iconst (pc := 2) (v := 1) C dX10_may_2 (by decide) ?_
  refine j_callS (pc := 3) (As := [.int a1, .int (0 : Int32), .int (1 : Int32)]) (st := []) C hX (m_X10_isIn   h) ok_X10_isIn wd_1108 wd_1109 ⟨by decide, by decide⟩ rfl rfl (Nat.le_of_ble_eq_true rfl) ⟨Nat.le_refl 0, Nat.le_refl 0⟩ dX10_may_3 (fun r V1 I1 J1 hp => ?_)
  obtain ⟨r1, rfl, rfl, rfl, rfl, h⟩ := hp
  show gJ X V 0 0 6 _ [.int r1] _ _
  refine j_if_ne (pc := 6) (tgt := 12) C dX10_may_6 (by decide) (fun c2 => ?_) (fun c2 => ?_)
  · have h := h.1 c2
    refine j_iload_n (pc := 12) C dX10_may_12 rfl 1 rfl ?_
    refine j_if_ne (pc := 13) (tgt := 23) C dX10_may_13 (by decide) (fun c3 => ?_) (fun c3 => ?_)
    · have h := h.1 c3
      refine j_aload_n (pc := 23) C dX10_may_23 rfl 0 rfl ?_
      refine j_getI (pc := 24) C 200 17 (c_200 hM).1 (c_200 hM).2 rfl rfl (by decide) inw_X10 wd_983 dX10_may_24 ?_
      refine gJ.sub [0, 1, 2] rfl ?_
      exact t_X10_may_27 hM C hX hR   h
    · have h := h.2 c3
      refine j_aload_n (pc := 16) C dX10_may_16 rfl 0 rfl ?_
      refine j_getI (pc := 17) C 200 16 (c_200 hM).1 (c_200 hM).2 rfl rfl (by decide) inw_X10 wd_982 dX10_may_17 ?_
      refine j_goto (pc := 20) (tgt := 27) C dX10_may_20 (by decide) ?_
      refine gJ.sub [0, 1, 2] rfl ?_
      exact t_X10_may_27 hM C hX hR   h
  · have h := h.2 c2
    refine j_bipush (pc := 9) (v := (-2)) C dX10_may_9 (by decide) ?_
    exact j_iret (pc := 11) C hR (Nat.zero_le _) (Nat.zero_le _) dX10_may_11 ⟨_, rfl, rfl, rfl, h⟩
/-! TileRulesModel.lay(IIZII)I -/
abbrev rm_X10_lay : Room := { frames := 1, cells := 0, slots := 0, locals := 22 }
theorem ok_X10_lay : gOk yX10_lay cX10_lay 12 (some .int) 5 := ⟨wd_1193, wd_74, by decide +kernel⟩
def w_X10_lay_161  (Po : Int32 → Prop) (K6 : Int32 → Int32 → Prop) (v1 : Int32) (v2 : Int32) (v3 : Int32) (v4 : Int32) (v5 : Int32) (v6 : Int32) (v7 : Int32) (I : gI) : Prop :=
  ∀ n3 : Int32, n3 = v7 + 1 → K6 v6 n3
def w_X10_lay_51b  (Po : Int32 → Prop) (K6 : Int32 → Int32 → Prop) (K51 : Int32 → Int32 → Int32 → Prop) (v1 : Int32) (v2 : Int32) (v3 : Int32) (v4 : Int32) (v5 : Int32) (v6 : Int32) (v7 : Int32) (v8 : Int32) (v9 : Int32) (v10 : Int32) (I : gI) : Prop :=
  (v2 ≤ v10 → ∀ n9 : Int32, n9 = (v8 + v4) → ∀ n10 : Int32, n10 = (v9 + v5) → wp_X10_isIn n9 (0 : Int32) ((I 200 13) - (1 : Int32)) (fun r11 => (r11 = 0 → Po (-1 : Int32)) ∧ (¬ r11 = 0 → wp_X10_isIn n10 (0 : Int32) ((I 200 14) - (1 : Int32)) (fun r13 => (r13 = 0 → Po (-1 : Int32)) ∧ (¬ r13 = 0 → (¬ (((I 200 15) >>> (((n10 * (I 200 13)) + n9) &&& 31)) &&& (1 : Int32)) = (1 : Int32) → ∀ n16 : Int32, n16 = (v6 ||| ((1 : Int32) <<< (((n10 * (I 200 13)) + n9) &&& 31))) → w_X10_lay_161 Po K6 v1 v2 v3 v4 v5 n16 v7 I) ∧ ((((I 200 15) >>> (((n10 * (I 200 13)) + n9) &&& 31)) &&& (1 : Int32)) = (1 : Int32) → Po (-1 : Int32))))))) ∧ (¬ v2 ≤ v10 → ∀ n17 : Int32, n17 = ((4 : Int32) - v9) → ∀ n18 : Int32, n18 = v10 + 1 → K51 n17 v8 n18)
def w_X10_lay_51  (Po : Int32 → Prop) (K6 : Int32 → Int32 → Prop) (v1 : Int32) (v2 : Int32) (v3 : Int32) (v4 : Int32) (v5 : Int32) (v6 : Int32) (v7 : Int32) (v8 : Int32) (v9 : Int32) (v10 : Int32) (I : gI) : Prop :=
  ∃ (Inv : Int32 → Int32 → Int32 → Prop) (mu : Int32 → Int32 → Int32 → Nat), Inv v8 v9 v10 ∧ ∀ (v8 : Int32) (v9 : Int32) (v10 : Int32), Inv v8 v9 v10 → w_X10_lay_51b  Po K6 (fun u8 u9 u10 => Inv u8 u9 u10 ∧ mu u8 u9 u10 < mu v8 v9 v10) v1 v2 v3 v4 v5 v6 v7 v8 v9 v10 I
def w_X10_lay_40  (Po : Int32 → Prop) (K6 : Int32 → Int32 → Prop) (v1 : Int32) (v2 : Int32) (v3 : Int32) (v4 : Int32) (v5 : Int32) (v6 : Int32) (v7 : Int32) (s0 : Int32) (I : gI) : Prop :=
  ¬ (5 : Int32) = 0 ∧ ∀ n7 : Int32, n7 = (v7 / (5 : Int32)) → w_X10_lay_51 Po K6 v1 v2 v3 v4 v5 v6 v7 s0 n7 (0 : Int32) I
def w_X10_lay_6b  (Po : Int32 → Prop) (K6 : Int32 → Int32 → Prop) (v1 : Int32) (v2 : Int32) (v3 : Int32) (v4 : Int32) (v5 : Int32) (v6 : Int32) (v7 : Int32) (I : gI) : Prop :=
  ((25 : Int32) ≤ v7 → Po v6) ∧ (¬ (25 : Int32) ≤ v7 → (¬ ((v1 >>> (v7 &&& 31)) &&& (1 : Int32)) = (1 : Int32) → w_X10_lay_161 Po K6 v1 v2 v3 v4 v5 v6 v7 I) ∧ (((v1 >>> (v7 &&& 31)) &&& (1 : Int32)) = (1 : Int32) → (v3 = 0 → ¬ (5 : Int32) = 0 ∧ w_X10_lay_40 Po K6 v1 v2 v3 v4 v5 v6 v7 (v7 - v7 / (5 : Int32) * (5 : Int32)) I) ∧ (¬ v3 = 0 → ¬ (5 : Int32) = 0 ∧ w_X10_lay_40 Po K6 v1 v2 v3 v4 v5 v6 v7 ((4 : Int32) - (v7 - v7 / (5 : Int32) * (5 : Int32))) I)))
def w_X10_lay_6  (Po : Int32 → Prop)  (v1 : Int32) (v2 : Int32) (v3 : Int32) (v4 : Int32) (v5 : Int32) (v6 : Int32) (v7 : Int32) (I : gI) : Prop :=
  ∃ (Inv : Int32 → Int32 → Prop) (mu : Int32 → Int32 → Nat), Inv v6 v7 ∧ ∀ (v6 : Int32) (v7 : Int32), Inv v6 v7 → w_X10_lay_6b  Po  (fun u6 u7 => Inv u6 u7 ∧ mu u6 u7 < mu v6 v7) v1 v2 v3 v4 v5 v6 v7 I
def wp_X10_lay (a1 : Int32) (a2 : Int32) (a3 : Int32) (a4 : Int32) (a5 : Int32) (I : gI) (Po : Int32 → Prop) : Prop :=
  w_X10_lay_6 Po a1 a2 a3 a4 a5 (0 : Int32) (0 : Int32) I
set_option maxRecDepth 100000 in
set_option maxHeartbeats 4000000 in
theorem t_X10_lay_161 {X : gX} {l : Launch} {D : va_G} {cy : Nat → ClassId} {nm : String} {V : gV} (hM : gModM V) (C : gC X cX10_lay RX10 (some .int) 12 rm_X10_lay) (hX : gIs X l D cy nm) {I : gI} {J : gL} {Po : Int32 → Prop} (hR : gR X (gPi V (fun x I' J' => I = I' ∧ J = J' ∧ Po x))) {v1 : Int32} {v2 : Int32} {v3 : Int32} {v4 : Int32} {v5 : Int32} {v6 : Int32} {v7 : Int32} {K6 : Int32 → Int32 → Prop} (hK6 : ∀ (y6 : Int32) (y7 : Int32), K6 y6 y7 → gJ X V 0 0 6 [(0, .ref (V.2.1 200)), (1, .int v1), (2, .int v2), (3, .int v3), (4, .int v4), (5, .int v5), (6, .int y6), (7, .int y7)] [] I J) (h : w_X10_lay_161 Po K6 v1 v2 v3 v4 v5 v6 v7 I) : gJ X V 0 0 161 [(0, .ref (V.2.1 200)), (1, .int v1), (2, .int v2), (3, .int v3), (4, .int v4), (5, .int v5), (6, .int v6), (7, .int v7)] [] I J := by
  unfold w_X10_lay_161 at h
  obtain ⟨n3, en3⟩ : ∃ z : Int32, z = v7 + 1 := ⟨_, rfl⟩
  have h := h n3 en3
  refine j_iinc (pc := 161) (v := n3) (lv' := [(7, .int n3), (0, .ref (V.2.1 200)), (1, .int v1), (2, .int v2), (3, .int v3), (4, .int v4), (5, .int v5), (6, .int v6)]) C dX10_lay_161 7 rfl (by rw [en3]; rfl) (by decide) rfl ?_
  refine j_goto (pc := 164) (tgt := 6) C dX10_lay_164 (by decide) ?_
  refine gJ.sub [1, 2, 3, 4, 5, 6, 7, 0] rfl ?_
  exact hK6 _ _ h
set_option maxRecDepth 100000 in
set_option maxHeartbeats 4000000 in
theorem t_X10_lay_51b {X : gX} {l : Launch} {D : va_G} {cy : Nat → ClassId} {nm : String} {V : gV} (hM : gModM V) (C : gC X cX10_lay RX10 (some .int) 12 rm_X10_lay) (hX : gIs X l D cy nm) {I : gI} {J : gL} {Po : Int32 → Prop} (hR : gR X (gPi V (fun x I' J' => I = I' ∧ J = J' ∧ Po x))) {v1 : Int32} {v2 : Int32} {v3 : Int32} {v4 : Int32} {v5 : Int32} {v6 : Int32} {v7 : Int32} {v8 : Int32} {v9 : Int32} {v10 : Int32} {K6 : Int32 → Int32 → Prop} {K51 : Int32 → Int32 → Int32 → Prop} (hK6 : ∀ (y6 : Int32) (y7 : Int32), K6 y6 y7 → gJ X V 0 0 6 [(0, .ref (V.2.1 200)), (1, .int v1), (2, .int v2), (3, .int v3), (4, .int v4), (5, .int v5), (6, .int y6), (7, .int y7)] [] I J) (hK51 : ∀ (y8 : Int32) (y9 : Int32) (y10 : Int32), K51 y8 y9 y10 → gJ X V 0 0 51 [(0, .ref (V.2.1 200)), (1, .int v1), (2, .int v2), (3, .int v3), (4, .int v4), (5, .int v5), (6, .int v6), (7, .int v7), (8, .int y8), (9, .int y9), (10, .int y10)] [] I J) (h : w_X10_lay_51b Po K6 K51 v1 v2 v3 v4 v5 v6 v7 v8 v9 v10 I) : gJ X V 0 0 51 [(0, .ref (V.2.1 200)), (1, .int v1), (2, .int v2), (3, .int v3), (4, .int v4), (5, .int v5), (6, .int v6), (7, .int v7), (8, .int v8), (9, .int v9), (10, .int v10)] [] I J := by
  unfold w_X10_lay_51b at h
  refine j_iload (pc := 51) C dX10_lay_51 10 rfl ?_
  refine j_iload_n (pc := 53) C dX10_lay_53 rfl 2 rfl ?_
  refine j_icmp_ge (pc := 54) (tgt := 77) C dX10_lay_54 (by decide) (fun c8 => ?_) (fun c8 => ?_)
  · have h := h.1 c8
    refine j_iload (pc := 77) C dX10_lay_77 8 rfl ?_
    refine j_iload (pc := 79) C dX10_lay_79 4 rfl ?_
    refine j_iadd (pc := 81) C dX10_lay_81 ?_
    refine gJ.topi (fun n9 en9 => ?_)
    have h := h n9 en9
    refine j_istore (pc := 82) (lv' := [(8, .int n9), (0, .ref (V.2.1 200)), (1, .int v1), (2, .int v2), (3, .int v3), (4, .int v4), (5, .int v5), (6, .int v6), (7, .int v7), (9, .int v9), (10, .int v10)]) C dX10_lay_82 (by decide) rfl ?_
    refine j_iload (pc := 84) C dX10_lay_84 9 rfl ?_
    refine j_iload (pc := 86) C dX10_lay_86 6 rfl ?_
    refine j_iadd (pc := 88) C dX10_lay_88 ?_
    refine gJ.topi (fun n10 en10 => ?_)
    have h := h n10 en10
    refine j_istore (pc := 89) (lv' := [(9, .int n10), (8, .int n9), (0, .ref (V.2.1 200)), (1, .int v1), (2, .int v2), (3, .int v3), (4, .int v4), (5, .int v5), (6, .int v6), (7, .int v7), (10, .int v10)]) C dX10_lay_89 (by decide) rfl ?_
    refine j_iload (pc := 91) C dX10_lay_91 1 rfl ?_
    refine j_iconst (pc := 93) (v := 0) C dX10_lay_93 (by decide) ?_
    refine j_aload_n (pc := 94) C dX10_lay_94 rfl 2 rfl ?_
    refine j_getI (pc := 95) C 200 13 (c_200 hM).1 (c_200 hM).2 rfl rfl (by decide) inw_X10 wd_979 dX10_lay_95 ?_
    refine j_iconst (pc := 98) (v := 1) C dX10_lay_98 (by decide) ?_
    refine j_isub (pc := 99) C dX10_lay_99 ?_
    refine j_callS (pc := 100) (As := [.int n9, .int (0 : Int32), .int ((I 200 13) - (1 : Int32))]) (st := []) C hX (m_X10_isIn   h) ok_X10_isIn wd_1108 wd_1109 ⟨by decide, by decide⟩ rfl rfl (Nat.le_of_ble_eq_true rfl) ⟨Nat.le_refl 0, Nat.le_refl 0⟩ dX10_lay_100 (fun r V1 I1 J1 hp => ?_)
    obtain ⟨r11, rfl, rfl, rfl, rfl, h⟩ := hp
    show gJ X V 0 0 103 _ [.int r11] _ _
    refine j_if_eq (pc := 103) (tgt := 142) C dX10_lay_103 (by decide) (fun c12 => ?_) (fun c12 => ?_)
    · have h := h.1 c12
      refine j_iconst (pc := 142) (v := (-1)) C dX10_lay_142 (by decide) ?_
      exact j_iret (pc := 143) C hR (Nat.zero_le _) (Nat.zero_le _) dX10_lay_143 ⟨_, rfl, rfl, rfl, rfl, h⟩
    · have h := h.2 c12
      refine j_iload (pc := 106) C dX10_lay_106 0 rfl ?_
      refine j_iconst (pc := 108) (v := 0) C dX10_lay_108 (by decide) ?_
      refine j_aload_n (pc := 109) C dX10_lay_109 rfl 2 rfl ?_
      refine j_getI (pc := 110) C 200 14 (c_200 hM).1 (c_200 hM).2 rfl rfl (by decide) inw_X10 wd_980 dX10_lay_110 ?_
      refine j_iconst (pc := 113) (v := 1) C dX10_lay_113 (by decide) ?_
      refine j_isub (pc := 114) C dX10_lay_114 ?_
      refine j_callS (pc := 115) (As := [.int n10, .int (0 : Int32), .int ((I 200 14) - (1 : Int32))]) (st := []) C hX (m_X10_isIn   h) ok_X10_isIn wd_1108 wd_1109 ⟨by decide, by decide⟩ rfl rfl (Nat.le_of_ble_eq_true rfl) ⟨Nat.le_refl 0, Nat.le_refl 0⟩ dX10_lay_115 (fun r V1 I1 J1 hp => ?_)
      obtain ⟨r13, rfl, rfl, rfl, rfl, h⟩ := hp
      show gJ X V 0 0 118 _ [.int r13] _ _
      refine j_if_eq (pc := 118) (tgt := 142) C dX10_lay_118 (by decide) (fun c14 => ?_) (fun c14 => ?_)
      · have h := h.1 c14
        refine j_iconst (pc := 142) (v := (-1)) C dX10_lay_142 (by decide) ?_
        exact j_iret (pc := 143) C hR (Nat.zero_le _) (Nat.zero_le _) dX10_lay_143 ⟨_, rfl, rfl, rfl, rfl, h⟩
      · have h := h.2 c14
        refine j_aload_n (pc := 121) C dX10_lay_121 rfl 2 rfl ?_
        refine j_getI (pc := 122) C 200 15 (c_200 hM).1 (c_200 hM).2 rfl rfl (by decide) inw_X10 wd_981 dX10_lay_122 ?_
        refine j_iload (pc := 125) C dX10_lay_125 0 rfl ?_
        refine j_aload_n (pc := 127) C dX10_lay_127 rfl 2 rfl ?_
        refine j_getI (pc := 128) C 200 13 (c_200 hM).1 (c_200 hM).2 rfl rfl (by decide) inw_X10 wd_979 dX10_lay_128 ?_
        refine j_imul (pc := 131) C dX10_lay_131 ?_
        refine j_iload (pc := 132) C dX10_lay_132 1 rfl ?_
        refine j_iadd (pc := 134) C dX10_lay_134 ?_
        refine j_ishr (pc := 135) C dX10_lay_135 ?_
        refine j_iconst (pc := 136) (v := 1) C dX10_lay_136 (by decide) ?_
        refine j_iand (pc := 137) C dX10_lay_137 ?_
        refine j_iconst (pc := 138) (v := 1) C dX10_lay_138 (by decide) ?_
        refine j_icmp_ne (pc := 139) (tgt := 144) C dX10_lay_139 (by decide) (fun c15 => ?_) (fun c15 => ?_)
        · have h := h.1 c15
          refine j_iload (pc := 144) C dX10_lay_144 8 rfl ?_
          refine j_iconst (pc := 146) (v := 1) C dX10_lay_146 (by decide) ?_
          refine j_iload (pc := 147) C dX10_lay_147 0 rfl ?_
          refine j_aload_n (pc := 149) C dX10_lay_149 rfl 2 rfl ?_
          refine j_getI (pc := 150) C 200 13 (c_200 hM).1 (c_200 hM).2 rfl rfl (by decide) inw_X10 wd_979 dX10_lay_150 ?_
          refine j_imul (pc := 153) C dX10_lay_153 ?_
          refine j_iload (pc := 154) C dX10_lay_154 1 rfl ?_
          refine j_iadd (pc := 156) C dX10_lay_156 ?_
          refine j_ishl (pc := 157) C dX10_lay_157 ?_
          refine j_ior (pc := 158) C dX10_lay_158 ?_
          refine gJ.topi (fun n16 en16 => ?_)
          have h := h n16 en16
          refine j_istore (pc := 159) (lv' := [(6, .int n16), (9, .int n10), (8, .int n9), (0, .ref (V.2.1 200)), (1, .int v1), (2, .int v2), (3, .int v3), (4, .int v4), (5, .int v5), (7, .int v7), (10, .int v10)]) C dX10_lay_159 (by decide) rfl ?_
          refine gJ.sub [3, 4, 5, 6, 7, 8, 0, 9] rfl ?_
          exact t_X10_lay_161 hM C hX hR  hK6 h
        · have h := h.2 c15
          refine j_iconst (pc := 142) (v := (-1)) C dX10_lay_142 (by decide) ?_
          exact j_iret (pc := 143) C hR (Nat.zero_le _) (Nat.zero_le _) dX10_lay_143 ⟨_, rfl, rfl, rfl, rfl, h⟩
  · have h := h.2 c8
    refine j_iload (pc := 57) C dX10_lay_57 8 rfl ?_
    refine j_istore (pc := 59) (lv' := [(11, .int v8), (0, .ref (V.2.1 200)), (1, .int v1), (2, .int v2), (3, .int v3), (4, .int v4), (5, .int v5), (6, .int v6), (7, .int v7), (8, .int v8), (9, .int v9), (10, .int v10)]) C dX10_lay_59 (by decide) rfl ?_
    refine j_iconst (pc := 61) (v := 4) C dX10_lay_61 (by decide) ?_
    refine j_iload (pc := 62) C dX10_lay_62 10 rfl ?_
    refine j_isub (pc := 64) C dX10_lay_64 ?_
    refine gJ.topi (fun n17 en17 => ?_)
    have h := h n17 en17
    refine j_istore (pc := 65) (lv' := [(8, .int n17), (11, .int v8), (0, .ref (V.2.1 200)), (1, .int v1), (2, .int v2), (3, .int v3), (4, .int v4), (5, .int v5), (6, .int v6), (7, .int v7), (9, .int v9), (10, .int v10)]) C dX10_lay_65 (by decide) rfl ?_
    refine j_iload (pc := 67) C dX10_lay_67 1 rfl ?_
    refine j_istore (pc := 69) (lv' := [(9, .int v8), (8, .int n17), (11, .int v8), (0, .ref (V.2.1 200)), (1, .int v1), (2, .int v2), (3, .int v3), (4, .int v4), (5, .int v5), (6, .int v6), (7, .int v7), (10, .int v10)]) C dX10_lay_69 (by decide) rfl ?_
    obtain ⟨n18, en18⟩ : ∃ z : Int32, z = v10 + 1 := ⟨_, rfl⟩
    have h := h n18 en18
    refine j_iinc (pc := 71) (v := n18) (lv' := [(10, .int n18), (9, .int v8), (8, .int n17), (11, .int v8), (0, .ref (V.2.1 200)), (1, .int v1), (2, .int v2), (3, .int v3), (4, .int v4), (5, .int v5), (6, .int v6), (7, .int v7)]) C dX10_lay_71 11 rfl (by rw [en18]; rfl) (by decide) rfl ?_
    refine j_goto (pc := 74) (tgt := 51) C dX10_lay_74 (by decide) ?_
    refine gJ.sub [4, 5, 6, 7, 8, 9, 10, 11, 2, 1, 0] rfl ?_
    exact hK51 _ _ _ h
set_option maxRecDepth 100000 in
set_option maxHeartbeats 4000000 in
theorem t_X10_lay_51 {X : gX} {l : Launch} {D : va_G} {cy : Nat → ClassId} {nm : String} {V : gV} (hM : gModM V) (C : gC X cX10_lay RX10 (some .int) 12 rm_X10_lay) (hX : gIs X l D cy nm) {I : gI} {J : gL} {Po : Int32 → Prop} (hR : gR X (gPi V (fun x I' J' => I = I' ∧ J = J' ∧ Po x))) {v1 : Int32} {v2 : Int32} {v3 : Int32} {v4 : Int32} {v5 : Int32} {v6 : Int32} {v7 : Int32} {v8 : Int32} {v9 : Int32} {v10 : Int32} {K6 : Int32 → Int32 → Prop} (hK6 : ∀ (y6 : Int32) (y7 : Int32), K6 y6 y7 → gJ X V 0 0 6 [(0, .ref (V.2.1 200)), (1, .int v1), (2, .int v2), (3, .int v3), (4, .int v4), (5, .int v5), (6, .int y6), (7, .int y7)] [] I J) (h : w_X10_lay_51 Po K6 v1 v2 v3 v4 v5 v6 v7 v8 v9 v10 I) : gJ X V 0 0 51 [(0, .ref (V.2.1 200)), (1, .int v1), (2, .int v2), (3, .int v3), (4, .int v4), (5, .int v5), (6, .int v6), (7, .int v7), (8, .int v8), (9, .int v9), (10, .int v10)] [] I J := by
  unfold w_X10_lay_51 at h
  obtain ⟨Inv, mu, h0, hs⟩ := h
  have key : ∀ (n : Nat) (v8 : Int32) (v9 : Int32) (v10 : Int32), Inv v8 v9 v10 → mu v8 v9 v10 < n → gJ X V 0 0 51 [(0, .ref (V.2.1 200)), (1, .int v1), (2, .int v2), (3, .int v3), (4, .int v4), (5, .int v5), (6, .int v6), (7, .int v7), (8, .int v8), (9, .int v9), (10, .int v10)] [] I J := by
    intro n
    induction n with
    | zero => intro v8 v9 v10 hi hn; exact absurd hn (Nat.not_lt_zero _)
    | succ n ih =>
      intro v8 v9 v10 hi hn
      exact t_X10_lay_51b hM C hX hR  hK6 (fun u8 u9 u10 hk => ih u8 u9 u10 hk.1 (Nat.lt_of_lt_of_le hk.2 (Nat.le_of_lt_succ hn))) (hs v8 v9 v10 hi)
  exact key _ v8 v9 v10 h0 (Nat.lt_succ_self _)
set_option maxRecDepth 100000 in
set_option maxHeartbeats 4000000 in
theorem t_X10_lay_40 {X : gX} {l : Launch} {D : va_G} {cy : Nat → ClassId} {nm : String} {V : gV} (hM : gModM V) (C : gC X cX10_lay RX10 (some .int) 12 rm_X10_lay) (hX : gIs X l D cy nm) {I : gI} {J : gL} {Po : Int32 → Prop} (hR : gR X (gPi V (fun x I' J' => I = I' ∧ J = J' ∧ Po x))) {v1 : Int32} {v2 : Int32} {v3 : Int32} {v4 : Int32} {v5 : Int32} {v6 : Int32} {v7 : Int32} {s0 : Int32} {K6 : Int32 → Int32 → Prop} (hK6 : ∀ (y6 : Int32) (y7 : Int32), K6 y6 y7 → gJ X V 0 0 6 [(0, .ref (V.2.1 200)), (1, .int v1), (2, .int v2), (3, .int v3), (4, .int v4), (5, .int v5), (6, .int y6), (7, .int y7)] [] I J) (h : w_X10_lay_40 Po K6 v1 v2 v3 v4 v5 v6 v7 s0 I) : gJ X V 0 0 40 [(0, .ref (V.2.1 200)), (1, .int v1), (2, .int v2), (3, .int v3), (4, .int v4), (5, .int v5), (6, .int v6), (7, .int v7)] [.int s0] I J := by
  unfold w_X10_lay_40 at h
  refine j_istore (pc := 40) (lv' := [(8, .int s0), (0, .ref (V.2.1 200)), (1, .int v1), (2, .int v2), (3, .int v3), (4, .int v4), (5, .int v5), (6, .int v6), (7, .int v7)]) C dX10_lay_40 (by decide) rfl ?_
  refine j_iload (pc := 42) C dX10_lay_42 8 rfl ?_
  refine j_iconst (pc := 44) (v := 5) C dX10_lay_44 (by decide) ?_
  obtain ⟨g6, h⟩ := h
  refine j_idiv (pc := 45) C dX10_lay_45 g6 ?_
  refine gJ.topi (fun n7 en7 => ?_)
  have h := h n7 en7
  refine j_istore (pc := 46) (lv' := [(9, .int n7), (8, .int s0), (0, .ref (V.2.1 200)), (1, .int v1), (2, .int v2), (3, .int v3), (4, .int v4), (5, .int v5), (6, .int v6), (7, .int v7)]) C dX10_lay_46 (by decide) rfl ?_
  refine j_iconst (pc := 48) (v := 0) C dX10_lay_48 (by decide) ?_
  refine j_istore (pc := 49) (lv' := [(10, .int (0 : Int32)), (9, .int n7), (8, .int s0), (0, .ref (V.2.1 200)), (1, .int v1), (2, .int v2), (3, .int v3), (4, .int v4), (5, .int v5), (6, .int v6), (7, .int v7)]) C dX10_lay_49 (by decide) rfl ?_
  refine gJ.sub [3, 4, 5, 6, 7, 8, 9, 10, 2, 1, 0] rfl ?_
  exact t_X10_lay_51 hM C hX hR  hK6 h
set_option maxRecDepth 100000 in
set_option maxHeartbeats 4000000 in
theorem t_X10_lay_6b {X : gX} {l : Launch} {D : va_G} {cy : Nat → ClassId} {nm : String} {V : gV} (hM : gModM V) (C : gC X cX10_lay RX10 (some .int) 12 rm_X10_lay) (hX : gIs X l D cy nm) {I : gI} {J : gL} {Po : Int32 → Prop} (hR : gR X (gPi V (fun x I' J' => I = I' ∧ J = J' ∧ Po x))) {v1 : Int32} {v2 : Int32} {v3 : Int32} {v4 : Int32} {v5 : Int32} {v6 : Int32} {v7 : Int32} {K6 : Int32 → Int32 → Prop} (hK6 : ∀ (y6 : Int32) (y7 : Int32), K6 y6 y7 → gJ X V 0 0 6 [(0, .ref (V.2.1 200)), (1, .int v1), (2, .int v2), (3, .int v3), (4, .int v4), (5, .int v5), (6, .int y6), (7, .int y7)] [] I J) (h : w_X10_lay_6b Po K6 v1 v2 v3 v4 v5 v6 v7 I) : gJ X V 0 0 6 [(0, .ref (V.2.1 200)), (1, .int v1), (2, .int v2), (3, .int v3), (4, .int v4), (5, .int v5), (6, .int v6), (7, .int v7)] [] I J := by
  unfold w_X10_lay_6b at h
  refine j_iload (pc := 6) C dX10_lay_6 7 rfl ?_
  refine j_bipush (pc := 8) (v := 25) C dX10_lay_8 (by decide) ?_
  refine j_icmp_ge (pc := 10) (tgt := 167) C dX10_lay_10 (by decide) (fun c1 => ?_) (fun c1 => ?_)
  · have h := h.1 c1
    refine j_iload (pc := 167) C dX10_lay_167 6 rfl ?_
    exact j_iret (pc := 169) C hR (Nat.zero_le _) (Nat.zero_le _) dX10_lay_169 ⟨_, rfl, rfl, rfl, rfl, h⟩
  · have h := h.2 c1
    refine j_iload_n (pc := 13) C dX10_lay_13 rfl 1 rfl ?_
    refine j_iload (pc := 14) C dX10_lay_14 7 rfl ?_
    refine j_ishr (pc := 16) C dX10_lay_16 ?_
    refine j_iconst (pc := 17) (v := 1) C dX10_lay_17 (by decide) ?_
    refine j_iand (pc := 18) C dX10_lay_18 ?_
    refine j_iconst (pc := 19) (v := 1) C dX10_lay_19 (by decide) ?_
    refine j_icmp_ne (pc := 20) (tgt := 161) C dX10_lay_20 (by decide) (fun c2 => ?_) (fun c2 => ?_)
    · have h := h.1 c2
      refine gJ.sub [0, 1, 2, 3, 4, 5, 6, 7] rfl ?_
      exact t_X10_lay_161 hM C hX hR  hK6 h
    · have h := h.2 c2
      refine j_iload_n (pc := 23) C dX10_lay_23 rfl 3 rfl ?_
      refine j_if_eq (pc := 24) (tgt := 36) C dX10_lay_24 (by decide) (fun c4 => ?_) (fun c4 => ?_)
      · have h := h.1 c4
        refine j_iload (pc := 36) C dX10_lay_36 7 rfl ?_
        refine j_iconst (pc := 38) (v := 5) C dX10_lay_38 (by decide) ?_
        obtain ⟨g5, h⟩ := h
        refine j_irem (pc := 39) C dX10_lay_39 g5 ?_
        refine gJ.sub [0, 1, 2, 3, 4, 5, 6, 7] rfl ?_
        exact t_X10_lay_40 hM C hX hR  hK6 h
      · have h := h.2 c4
        refine j_iconst (pc := 27) (v := 4) C dX10_lay_27 (by decide) ?_
        refine j_iload (pc := 28) C dX10_lay_28 7 rfl ?_
        refine j_iconst (pc := 30) (v := 5) C dX10_lay_30 (by decide) ?_
        obtain ⟨g19, h⟩ := h
        refine j_irem (pc := 31) C dX10_lay_31 g19 ?_
        refine j_isub (pc := 32) C dX10_lay_32 ?_
        refine j_goto (pc := 33) (tgt := 40) C dX10_lay_33 (by decide) ?_
        refine gJ.sub [0, 1, 2, 3, 4, 5, 6, 7] rfl ?_
        exact t_X10_lay_40 hM C hX hR  hK6 h
set_option maxRecDepth 100000 in
set_option maxHeartbeats 4000000 in
theorem t_X10_lay_6 {X : gX} {l : Launch} {D : va_G} {cy : Nat → ClassId} {nm : String} {V : gV} (hM : gModM V) (C : gC X cX10_lay RX10 (some .int) 12 rm_X10_lay) (hX : gIs X l D cy nm) {I : gI} {J : gL} {Po : Int32 → Prop} (hR : gR X (gPi V (fun x I' J' => I = I' ∧ J = J' ∧ Po x))) {v1 : Int32} {v2 : Int32} {v3 : Int32} {v4 : Int32} {v5 : Int32} {v6 : Int32} {v7 : Int32} (h : w_X10_lay_6 Po v1 v2 v3 v4 v5 v6 v7 I) : gJ X V 0 0 6 [(0, .ref (V.2.1 200)), (1, .int v1), (2, .int v2), (3, .int v3), (4, .int v4), (5, .int v5), (6, .int v6), (7, .int v7)] [] I J := by
  unfold w_X10_lay_6 at h
  obtain ⟨Inv, mu, h0, hs⟩ := h
  have key : ∀ (n : Nat) (v6 : Int32) (v7 : Int32), Inv v6 v7 → mu v6 v7 < n → gJ X V 0 0 6 [(0, .ref (V.2.1 200)), (1, .int v1), (2, .int v2), (3, .int v3), (4, .int v4), (5, .int v5), (6, .int v6), (7, .int v7)] [] I J := by
    intro n
    induction n with
    | zero => intro v6 v7 hi hn; exact absurd hn (Nat.not_lt_zero _)
    | succ n ih =>
      intro v6 v7 hi hn
      exact t_X10_lay_6b hM C hX hR   (fun u6 u7 hk => ih u6 u7 hk.1 (Nat.lt_of_lt_of_le hk.2 (Nat.le_of_lt_succ hn))) (hs v6 v7 hi)
  exact key _ v6 v7 h0 (Nat.lt_succ_self _)
set_option maxRecDepth 100000 in
set_option maxHeartbeats 4000000 in
theorem m_X10_lay {l : Launch} {D : va_G} {cy : Nat → ClassId} {V : gV} (hM : gModM V) {a1 : Int32} {a2 : Int32} {a3 : Int32} {a4 : Int32} {a5 : Int32} {I : gI} {J : gL} {Po : Int32 → Prop} (h : wp_X10_lay a1 a2 a3 a4 a5 I Po) : gMet l D cy yX10_lay cX10_lay 12 (some .int) rm_X10_lay V [.ref (V.2.1 200), .int a1, .int a2, .int a3, .int a4, .int a5] I J (gPi V (fun x I' J' => I = I' ∧ J = J' ∧ Po x)) := by
  refine gMet.of (by decide) (Nat.le_of_ble_eq_true rfl) (fun X hX C hR => ?_)
  have C : gC X cX10_lay RX10 (some .int) 12 rm_X10_lay := C
  show gJ X V 0 0 0 [(0, .ref (V.2.1 200)), (1, .int a1), (2, .int a2), (3, .int a3), (4, .int a4), (5, .int a5)] [] I J
  unfold wp_X10_lay at h
  refine j_iconst (pc := 0) (v := 0) C dX10_lay_0 (by decide) ?_
  refine j_istore (pc := 1) (lv' := [(6, .int (0 : Int32)), (0, .ref (V.2.1 200)), (1, .int a1), (2, .int a2), (3, .int a3), (4, .int a4), (5, .int a5)]) C dX10_lay_1 (by decide) rfl ?_
  refine j_iconst (pc := 3) (v := 0) C dX10_lay_3 (by decide) ?_
  refine j_istore (pc := 4) (lv' := [(7, .int (0 : Int32)), (6, .int (0 : Int32)), (0, .ref (V.2.1 200)), (1, .int a1), (2, .int a2), (3, .int a3), (4, .int a4), (5, .int a5)]) C dX10_lay_4 (by decide) rfl ?_
  refine gJ.sub [2, 3, 4, 5, 6, 7, 1, 0] rfl ?_
  exact t_X10_lay_6 hM C hX hR   h
