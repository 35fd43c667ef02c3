/-! TileRules.isBetween(III)Z -/
abbrev rm_X9_isBetween : Room := { frames := 0, cells := 0, slots := 0, locals := 0 }
theorem ok_X9_isBetween : gOk yX9_isBetween cX9_isBetween 3 (some .boolean) 3 := ⟨wd_281, wd_69, by decide +kernel⟩
def wp_X9_isBetween (a0 : Int32) (a1 : Int32) (a2 : Int32) (Po : Int32 → Prop) : Prop :=
  (a0 < a1 → Po (0 : Int32)) ∧ (¬ a0 < a1 → (a2 < a0 → Po (0 : Int32)) ∧ (¬ a2 < a0 → Po (1 : Int32)))
set_option maxRecDepth 100000 in
set_option maxHeartbeats 4000000 in
theorem m_X9_isBetween {l : Launch} {D : va_G} {cy : Nat → ClassId} {V : gV} {a0 : Int32} {a1 : Int32} {a2 : Int32} {I : gI} {J : gL} {Po : Int32 → Prop} (h : wp_X9_isBetween a0 a1 a2 Po) : gMet l D cy yX9_isBetween cX9_isBetween 3 (some .boolean) rm_X9_isBetween V [.int a0, .int a1, .int a2] I J (gPi V (fun x I' J' => I = I' ∧ J = J' ∧ Po x)) := by
  refine gMet.of (by decide) (Nat.le_of_ble_eq_true rfl) (fun X hX C hR => ?_)
  have C : gC X cX9_isBetween RX9 (some .boolean) 3 rm_X9_isBetween := C
  show gJ X V 0 0 0 [(0, .int a0), (1, .int a1), (2, .int a2)] [] I J
  unfold wp_X9_isBetween at h
  refine j_iload_n (pc := 0) C dX9_isBetween_0 rfl 1 rfl ?_
  refine j_iload_n (pc := 1) C dX9_isBetween_1 rfl 0 rfl ?_
  refine j_icmp_gt (pc := 2) (tgt := 14) C dX9_isBetween_2 (by decide) (fun c1 => ?_) (fun c1 => ?_)
  · have h := h.1 c1
    refine j_iconst (pc := 14) (v := 0) C dX9_isBetween_14 (by decide) ?_
    exact j_zret (pc := 15) C hR (Or.inl rfl) (Nat.zero_le _) (Nat.zero_le _) dX9_isBetween_15 ⟨_, rfl, rfl, rfl, rfl, h⟩
  · have h := h.2 c1
    refine j_iload_n (pc := 5) C dX9_isBetween_5 rfl 0 rfl ?_
    refine j_iload_n (pc := 6) C dX9_isBetween_6 rfl 2 rfl ?_
    refine j_icmp_gt (pc := 7) (tgt := 14) C dX9_isBetween_7 (by decide) (fun c2 => ?_) (fun c2 => ?_)
    · have h := h.1 c2
      refine j_iconst (pc := 14) (v := 0) C dX9_isBetween_14 (by decide) ?_
      exact j_zret (pc := 15) C hR (Or.inl rfl) (Nat.zero_le _) (Nat.zero_le _) dX9_isBetween_15 ⟨_, rfl, rfl, rfl, rfl, h⟩
    · have h := h.2 c2
      refine j_iconst (pc := 10) (v := 1) C dX9_isBetween_10 (by decide) ?_
      refine j_goto (pc := 11) (tgt := 15) C dX9_isBetween_11 (by decide) ?_
      exact j_zret (pc := 15) C hR (Or.inr rfl) (Nat.zero_le _) (Nat.zero_le _) dX9_isBetween_15 ⟨_, rfl, rfl, rfl, rfl, h⟩
/-! TileRules.isColour(I)Z -/
abbrev rm_X9_isColour : Room := { frames := 1, cells := 0, slots := 0, locals := 22 }
theorem ok_X9_isColour : gOk yX9_isColour cX9_isColour 1 (some .boolean) 1 := ⟨wd_278, wd_69, by decide +kernel⟩
def wp_X9_isColour (a0 : Int32) (Po : Int32 → Prop) : Prop :=
  wp_X9_isBetween a0 (0 : Int32) (9 : Int32) (fun r1 => (r1 = 0 ∨ r1 = 1) ∧ Po r1)
set_option maxRecDepth 100000 in
set_option maxHeartbeats 4000000 in
theorem m_X9_isColour {l : Launch} {D : va_G} {cy : Nat → ClassId} {V : gV} {a0 : Int32} {I : gI} {J : gL} {Po : Int32 → Prop} (h : wp_X9_isColour a0 Po) : gMet l D cy yX9_isColour cX9_isColour 1 (some .boolean) rm_X9_isColour V [.int a0] I J (gPi V (fun x I' J' => I = I' ∧ J = J' ∧ Po x)) := by
  refine gMet.of (by decide) (Nat.le_of_ble_eq_true rfl) (fun X hX C hR => ?_)
  have C : gC X cX9_isColour RX9 (some .boolean) 1 rm_X9_isColour := C
  show gJ X V 0 0 0 [(0, .int a0)] [] I J
  unfold wp_X9_isColour at h
  refine j_iload_n (pc := 0) C dX9_isColour_0 rfl 0 rfl ?_
  refine j_iconst (pc := 1) (v := 0) C dX9_isColour_1 (by decide) ?_
  refine j_bipush (pc := 2) (v := 9) C dX9_isColour_2 (by decide) ?_
  refine j_callS (pc := 4) (As := [.int a0, .int (0 : Int32), .int (9 : Int32)]) (st := []) C hX (m_X9_isBetween   h) ok_X9_isBetween wd_279 wd_280 ⟨by decide, by decide⟩ rfl rfl (Nat.le_of_ble_eq_true rfl) ⟨Nat.le_refl 0, Nat.le_refl 0⟩ dX9_isColour_4 (fun r V1 I1 J1 hp => ?_)
  obtain ⟨r1, rfl, rfl, rfl, rfl, h⟩ := hp
  show gJ X V 0 0 7 _ [.int r1] _ _
  obtain ⟨g2, h⟩ := h
  exact j_zret (pc := 7) C hR g2 (Nat.zero_le _) (Nat.zero_le _) dX9_isColour_7 ⟨_, rfl, rfl, rfl, rfl, h⟩
/-! TileRules.tile(IIII)I -/
abbrev rm_X9_tile : Room := { frames := 2, cells := 0, slots := 0, locals := 42 }
theorem ok_X9_tile : gOk yX9_tile cX9_tile 5 (some .int) 4 := ⟨wd_275, wd_69, by decide +kernel⟩
def wp_X9_tile (a1 : Int32) (a2 : Int32) (a3 : Int32) (a4 : Int32) (I : gI) (Po : Int32 → gI → Prop) : Prop :=
  wp_X9_isColour a1 (fun r1 => (r1 = 0 → Po (-2 : Int32) I) ∧ (¬ r1 = 0 → wp_X9_isColour a2 (fun r3 => (r3 = 0 → Po (-2 : Int32) I) ∧ (¬ r3 = 0 → wp_X9_isColour a3 (fun r5 => (r5 = 0 → Po (-2 : Int32) I) ∧ (¬ r5 = 0 → wp_X9_isColour a4 (fun r7 => (¬ r7 = 0 → ((I 10 4) < (8 : Int32) → wp_X8_add a1 a2 a3 a4 I (fun r10 I11 => Po r10 I11)) ∧ (¬ (I 10 4) < (8 : Int32) → Po (-3 : Int32) I)) ∧ (r7 = 0 → Po (-2 : Int32) I))))))))
set_option maxRecDepth 100000 in
set_option maxHeartbeats 4000000 in
theorem m_X9_tile {l : Launch} {D : va_G} {cy : Nat → ClassId} {V : gV} {pr pc pg : Option Nat} (hT : gModT pr pc pg V) (hTS : gModTS V) {a1 : Int32} {a2 : Int32} {a3 : Int32} {a4 : Int32} {I : gI} {J : gL} {Po : Int32 → gI → Prop} (h : wp_X9_tile a1 a2 a3 a4 I Po) : gMet l D cy yX9_tile cX9_tile 5 (some .int) rm_X9_tile V [.ref (V.2.1 0), .int a1, .int a2, .int a3, .int a4] I J (gPi V (fun x I' J' => J = J' ∧ Po x I')) := by
  refine gMet.of (by decide) (Nat.le_of_ble_eq_true rfl) (fun X hX C hR => ?_)
  have C : gC X cX9_tile RX9 (some .int) 5 rm_X9_tile := C
  show gJ X V 0 0 0 [(0, .ref (V.2.1 0)), (1, .int a1), (2, .int a2), (3, .int a3), (4, .int a4)] [] I J
  unfold wp_X9_tile at h
  refine j_iload_n (pc := 0) C dX9_tile_0 rfl 1 rfl ?_
  refine j_callS (pc := 1) (As := [.int a1]) (st := []) C hX (m_X9_isColour   h) ok_X9_isColour wd_276 wd_277 ⟨by decide, by decide⟩ rfl rfl (Nat.le_of_ble_eq_true rfl) ⟨Nat.le_refl 0, Nat.le_refl 0⟩ dX9_tile_1 (fun r V1 I1 J1 hp => ?_)
  obtain ⟨r1, rfl, rfl, rfl, rfl, h⟩ := hp
  show gJ X V 0 0 4 _ [.int r1] _ _
  refine j_if_eq (pc := 4) (tgt := 29) C dX9_tile_4 (by decide) (fun c2 => ?_) (fun c2 => ?_)
  · have h := h.1 c2
    refine j_bipush (pc := 29) (v := (-2)) C dX9_tile_29 (by decide) ?_
    exact j_iret (pc := 31) C hR (Nat.zero_le _) (Nat.zero_le _) dX9_tile_31 ⟨_, rfl, rfl, rfl, h⟩
  · have h := h.2 c2
    refine j_iload_n (pc := 7) C dX9_tile_7 rfl 2 rfl ?_
    refine j_callS (pc := 8) (As := [.int a2]) (st := []) C hX (m_X9_isColour   h) ok_X9_isColour wd_276 wd_277 ⟨by decide, by decide⟩ rfl rfl (Nat.le_of_ble_eq_true rfl) ⟨Nat.le_refl 0, Nat.le_refl 0⟩ dX9_tile_8 (fun r V1 I1 J1 hp => ?_)
    obtain ⟨r3, rfl, rfl, rfl, rfl, h⟩ := hp
    show gJ X V 0 0 11 _ [.int r3] _ _
    refine j_if_eq (pc := 11) (tgt := 29) C dX9_tile_11 (by decide) (fun c4 => ?_) (fun c4 => ?_)
    · have h := h.1 c4
      refine j_bipush (pc := 29) (v := (-2)) C dX9_tile_29 (by decide) ?_
      exact j_iret (pc := 31) C hR (Nat.zero_le _) (Nat.zero_le _) dX9_tile_31 ⟨_, rfl, rfl, rfl, h⟩
    · have h := h.2 c4
      refine j_iload_n (pc := 14) C dX9_tile_14 rfl 3 rfl ?_
      refine j_callS (pc := 15) (As := [.int a3]) (st := []) C hX (m_X9_isColour   h) ok_X9_isColour wd_276 wd_277 ⟨by decide, by decide⟩ rfl rfl (Nat.le_of_ble_eq_true rfl) ⟨Nat.le_refl 0, Nat.le_refl 0⟩ dX9_tile_15 (fun r V1 I1 J1 hp => ?_)
      obtain ⟨r5, rfl, rfl, rfl, rfl, h⟩ := hp
      show gJ X V 0 0 18 _ [.int r5] _ _
      refine j_if_eq (pc := 18) (tgt := 29) C dX9_tile_18 (by decide) (fun c6 => ?_) (fun c6 => ?_)
      · have h := h.1 c6
        refine j_bipush (pc := 29) (v := (-2)) C dX9_tile_29 (by decide) ?_
        exact j_iret (pc := 31) C hR (Nat.zero_le _) (Nat.zero_le _) dX9_tile_31 ⟨_, rfl, rfl, rfl, h⟩
      · have h := h.2 c6
        refine j_iload (pc := 21) C dX9_tile_21 4 rfl ?_
        refine j_callS (pc := 23) (As := [.int a4]) (st := []) C hX (m_X9_isColour   h) ok_X9_isColour wd_276 wd_277 ⟨by decide, by decide⟩ rfl rfl (Nat.le_of_ble_eq_true rfl) ⟨Nat.le_refl 0, Nat.le_refl 0⟩ dX9_tile_23 (fun r V1 I1 J1 hp => ?_)
        obtain ⟨r7, rfl, rfl, rfl, rfl, h⟩ := hp
        show gJ X V 0 0 26 _ [.int r7] _ _
        refine j_if_ne (pc := 26) (tgt := 32) C dX9_tile_26 (by decide) (fun c8 => ?_) (fun c8 => ?_)
        · have h := h.1 c8
          refine j_aload_n (pc := 32) C dX9_tile_32 rfl 0 rfl ?_
          refine j_getR (pc := 33) C 0 0 10 (c_0 hT).1 (c_0 hT).2 rfl rfl (by decide) inw_X9 wd_250 dX9_tile_33 ?_
          refine j_getI (pc := 36) C 10 4 (c_10 hTS).1 (c_10 hTS).2 rfl rfl (by decide) inw_X8 wd_108 dX9_tile_36 ?_
          refine j_bipush (pc := 39) (v := 8) C dX9_tile_39 (by decide) ?_
          refine j_icmp_lt (pc := 41) (tgt := 49) C dX9_tile_41 (by decide) (fun c9 => ?_) (fun c9 => ?_)
          · have h := h.1 c9
            refine j_aload_n (pc := 49) C dX9_tile_49 rfl 0 rfl ?_
            refine j_getR (pc := 50) C 0 0 10 (c_0 hT).1 (c_0 hT).2 rfl rfl (by decide) inw_X9 wd_250 dX9_tile_50 ?_
            refine j_iload_n (pc := 53) C dX9_tile_53 rfl 1 rfl ?_
            refine j_iload_n (pc := 54) C dX9_tile_54 rfl 2 rfl ?_
            refine j_iload_n (pc := 55) C dX9_tile_55 rfl 3 rfl ?_
            refine j_iload (pc := 56) C dX9_tile_56 4 rfl ?_
            refine j_callV (pc := 58) (As := [.int a1, .int a2, .int a3, .int a4]) (st := []) C hX 10 (m_X8_add hTS  h) (c_10 hTS).1 (c_10 hTS).2 rfl ok_X8_add wd_282 wd_283 wd_284 ⟨by decide, by decide⟩ rfl rfl (Nat.le_of_ble_eq_true rfl) ⟨Nat.le_refl 0, Nat.le_refl 0⟩ dX9_tile_58 (fun r V1 I11 J1 hp => ?_)
            obtain ⟨r10, rfl, rfl, rfl, h⟩ := hp
            show gJ X V 0 0 61 _ [.int r10] _ _
            exact j_iret (pc := 61) C hR (Nat.zero_le _) (Nat.zero_le _) dX9_tile_61 ⟨_, rfl, rfl, rfl, h⟩
          · have h := h.2 c9
            refine j_bipush (pc := 44) (v := (-3)) C dX9_tile_44 (by decide) ?_
            refine j_goto (pc := 46) (tgt := 61) C dX9_tile_46 (by decide) ?_
            exact j_iret (pc := 61) C hR (Nat.zero_le _) (Nat.zero_le _) dX9_tile_61 ⟨_, rfl, rfl, rfl, h⟩
        · have h := h.2 c8
          refine j_bipush (pc := 29) (v := (-2)) C dX9_tile_29 (by decide) ?_
          exact j_iret (pc := 31) C hR (Nat.zero_le _) (Nat.zero_le _) dX9_tile_31 ⟨_, rfl, rfl, rfl, h⟩
/-! TileRules.untile()I -/
abbrev rm_X9_untile : Room := { frames := 1, cells := 0, slots := 0, locals := 20 }
theorem ok_X9_untile : gOk yX9_untile cX9_untile 1 (some .int) 0 := ⟨wd_289, wd_69, by decide +kernel⟩
def wp_X9_untile (I : gI) (Po : Int32 → gI → Prop) : Prop :=
  (¬ (I 10 4) = 0 → wp_X8_dropLast I (fun r2 I3 => Po r2 I3)) ∧ ((I 10 4) = 0 → Po (-1 : Int32) I)
set_option maxRecDepth 100000 in
set_option maxHeartbeats 4000000 in
theorem m_X9_untile {l : Launch} {D : va_G} {cy : Nat → ClassId} {V : gV} {pr pc pg : Option Nat} (hT : gModT pr pc pg V) (hTS : gModTS V) {I : gI} {J : gL} {Po : Int32 → gI → Prop} (h : wp_X9_untile I Po) : gMet l D cy yX9_untile cX9_untile 1 (some .int) rm_X9_untile V [.ref (V.2.1 0)] I J (gPi V (fun x I' J' => J = J' ∧ Po x I')) := by
  refine gMet.of (by decide) (Nat.le_of_ble_eq_true rfl) (fun X hX C hR => ?_)
  have C : gC X cX9_untile RX9 (some .int) 1 rm_X9_untile := C
  show gJ X V 0 0 0 [(0, .ref (V.2.1 0))] [] I J
  unfold wp_X9_untile at h
  refine j_aload_n (pc := 0) C dX9_untile_0 rfl 0 rfl ?_
  refine j_getR (pc := 1) C 0 0 10 (c_0 hT).1 (c_0 hT).2 rfl rfl (by decide) inw_X9 wd_250 dX9_untile_1 ?_
  refine j_getI (pc := 4) C 10 4 (c_10 hTS).1 (c_10 hTS).2 rfl rfl (by decide) inw_X8 wd_108 dX9_untile_4 ?_
  refine j_if_ne (pc := 7) (tgt := 14) C dX9_untile_7 (by decide) (fun c1 => ?_) (fun c1 => ?_)
  · have h := h.1 c1
    refine j_aload_n (pc := 14) C dX9_untile_14 rfl 0 rfl ?_
    refine j_getR (pc := 15) C 0 0 10 (c_0 hT).1 (c_0 hT).2 rfl rfl (by decide) inw_X9 wd_250 dX9_untile_15 ?_
    refine j_callV (pc := 18) (As := []) (st := []) C hX 10 (m_X8_dropLast hTS  h) (c_10 hTS).1 (c_10 hTS).2 rfl ok_X8_dropLast wd_290 wd_291 wd_292 ⟨by decide, by decide⟩ rfl rfl (Nat.le_of_ble_eq_true rfl) ⟨Nat.le_refl 0, Nat.le_refl 0⟩ dX9_untile_18 (fun r V1 I3 J1 hp => ?_)
    obtain ⟨r2, rfl, rfl, rfl, h⟩ := hp
    show gJ X V 0 0 21 _ [.int r2] _ _
    exact j_iret (pc := 21) C hR (Nat.zero_le _) (Nat.zero_le _) dX9_untile_21 ⟨_, rfl, rfl, rfl, h⟩
  · have h := h.2 c1
    refine j_iconst (pc := 10) (v := (-1)) C dX9_untile_10 (by decide) ?_
    refine j_goto (pc := 11) (tgt := 21) C dX9_untile_11 (by decide) ?_
    exact j_iret (pc := 21) C hR (Nat.zero_le _) (Nat.zero_le _) dX9_untile_21 ⟨_, rfl, rfl, rfl, h⟩
/-! TileRules.piece(I)I -/
abbrev rm_X9_piece : Room := { frames := 2, cells := 0, slots := 0, locals := 45 }
theorem ok_X9_piece : gOk yX9_piece cX9_piece 2 (some .int) 1 := ⟨wd_512, wd_69, by decide +kernel⟩
def wp_X9_piece (a1 : Int32) (I : gI) (Po : Int32 → gI → Prop) : Prop :=
  wp_X9_isBetween a1 (1 : Int32) (33554431 : Int32) (fun r1 => (¬ r1 = 0 → wp_J6_bitCount_0f7a4 a1 (fun r3 => ((5 : Int32) < r3 → Po (-2 : Int32) I) ∧ (¬ (5 : Int32) < r3 → wp_X4_hangsTogether a1 (fun r5 => (¬ r5 = 0 → ((I 20 0) < (6 : Int32) → wp_X4_add a1 I (fun r8 I9 => Po r8 I9)) ∧ (¬ (I 20 0) < (6 : Int32) → Po (-3 : Int32) I)) ∧ (r5 = 0 → Po (-2 : Int32) I))))) ∧ (r1 = 0 → Po (-2 : Int32) I))
set_option maxRecDepth 100000 in
set_option maxHeartbeats 4000000 in
theorem m_X9_piece {l : Launch} {D : va_G} {cy : Nat → ClassId} {V : gV} {pr pc pg : Option Nat} (hT : gModT pr pc pg V) (hJG : gModJG V) {a1 : Int32} {I : gI} {J : gL} {Po : Int32 → gI → Prop} (h : wp_X9_piece a1 I Po) : gMet l D cy yX9_piece cX9_piece 2 (some .int) rm_X9_piece V [.ref (V.2.1 0), .int a1] I J (gPi V (fun x I' J' => J = J' ∧ Po x I')) := by
  refine gMet.of (by decide) (Nat.le_of_ble_eq_true rfl) (fun X hX C hR => ?_)
  have C : gC X cX9_piece RX9 (some .int) 2 rm_X9_piece := C
  show gJ X V 0 0 0 [(0, .ref (V.2.1 0)), (1, .int a1)] [] I J
  unfold wp_X9_piece at h
  refine j_iload_n (pc := 0) C dX9_piece_0 rfl 1 rfl ?_
  refine j_iconst (pc := 1) (v := 1) C dX9_piece_1 (by decide) ?_
  refine j_ldc (pc := 2) (v := 33554431) C dX9_piece_2 wd_513 ?_
  refine j_callS (pc := 4) (As := [.int a1, .int (1 : Int32), .int (33554431 : Int32)]) (st := []) C hX (m_X9_isBetween   h) ok_X9_isBetween wd_279 wd_280 ⟨by decide, by decide⟩ rfl rfl (Nat.le_of_ble_eq_true rfl) ⟨Nat.le_refl 0, Nat.le_refl 0⟩ dX9_piece_4 (fun r V1 I1 J1 hp => ?_)
  obtain ⟨r1, rfl, rfl, rfl, rfl, h⟩ := hp
  show gJ X V 0 0 7 _ [.int r1] _ _
  refine j_if_ne (pc := 7) (tgt := 13) C dX9_piece_7 (by decide) (fun c2 => ?_) (fun c2 => ?_)
  · have h := h.1 c2
    refine j_iload_n (pc := 13) C dX9_piece_13 rfl 1 rfl ?_
    refine j_callS (pc := 14) (As := [.int a1]) (st := []) C hX (m_J6_bitCount_0f7a4   h) ok_J6_bitCount_0f7a4 wd_514 wd_515 ⟨by decide, by decide⟩ rfl rfl (Nat.le_of_ble_eq_true rfl) ⟨Nat.le_refl 0, Nat.le_refl 0⟩ dX9_piece_14 (fun r V1 I1 J1 hp => ?_)
    obtain ⟨r3, rfl, rfl, rfl, rfl, h⟩ := hp
    show gJ X V 0 0 17 _ [.int r3] _ _
    refine j_iconst (pc := 17) (v := 5) C dX9_piece_17 (by decide) ?_
    refine j_icmp_gt (pc := 18) (tgt := 28) C dX9_piece_18 (by decide) (fun c4 => ?_) (fun c4 => ?_)
    · have h := h.1 c4
      refine j_bipush (pc := 28) (v := (-2)) C dX9_piece_28 (by decide) ?_
      exact j_iret (pc := 30) C hR (Nat.zero_le _) (Nat.zero_le _) dX9_piece_30 ⟨_, rfl, rfl, rfl, h⟩
    · have h := h.2 c4
      refine j_iload_n (pc := 21) C dX9_piece_21 rfl 1 rfl ?_
      refine j_callS (pc := 22) (As := [.int a1]) (st := []) C hX (m_X4_hangsTogether   h) ok_X4_hangsTogether wd_520 wd_521 ⟨by decide, by decide⟩ rfl rfl (Nat.le_of_ble_eq_true rfl) ⟨Nat.le_refl 0, Nat.le_refl 0⟩ dX9_piece_22 (fun r V1 I1 J1 hp => ?_)
      obtain ⟨r5, rfl, rfl, rfl, rfl, h⟩ := hp
      show gJ X V 0 0 25 _ [.int r5] _ _
      refine j_if_ne (pc := 25) (tgt := 31) C dX9_piece_25 (by decide) (fun c6 => ?_) (fun c6 => ?_)
      · have h := h.1 c6
        refine j_aload_n (pc := 31) C dX9_piece_31 rfl 0 rfl ?_
        refine j_getR (pc := 32) C 0 1 20 (c_0 hT).1 (c_0 hT).2 rfl rfl (by decide) inw_X9 wd_251 dX9_piece_32 ?_
        refine j_getI (pc := 35) C 20 0 (c_20 hJG).1 (c_20 hJG).2 rfl rfl (by decide) inw_X4 wd_132 dX9_piece_35 ?_
        refine j_bipush (pc := 38) (v := 6) C dX9_piece_38 (by decide) ?_
        refine j_icmp_lt (pc := 40) (tgt := 48) C dX9_piece_40 (by decide) (fun c7 => ?_) (fun c7 => ?_)
        · have h := h.1 c7
          refine j_aload_n (pc := 48) C dX9_piece_48 rfl 0 rfl ?_
          refine j_getR (pc := 49) C 0 1 20 (c_0 hT).1 (c_0 hT).2 rfl rfl (by decide) inw_X9 wd_251 dX9_piece_49 ?_
          refine j_iload_n (pc := 52) C dX9_piece_52 rfl 1 rfl ?_
          refine j_callV (pc := 53) (As := [.int a1]) (st := []) C hX 20 (m_X4_add hJG  h) (c_20 hJG).1 (c_20 hJG).2 rfl ok_X4_add wd_529 wd_530 wd_531 ⟨by decide, by decide⟩ rfl rfl (Nat.le_of_ble_eq_true rfl) ⟨Nat.le_refl 0, Nat.le_refl 0⟩ dX9_piece_53 (fun r V1 I9 J1 hp => ?_)
          obtain ⟨r8, rfl, rfl, rfl, h⟩ := hp
          show gJ X V 0 0 56 _ [.int r8] _ _
          exact j_iret (pc := 56) C hR (Nat.zero_le _) (Nat.zero_le _) dX9_piece_56 ⟨_, rfl, rfl, rfl, h⟩
        · have h := h.2 c7
          refine j_bipush (pc := 43) (v := (-3)) C dX9_piece_43 (by decide) ?_
          refine j_goto (pc := 45) (tgt := 56) C dX9_piece_45 (by decide) ?_
          exact j_iret (pc := 56) C hR (Nat.zero_le _) (Nat.zero_le _) dX9_piece_56 ⟨_, rfl, rfl, rfl, h⟩
      · have h := h.2 c6
        refine j_bipush (pc := 28) (v := (-2)) C dX9_piece_28 (by decide) ?_
        exact j_iret (pc := 30) C hR (Nat.zero_le _) (Nat.zero_le _) dX9_piece_30 ⟨_, rfl, rfl, rfl, h⟩
  · have h := h.2 c2
    refine j_bipush (pc := 10) (v := (-2)) C dX9_piece_10 (by decide) ?_
    exact j_iret (pc := 12) C hR (Nat.zero_le _) (Nat.zero_le _) dX9_piece_12 ⟨_, rfl, rfl, rfl, h⟩
/-! TileRules.unpiece()I -/
abbrev rm_X9_unpiece : Room := { frames := 1, cells := 0, slots := 0, locals := 20 }
theorem ok_X9_unpiece : gOk yX9_unpiece cX9_unpiece 1 (some .int) 0 := ⟨wd_536, wd_69, by decide +kernel⟩
def wp_X9_unpiece (I : gI) (Po : Int32 → gI → Prop) : Prop :=
  (¬ (I 20 0) = 0 → wp_X4_dropLast I (fun r2 I3 => Po r2 I3)) ∧ ((I 20 0) = 0 → Po (-1 : Int32) I)
set_option maxRecDepth 100000 in
set_option maxHeartbeats 4000000 in
theorem m_X9_unpiece {l : Launch} {D : va_G} {cy : Nat → ClassId} {V : gV} {pr pc pg : Option Nat} (hT : gModT pr pc pg V) (hJG : gModJG V) {I : gI} {J : gL} {Po : Int32 → gI → Prop} (h : wp_X9_unpiece I Po) : gMet l D cy yX9_unpiece cX9_unpiece 1 (some .int) rm_X9_unpiece V [.ref (V.2.1 0)] I J (gPi V (fun x I' J' => J = J' ∧ Po x I')) := by
  refine gMet.of (by decide) (Nat.le_of_ble_eq_true rfl) (fun X hX C hR => ?_)
  have C : gC X cX9_unpiece RX9 (some .int) 1 rm_X9_unpiece := C
  show gJ X V 0 0 0 [(0, .ref (V.2.1 0))] [] I J
  unfold wp_X9_unpiece at h
  refine j_aload_n (pc := 0) C dX9_unpiece_0 rfl 0 rfl ?_
  refine j_getR (pc := 1) C 0 1 20 (c_0 hT).1 (c_0 hT).2 rfl rfl (by decide) inw_X9 wd_251 dX9_unpiece_1 ?_
  refine j_getI (pc := 4) C 20 0 (c_20 hJG).1 (c_20 hJG).2 rfl rfl (by decide) inw_X4 wd_132 dX9_unpiece_4 ?_
  refine j_if_ne (pc := 7) (tgt := 14) C dX9_unpiece_7 (by decide) (fun c1 => ?_) (fun c1 => ?_)
  · have h := h.1 c1
    refine j_aload_n (pc := 14) C dX9_unpiece_14 rfl 0 rfl ?_
    refine j_getR (pc := 15) C 0 1 20 (c_0 hT).1 (c_0 hT).2 rfl rfl (by decide) inw_X9 wd_251 dX9_unpiece_15 ?_
    refine j_callV (pc := 18) (As := []) (st := []) C hX 20 (m_X4_dropLast hJG  h) (c_20 hJG).1 (c_20 hJG).2 rfl ok_X4_dropLast wd_537 wd_538 wd_539 ⟨by decide, by decide⟩ rfl rfl (Nat.le_of_ble_eq_true rfl) ⟨Nat.le_refl 0, Nat.le_refl 0⟩ dX9_unpiece_18 (fun r V1 I3 J1 hp => ?_)
    obtain ⟨r2, rfl, rfl, rfl, h⟩ := hp
    show gJ X V 0 0 21 _ [.int r2] _ _
    exact j_iret (pc := 21) C hR (Nat.zero_le _) (Nat.zero_le _) dX9_unpiece_21 ⟨_, rfl, rfl, rfl, h⟩
  · have h := h.2 c1
    refine j_iconst (pc := 10) (v := (-1)) C dX9_unpiece_10 (by decide) ?_
    refine j_goto (pc := 11) (tgt := 21) C dX9_unpiece_11 (by decide) ?_
    exact j_iret (pc := 21) C hR (Nat.zero_le _) (Nat.zero_le _) dX9_unpiece_21 ⟨_, rfl, rfl, rfl, h⟩
/-! TileRules.board(III)I -/
abbrev rm_X9_board : Room := { frames := 1, cells := 0, slots := 0, locals := 23 }
theorem ok_X9_board : gOk yX9_board cX9_board 4 (some .int) 3 := ⟨wd_544, wd_69, by decide +kernel⟩
def wp_X9_board (a1 : Int32) (a2 : Int32) (a3 : Int32) (I : gI) (Po : Int32 → gI → Prop) : Prop :=
  wp_X9_isBetween a1 (1 : Int32) (5 : Int32) (fun r1 => (r1 = 0 → Po (-2 : Int32) I) ∧ (¬ r1 = 0 → wp_X9_isBetween a2 (1 : Int32) (4 : Int32) (fun r3 => (¬ r3 = 0 → wp_X9_isBetween a3 (0 : Int32) (((1 : Int32) <<< ((a1 * a2) &&& 31)) - (1 : Int32)) (fun r5 => (¬ r5 = 0 → wp_X4_setBoard a1 a2 a3 I (fun I7 => wp_J6_bitCount_0f7a4 a3 (fun r8 => Po ((a1 * a2) - r8) I7))) ∧ (r5 = 0 → Po (-2 : Int32) I))) ∧ (r3 = 0 → Po (-2 : Int32) I))))
set_option maxRecDepth 100000 in
set_option maxHeartbeats 4000000 in
theorem m_X9_board {l : Launch} {D : va_G} {cy : Nat → ClassId} {V : gV} {pr pc pg : Option Nat} (hT : gModT pr pc pg V) (hJG : gModJG V) {a1 : Int32} {a2 : Int32} {a3 : Int32} {I : gI} {J : gL} {Po : Int32 → gI → Prop} (h : wp_X9_board a1 a2 a3 I Po) : gMet l D cy yX9_board cX9_board 4 (some .int) rm_X9_board V [.ref (V.2.1 0), .int a1, .int a2, .int a3] I J (gPi V (fun x I' J' => J = J' ∧ Po x I')) := by
  refine gMet.of (by decide) (Nat.le_of_ble_eq_true rfl) (fun X hX C hR => ?_)
  have C : gC X cX9_board RX9 (some .int) 4 rm_X9_board := C
  show gJ X V 0 0 0 [(0, .ref (V.2.1 0)), (1, .int a1), (2, .int a2), (3, .int a3)] [] I J
  unfold wp_X9_board at h
  refine j_iload_n (pc := 0) C dX9_board_0 rfl 1 rfl ?_
  refine j_iconst (pc := 1) (v := 1) C dX9_board_1 (by decide) ?_
  refine j_iconst (pc := 2) (v := 5) C dX9_board_2 (by decide) ?_
  refine j_callS (pc := 3) (As := [.int a1, .int (1 : Int32), .int (5 : Int32)]) (st := []) C hX (m_X9_isBetween   h) ok_X9_isBetween wd_279 wd_280 ⟨by decide, by decide⟩ rfl rfl (Nat.le_of_ble_eq_true rfl) ⟨Nat.le_refl 0, Nat.le_refl 0⟩ dX9_board_3 (fun r V1 I1 J1 hp => ?_)
  obtain ⟨r1, rfl, rfl, rfl, rfl, h⟩ := hp
  show gJ X V 0 0 6 _ [.int r1] _ _
  refine j_if_eq (pc := 6) (tgt := 18) C dX9_board_6 (by decide) (fun c2 => ?_) (fun c2 => ?_)
  · have h := h.1 c2
    refine j_bipush (pc := 18) (v := (-2)) C dX9_board_18 (by decide) ?_
    exact j_iret (pc := 20) C hR (Nat.zero_le _) (Nat.zero_le _) dX9_board_20 ⟨_, rfl, rfl, rfl, h⟩
  · have h := h.2 c2
    refine j_iload_n (pc := 9) C dX9_board_9 rfl 2 rfl ?_
    refine j_iconst (pc := 10) (v := 1) C dX9_board_10 (by decide) ?_
    refine j_iconst (pc := 11) (v := 4) C dX9_board_11 (by decide) ?_
    refine j_callS (pc := 12) (As := [.int a2, .int (1 : Int32), .int (4 : Int32)]) (st := []) C hX (m_X9_isBetween   h) ok_X9_isBetween wd_279 wd_280 ⟨by decide, by decide⟩ rfl rfl (Nat.le_of_ble_eq_true rfl) ⟨Nat.le_refl 0, Nat.le_refl 0⟩ dX9_board_12 (fun r V1 I1 J1 hp => ?_)
    obtain ⟨r3, rfl, rfl, rfl, rfl, h⟩ := hp
    show gJ X V 0 0 15 _ [.int r3] _ _
    refine j_if_ne (pc := 15) (tgt := 21) C dX9_board_15 (by decide) (fun c4 => ?_) (fun c4 => ?_)
    · have h := h.1 c4
      refine j_iload_n (pc := 21) C dX9_board_21 rfl 3 rfl ?_
      refine j_iconst (pc := 22) (v := 0) C dX9_board_22 (by decide) ?_
      refine j_iconst (pc := 23) (v := 1) C dX9_board_23 (by decide) ?_
      refine j_iload_n (pc := 24) C dX9_board_24 rfl 1 rfl ?_
      refine j_iload_n (pc := 25) C dX9_board_25 rfl 2 rfl ?_
      refine j_imul (pc := 26) C dX9_board_26 ?_
      refine j_ishl (pc := 27) C dX9_board_27 ?_
      refine j_iconst (pc := 28) (v := 1) C dX9_board_28 (by decide) ?_
      refine j_isub (pc := 29) C dX9_board_29 ?_
      refine j_callS (pc := 30) (As := [.int a3, .int (0 : Int32), .int (((1 : Int32) <<< ((a1 * a2) &&& 31)) - (1 : Int32))]) (st := []) C hX (m_X9_isBetween   h) ok_X9_isBetween wd_279 wd_280 ⟨by decide, by decide⟩ rfl rfl (Nat.le_of_ble_eq_true rfl) ⟨Nat.le_refl 0, Nat.le_refl 0⟩ dX9_board_30 (fun r V1 I1 J1 hp => ?_)
      obtain ⟨r5, rfl, rfl, rfl, rfl, h⟩ := hp
      show gJ X V 0 0 33 _ [.int r5] _ _
      refine j_if_ne (pc := 33) (tgt := 39) C dX9_board_33 (by decide) (fun c6 => ?_) (fun c6 => ?_)
      · have h := h.1 c6
        refine j_aload_n (pc := 39) C dX9_board_39 rfl 0 rfl ?_
        refine j_getR (pc := 40) C 0 1 20 (c_0 hT).1 (c_0 hT).2 rfl rfl (by decide) inw_X9 wd_251 dX9_board_40 ?_
        refine j_iload_n (pc := 43) C dX9_board_43 rfl 1 rfl ?_
        refine j_iload_n (pc := 44) C dX9_board_44 rfl 2 rfl ?_
        refine j_iload_n (pc := 45) C dX9_board_45 rfl 3 rfl ?_
        refine j_callV (pc := 46) (As := [.int a1, .int a2, .int a3]) (st := []) C hX 20 (m_X4_setBoard hJG  h) (c_20 hJG).1 (c_20 hJG).2 rfl ok_X4_setBoard wd_545 wd_546 wd_547 ⟨by decide, by decide⟩ rfl rfl (Nat.le_of_ble_eq_true rfl) ⟨Nat.le_refl 0, Nat.le_refl 0⟩ dX9_board_46 (fun r V1 I7 J1 hp => ?_)
        obtain ⟨rfl, rfl, rfl, h⟩ := hp
        show gJ X V 0 0 49 _ [] _ _
        refine j_iload_n (pc := 49) C dX9_board_49 rfl 1 rfl ?_
        refine j_iload_n (pc := 50) C dX9_board_50 rfl 2 rfl ?_
        refine j_imul (pc := 51) C dX9_board_51 ?_
        refine j_iload_n (pc := 52) C dX9_board_52 rfl 3 rfl ?_
        refine j_callS (pc := 53) (As := [.int a3]) (st := [.int (a1 * a2)]) C hX (m_J6_bitCount_0f7a4   h) ok_J6_bitCount_0f7a4 wd_514 wd_515 ⟨by decide, by decide⟩ rfl rfl (Nat.le_of_ble_eq_true rfl) ⟨Nat.le_refl 0, Nat.le_refl 0⟩ dX9_board_53 (fun r V1 I1 J1 hp => ?_)
        obtain ⟨r8, rfl, rfl, rfl, rfl, h⟩ := hp
        show gJ X V 0 0 56 _ [.int r8, .int (a1 * a2)] _ _
        refine j_isub (pc := 56) C dX9_board_56 ?_
        exact j_iret (pc := 57) C hR (Nat.zero_le _) (Nat.zero_le _) dX9_board_57 ⟨_, rfl, rfl, rfl, h⟩
      · have h := h.2 c6
        refine j_bipush (pc := 36) (v := (-2)) C dX9_board_36 (by decide) ?_
        exact j_iret (pc := 38) C hR (Nat.zero_le _) (Nat.zero_le _) dX9_board_38 ⟨_, rfl, rfl, rfl, h⟩
    · have h := h.2 c4
      refine j_bipush (pc := 18) (v := (-2)) C dX9_board_18 (by decide) ?_
      exact j_iret (pc := 20) C hR (Nat.zero_le _) (Nat.zero_le _) dX9_board_20 ⟨_, rfl, rfl, rfl, h⟩
/-! TileRules.may(IZ)I -/
abbrev rm_X9_may : Room := { frames := 1, cells := 0, slots := 0, locals := 22 }
theorem ok_X9_may : gOk yX9_may cX9_may 4 (some .int) 2 := ⟨wd_552, wd_69, by decide +kernel⟩
def w_X9_may_35  (Po : Int32 → gI → Prop)  (s0 : Int32) (I : gI) : Prop :=
  (s0 = 0 → Po (0 : Int32) I) ∧ (¬ s0 = 0 → Po (1 : Int32) I)
def wp_X9_may (a1 : Int32) (a2 : Int32) (I : gI) (Po : Int32 → gI → Prop) : Prop :=
  wp_X9_isBetween a1 (0 : Int32) (1 : Int32) (fun r1 => (¬ r1 = 0 → (¬ a1 = 0 → wp_X4_setMirrors a2 I (fun r4 I5 => w_X9_may_35 Po r4 I5)) ∧ (a1 = 0 → wp_X4_setTurns a2 I (fun r7 I8 => w_X9_may_35 Po r7 I8))) ∧ (r1 = 0 → Po (-2 : Int32) I))
set_option maxRecDepth 100000 in
set_option maxHeartbeats 4000000 in
theorem t_X9_may_35 {X : gX} {l : Launch} {D : va_G} {cy : Nat → ClassId} {nm : String} {V : gV} {pr pc pg : Option Nat} (hT : gModT pr pc pg V) (hJG : gModJG V) (C : gC X cX9_may RX9 (some .int) 4 rm_X9_may) (hX : gIs X l D cy nm) {I : gI} {J : gL} {Po : Int32 → gI → Prop} (hR : gR X (gPi V (fun x I' J' => J = J' ∧ Po x I'))) {s0 : Int32} (h : w_X9_may_35 Po s0 I) : gJ X V 0 0 35 [] [.int s0] I J := by
  unfold w_X9_may_35 at h
  refine j_istore_n (pc := 35) (lv' := [(3, .int s0)]) C dX9_may_35 rfl (by decide) rfl ?_
  refine j_iload_n (pc := 36) C dX9_may_36 rfl 0 rfl ?_
  refine j_if_eq (pc := 37) (tgt := 44) C dX9_may_37 (by decide) (fun c6 => ?_) (fun c6 => ?_)
  · have h := h.1 c6
    refine j_iconst (pc := 44) (v := 0) C dX9_may_44 (by decide) ?_
    exact j_iret (pc := 45) C hR (Nat.zero_le _) (Nat.zero_le _) dX9_may_45 ⟨_, rfl, rfl, rfl, h⟩
  · have h := h.2 c6
    refine j_iconst (pc := 40) (v := 1) C dX9_may_40 (by decide) ?_
    refine j_goto (pc := 41) (tgt := 45) C dX9_may_41 (by decide) ?_
    exact j_iret (pc := 45) C hR (Nat.zero_le _) (Nat.zero_le _) dX9_may_45 ⟨_, rfl, rfl, rfl, h⟩
set_option maxRecDepth 100000 in
set_option maxHeartbeats 4000000 in
theorem m_X9_may {l : Launch} {D : va_G} {cy : Nat → ClassId} {V : gV} {pr pc pg : Option Nat} (hT : gModT pr pc pg V) (hJG : gModJG V) {a1 : Int32} {a2 : Int32} {I : gI} {J : gL} {Po : Int32 → gI → Prop} (h : wp_X9_may a1 a2 I Po) : gMet l D cy yX9_may cX9_may 4 (some .int) rm_X9_may V [.ref (V.2.1 0), .int a1, .int a2] I J (gPi V (fun x I' J' => J = J' ∧ Po x I')) := by
  refine gMet.of (by decide) (Nat.le_of_ble_eq_true rfl) (fun X hX C hR => ?_)
  have C : gC X cX9_may RX9 (some .int) 4 rm_X9_may := C
  show gJ X V 0 0 0 [(0, .ref (V.2.1 0)), (1, .int a1), (2, .int a2)] [] I J
  unfold wp_X9_may at h
  refine j_iload_n (pc := 0) C dX9_may_0 rfl 1 rfl ?_
  refine j_iconst (pc := 1) (v := 0) C dX9_may_1 (by decide) ?_
  refine j_iconst (pc := 2) (v := 1) C dX9_may_2 (by decide) ?_
  refine j_callS (pc := 3) (As := [.int a1, .int (0 : Int32), .int (1 : Int32)]) (st := []) C hX (m_X9_isBetween   h) ok_X9_isBetween wd_279 wd_280 ⟨by decide, by decide⟩ rfl rfl (Nat.le_of_ble_eq_true rfl) ⟨Nat.le_refl 0, Nat.le_refl 0⟩ dX9_may_3 (fun r V1 I1 J1 hp => ?_)
  obtain ⟨r1, rfl, rfl, rfl, rfl, h⟩ := hp
  show gJ X V 0 0 6 _ [.int r1] _ _
  refine j_if_ne (pc := 6) (tgt := 12) C dX9_may_6 (by decide) (fun c2 => ?_) (fun c2 => ?_)
  · have h := h.1 c2
    refine j_iload_n (pc := 12) C dX9_may_12 rfl 1 rfl ?_
    refine j_if_ne (pc := 13) (tgt := 27) C dX9_may_13 (by decide) (fun c3 => ?_) (fun c3 => ?_)
    · have h := h.1 c3
      refine j_aload_n (pc := 27) C dX9_may_27 rfl 0 rfl ?_
      refine j_getR (pc := 28) C 0 1 20 (c_0 hT).1 (c_0 hT).2 rfl rfl (by decide) inw_X9 wd_251 dX9_may_28 ?_
      refine j_iload_n (pc := 31) C dX9_may_31 rfl 2 rfl ?_
      refine j_callV (pc := 32) (As := [.int a2]) (st := []) C hX 20 (m_X4_setMirrors hJG  h) (c_20 hJG).1 (c_20 hJG).2 rfl ok_X4_setMirrors wd_557 wd_558 wd_559 ⟨by decide, by decide⟩ rfl rfl (Nat.le_of_ble_eq_true rfl) ⟨Nat.le_refl 0, Nat.le_refl 0⟩ dX9_may_32 (fun r V1 I5 J1 hp => ?_)
      obtain ⟨r4, rfl, rfl, rfl, h⟩ := hp
      show gJ X V 0 0 35 _ [.int r4] _ _
      refine gJ.sub [] rfl ?_
      exact t_X9_may_35 hT hJG C hX hR   h
    · have h := h.2 c3
      refine j_aload_n (pc := 16) C dX9_may_16 rfl 0 rfl ?_
      refine j_getR (pc := 17) C 0 1 20 (c_0 hT).1 (c_0 hT).2 rfl rfl (by decide) inw_X9 wd_251 dX9_may_17 ?_
      refine j_iload_n (pc := 20) C dX9_may_20 rfl 2 rfl ?_
      refine j_callV (pc := 21) (As := [.int a2]) (st := []) C hX 20 (m_X4_setTurns hJG  h) (c_20 hJG).1 (c_20 hJG).2 rfl ok_X4_setTurns wd_553 wd_554 wd_555 ⟨by decide, by decide⟩ rfl rfl (Nat.le_of_ble_eq_true rfl) ⟨Nat.le_refl 0, Nat.le_refl 0⟩ dX9_may_21 (fun r V1 I8 J1 hp => ?_)
      obtain ⟨r7, rfl, rfl, rfl, h⟩ := hp
      show gJ X V 0 0 24 _ [.int r7] _ _
      refine j_goto (pc := 24) (tgt := 35) C dX9_may_24 (by decide) ?_
      refine gJ.sub [] rfl ?_
      exact t_X9_may_35 hT hJG C hX hR   h
  · have h := h.2 c2
    refine j_bipush (pc := 9) (v := (-2)) C dX9_may_9 (by decide) ?_
    exact j_iret (pc := 11) C hR (Nat.zero_le _) (Nat.zero_le _) dX9_may_11 ⟨_, rfl, rfl, rfl, h⟩
/-! TileRules.placements(I)I -/
abbrev rm_X9_placements : Room := { frames := 5, cells := 0, slots := 0, locals := 127 }
theorem ok_X9_placements : gOk yX9_placements cX9_placements 2 (some .int) 1 := ⟨wd_564, wd_69, by decide +kernel⟩
def wp_X9_placements (a1 : Int32) (I : gI) (Po : Int32 → gI → Prop) : Prop :=
  wp_X9_isBetween a1 (0 : Int32) ((I 20 0) - (1 : Int32)) (fun r1 => (r1 = 0 → Po (-2 : Int32) I) ∧ (¬ r1 = 0 → wp_X4_countPlacements a1 I (fun r3 I4 => Po r3 I4)))
set_option maxRecDepth 100000 in
set_option maxHeartbeats 4000000 in
theorem m_X9_placements {l : Launch} {D : va_G} {cy : Nat → ClassId} {V : gV} {pr pc pg : Option Nat} (hT : gModT pr pc pg V) (hJG : gModJG V) {a1 : Int32} {I : gI} {J : gL} {Po : Int32 → gI → Prop} (h : wp_X9_placements a1 I Po) : gMet l D cy yX9_placements cX9_placements 2 (some .int) rm_X9_placements V [.ref (V.2.1 0), .int a1] I J (gPi V (fun x I' J' => J = J' ∧ Po x I')) := by
  refine gMet.of (by decide) (Nat.le_of_ble_eq_true rfl) (fun X hX C hR => ?_)
  have C : gC X cX9_placements RX9 (some .int) 2 rm_X9_placements := C
  show gJ X V 0 0 0 [(0, .ref (V.2.1 0)), (1, .int a1)] [] I J
  unfold wp_X9_placements at h
  refine j_iload_n (pc := 0) C dX9_placements_0 rfl 1 rfl ?_
  refine j_iconst (pc := 1) (v := 0) C dX9_placements_1 (by decide) ?_
  refine j_aload_n (pc := 2) C dX9_placements_2 rfl 0 rfl ?_
  refine j_getR (pc := 3) C 0 1 20 (c_0 hT).1 (c_0 hT).2 rfl rfl (by decide) inw_X9 wd_251 dX9_placements_3 ?_
  refine j_getI (pc := 6) C 20 0 (c_20 hJG).1 (c_20 hJG).2 rfl rfl (by decide) inw_X4 wd_132 dX9_placements_6 ?_
  refine j_iconst (pc := 9) (v := 1) C dX9_placements_9 (by decide) ?_
  refine j_isub (pc := 10) C dX9_placements_10 ?_
  refine j_callS (pc := 11) (As := [.int a1, .int (0 : Int32), .int ((I 20 0) - (1 : Int32))]) (st := []) C hX (m_X9_isBetween   h) ok_X9_isBetween wd_279 wd_280 ⟨by decide, by decide⟩ rfl rfl (Nat.le_of_ble_eq_true rfl) ⟨Nat.le_refl 0, Nat.le_refl 0⟩ dX9_placements_11 (fun r V1 I1 J1 hp => ?_)
  obtain ⟨r1, rfl, rfl, rfl, rfl, h⟩ := hp
  show gJ X V 0 0 14 _ [.int r1] _ _
  refine j_if_eq (pc := 14) (tgt := 28) C dX9_placements_14 (by decide) (fun c2 => ?_) (fun c2 => ?_)
  · have h := h.1 c2
    refine j_bipush (pc := 28) (v := (-2)) C dX9_placements_28 (by decide) ?_
    exact j_iret (pc := 30) C hR (Nat.zero_le _) (Nat.zero_le _) dX9_placements_30 ⟨_, rfl, rfl, rfl, h⟩
  · have h := h.2 c2
    refine j_aload_n (pc := 17) C dX9_placements_17 rfl 0 rfl ?_
    refine j_getR (pc := 18) C 0 1 20 (c_0 hT).1 (c_0 hT).2 rfl rfl (by decide) inw_X9 wd_251 dX9_placements_18 ?_
    refine j_iload_n (pc := 21) C dX9_placements_21 rfl 1 rfl ?_
    refine j_callV (pc := 22) (As := [.int a1]) (st := []) C hX 20 (m_X4_countPlacements hJG  h) (c_20 hJG).1 (c_20 hJG).2 rfl ok_X4_countPlacements wd_565 wd_566 wd_567 ⟨by decide, by decide⟩ rfl rfl (Nat.le_of_ble_eq_true rfl) ⟨Nat.le_refl 0, Nat.le_refl 0⟩ dX9_placements_22 (fun r V1 I4 J1 hp => ?_)
    obtain ⟨r3, rfl, rfl, rfl, h⟩ := hp
    show gJ X V 0 0 25 _ [.int r3] _ _
    refine j_goto (pc := 25) (tgt := 30) C dX9_placements_25 (by decide) ?_
    exact j_iret (pc := 30) C hR (Nat.zero_le _) (Nat.zero_le _) dX9_placements_30 ⟨_, rfl, rfl, rfl, h⟩
/-! TileRules.letters(II)I -/
abbrev rm_X9_letters : Room := { frames := 2, cells := 0, slots := 0, locals := 46 }
theorem ok_X9_letters : gOk yX9_letters cX9_letters 4 (some .int) 2 := ⟨wd_720, wd_69, by decide +kernel⟩
def wp_X9_letters (a1 : Int32) (a2 : Int32) (I : gI) (Po : Int32 → gI → Prop) : Prop :=
  wp_X9_isBetween a1 (1 : Int32) (6 : Int32) (fun r1 => (r1 = 0 → Po (-2 : Int32) I) ∧ (¬ r1 = 0 → wp_X9_isBetween a2 (2 : Int32) (3 : Int32) (fun r3 => (¬ r3 = 0 → ∀ n5 : Int32, n5 = (I 40 0) → wp_X0_reset a1 a2 I (fun I6 => Po n5 I6)) ∧ (r3 = 0 → Po (-2 : Int32) I))))
set_option maxRecDepth 100000 in
set_option maxHeartbeats 4000000 in
theorem m_X9_letters {l : Launch} {D : va_G} {cy : Nat → ClassId} {V : gV} {pr pc pg : Option Nat} (hT : gModT pr pc pg V) (hBL : gModBL V) {a1 : Int32} {a2 : Int32} {I : gI} {J : gL} {Po : Int32 → gI → Prop} (h : wp_X9_letters a1 a2 I Po) : gMet l D cy yX9_letters cX9_letters 4 (some .int) rm_X9_letters V [.ref (V.2.1 0), .int a1, .int a2] I J (gPi V (fun x I' J' => J = J' ∧ Po x I')) := by
  refine gMet.of (by decide) (Nat.le_of_ble_eq_true rfl) (fun X hX C hR => ?_)
  have C : gC X cX9_letters RX9 (some .int) 4 rm_X9_letters := C
  show gJ X V 0 0 0 [(0, .ref (V.2.1 0)), (1, .int a1), (2, .int a2)] [] I J
  unfold wp_X9_letters at h
  refine j_iload_n (pc := 0) C dX9_letters_0 rfl 1 rfl ?_
  refine j_iconst (pc := 1) (v := 1) C dX9_letters_1 (by decide) ?_
  refine j_bipush (pc := 2) (v := 6) C dX9_letters_2 (by decide) ?_
  refine j_callS (pc := 4) (As := [.int a1, .int (1 : Int32), .int (6 : Int32)]) (st := []) C hX (m_X9_isBetween   h) ok_X9_isBetween wd_279 wd_280 ⟨by decide, by decide⟩ rfl rfl (Nat.le_of_ble_eq_true rfl) ⟨Nat.le_refl 0, Nat.le_refl 0⟩ dX9_letters_4 (fun r V1 I1 J1 hp => ?_)
  obtain ⟨r1, rfl, rfl, rfl, rfl, h⟩ := hp
  show gJ X V 0 0 7 _ [.int r1] _ _
  refine j_if_eq (pc := 7) (tgt := 19) C dX9_letters_7 (by decide) (fun c2 => ?_) (fun c2 => ?_)
  · have h := h.1 c2
    refine j_bipush (pc := 19) (v := (-2)) C dX9_letters_19 (by decide) ?_
    exact j_iret (pc := 21) C hR (Nat.zero_le _) (Nat.zero_le _) dX9_letters_21 ⟨_, rfl, rfl, rfl, h⟩
  · have h := h.2 c2
    refine j_iload_n (pc := 10) C dX9_letters_10 rfl 2 rfl ?_
    refine j_iconst (pc := 11) (v := 2) C dX9_letters_11 (by decide) ?_
    refine j_iconst (pc := 12) (v := 3) C dX9_letters_12 (by decide) ?_
    refine j_callS (pc := 13) (As := [.int a2, .int (2 : Int32), .int (3 : Int32)]) (st := []) C hX (m_X9_isBetween   h) ok_X9_isBetween wd_279 wd_280 ⟨by decide, by decide⟩ rfl rfl (Nat.le_of_ble_eq_true rfl) ⟨Nat.le_refl 0, Nat.le_refl 0⟩ dX9_letters_13 (fun r V1 I1 J1 hp => ?_)
    obtain ⟨r3, rfl, rfl, rfl, rfl, h⟩ := hp
    show gJ X V 0 0 16 _ [.int r3] _ _
    refine j_if_ne (pc := 16) (tgt := 22) C dX9_letters_16 (by decide) (fun c4 => ?_) (fun c4 => ?_)
    · have h := h.1 c4
      refine j_aload_n (pc := 22) C dX9_letters_22 rfl 0 rfl ?_
      refine j_getR (pc := 23) C 0 2 40 (c_0 hT).1 (c_0 hT).2 rfl rfl (by decide) inw_X9 wd_252 dX9_letters_23 ?_
      refine j_getI (pc := 26) C 40 0 (c_40 hBL).1 (c_40 hBL).2 rfl rfl (by decide) inw_X0 wd_187 dX9_letters_26 ?_
      refine gJ.topi (fun n5 en5 => ?_)
      have h := h n5 en5
      refine j_istore_n (pc := 29) (lv' := [(3, .int n5), (0, .ref (V.2.1 0)), (1, .int a1), (2, .int a2)]) C dX9_letters_29 rfl (by decide) rfl ?_
      refine j_aload_n (pc := 30) C dX9_letters_30 rfl 1 rfl ?_
      refine j_getR (pc := 31) C 0 2 40 (c_0 hT).1 (c_0 hT).2 rfl rfl (by decide) inw_X9 wd_252 dX9_letters_31 ?_
      refine j_iload_n (pc := 34) C dX9_letters_34 rfl 2 rfl ?_
      refine j_iload_n (pc := 35) C dX9_letters_35 rfl 3 rfl ?_
      refine j_callV (pc := 36) (As := [.int a1, .int a2]) (st := []) C hX 40 (m_X0_reset hBL  h) (c_40 hBL).1 (c_40 hBL).2 rfl ok_X0_reset wd_721 wd_722 wd_723 ⟨by decide, by decide⟩ rfl rfl (Nat.le_of_ble_eq_true rfl) ⟨Nat.le_refl 0, Nat.le_refl 0⟩ dX9_letters_36 (fun r V1 I6 J1 hp => ?_)
      obtain ⟨rfl, rfl, rfl, h⟩ := hp
      show gJ X V 0 0 39 _ [] _ _
      refine j_iload_n (pc := 39) C dX9_letters_39 rfl 0 rfl ?_
      exact j_iret (pc := 40) C hR (Nat.zero_le _) (Nat.zero_le _) dX9_letters_40 ⟨_, rfl, rfl, rfl, h⟩
    · have h := h.2 c4
      refine j_bipush (pc := 19) (v := (-2)) C dX9_letters_19 (by decide) ?_
      exact j_iret (pc := 21) C hR (Nat.zero_le _) (Nat.zero_le _) dX9_letters_21 ⟨_, rfl, rfl, rfl, h⟩
/-! TileRules.isLetter(I)Z -/
abbrev rm_X9_isLetter : Room := { frames := 1, cells := 0, slots := 0, locals := 22 }
theorem ok_X9_isLetter : gOk yX9_isLetter cX9_isLetter 2 (some .boolean) 1 := ⟨wd_733, wd_69, by decide +kernel⟩
def wp_X9_isLetter (a1 : Int32) (I : gI) (Po : Int32 → Prop) : Prop :=
  wp_X9_isBetween a1 (0 : Int32) ((I 40 0) - (1 : Int32)) (fun r1 => (r1 = 0 ∨ r1 = 1) ∧ Po r1)
set_option maxRecDepth 100000 in
set_option maxHeartbeats 4000000 in
theorem m_X9_isLetter {l : Launch} {D : va_G} {cy : Nat → ClassId} {V : gV} {pr pc pg : Option Nat} (hT : gModT pr pc pg V) (hBL : gModBL V) {a1 : Int32} {I : gI} {J : gL} {Po : Int32 → Prop} (h : wp_X9_isLetter a1 I Po) : gMet l D cy yX9_isLetter cX9_isLetter 2 (some .boolean) rm_X9_isLetter V [.ref (V.2.1 0), .int a1] I J (gPi V (fun x I' J' => I = I' ∧ J = J' ∧ Po x)) := by
  refine gMet.of (by decide) (Nat.le_of_ble_eq_true rfl) (fun X hX C hR => ?_)
  have C : gC X cX9_isLetter RX9 (some .boolean) 2 rm_X9_isLetter := C
  show gJ X V 0 0 0 [(0, .ref (V.2.1 0)), (1, .int a1)] [] I J
  unfold wp_X9_isLetter at h
  refine j_iload_n (pc := 0) C dX9_isLetter_0 rfl 1 rfl ?_
  refine j_iconst (pc := 1) (v := 0) C dX9_isLetter_1 (by decide) ?_
  refine j_aload_n (pc := 2) C dX9_isLetter_2 rfl 0 rfl ?_
  refine j_getR (pc := 3) C 0 2 40 (c_0 hT).1 (c_0 hT).2 rfl rfl (by decide) inw_X9 wd_252 dX9_isLetter_3 ?_
  refine j_getI (pc := 6) C 40 0 (c_40 hBL).1 (c_40 hBL).2 rfl rfl (by decide) inw_X0 wd_187 dX9_isLetter_6 ?_
  refine j_iconst (pc := 9) (v := 1) C dX9_isLetter_9 (by decide) ?_
  refine j_isub (pc := 10) C dX9_isLetter_10 ?_
  refine j_callS (pc := 11) (As := [.int a1, .int (0 : Int32), .int ((I 40 0) - (1 : Int32))]) (st := []) C hX (m_X9_isBetween   h) ok_X9_isBetween wd_279 wd_280 ⟨by decide, by decide⟩ rfl rfl (Nat.le_of_ble_eq_true rfl) ⟨Nat.le_refl 0, Nat.le_refl 0⟩ dX9_isLetter_11 (fun r V1 I1 J1 hp => ?_)
  obtain ⟨r1, rfl, rfl, rfl, rfl, h⟩ := hp
  show gJ X V 0 0 14 _ [.int r1] _ _
  obtain ⟨g2, h⟩ := h
  exact j_zret (pc := 14) C hR g2 (Nat.zero_le _) (Nat.zero_le _) dX9_isLetter_14 ⟨_, rfl, rfl, rfl, rfl, h⟩
/-! TileRules.block(IIII)I -/
abbrev rm_X9_block : Room := { frames := 2, cells := 0, slots := 0, locals := 48 }
theorem ok_X9_block : gOk yX9_block cX9_block 5 (some .int) 4 := ⟨wd_729, wd_69, by decide +kernel⟩
def wp_X9_block (a1 : Int32) (a2 : Int32) (a3 : Int32) (a4 : Int32) (I : gI) (Po : Int32 → gI → Prop) : Prop :=
  wp_X9_isLetter a1 I (fun r1 => (r1 = 0 → Po (-2 : Int32) I) ∧ (¬ r1 = 0 → wp_X9_isLetter a4 I (fun r3 => (¬ r3 = 0 → wp_X9_isBetween a2 (0 : Int32) ((I 40 1) - (1 : Int32)) (fun r5 => (r5 = 0 → Po (-2 : Int32) I) ∧ (¬ r5 = 0 → wp_X9_isBetween a3 (0 : Int32) ((I 40 1) - (1 : Int32)) (fun r7 => (¬ r7 = 0 → wp_X0_replace a1 a2 a3 a4 I (fun r9 I10 => Po r9 I10)) ∧ (r7 = 0 → Po (-2 : Int32) I))))) ∧ (r3 = 0 → Po (-2 : Int32) I))))
set_option maxRecDepth 100000 in
set_option maxHeartbeats 4000000 in
theorem m_X9_block {l : Launch} {D : va_G} {cy : Nat → ClassId} {V : gV} {pr pc pg : Option Nat} (hT : gModT pr pc pg V) (hBL : gModBL V) {a1 : Int32} {a2 : Int32} {a3 : Int32} {a4 : Int32} {I : gI} {J : gL} {Po : Int32 → gI → Prop} (h : wp_X9_block a1 a2 a3 a4 I Po) : gMet l D cy yX9_block cX9_block 5 (some .int) rm_X9_block V [.ref (V.2.1 0), .int a1, .int a2, .int a3, .int a4] I J (gPi V (fun x I' J' => J = J' ∧ Po x I')) := by
  refine gMet.of (by decide) (Nat.le_of_ble_eq_true rfl) (fun X hX C hR => ?_)
  have C : gC X cX9_block RX9 (some .int) 5 rm_X9_block := C
  show gJ X V 0 0 0 [(0, .ref (V.2.1 0)), (1, .int a1), (2, .int a2), (3, .int a3), (4, .int a4)] [] I J
  unfold wp_X9_block at h
  refine j_aload_n (pc := 0) C dX9_block_0 rfl 0 rfl ?_
  refine j_iload_n (pc := 1) C dX9_block_1 rfl 1 rfl ?_
  refine j_callV (pc := 2) (As := [.int a1]) (st := []) C hX 0 (m_X9_isLetter hT hBL  h) (c_0 hT).1 (c_0 hT).2 rfl ok_X9_isLetter wd_730 wd_732 wd_25 ⟨by decide, by decide⟩ rfl rfl (Nat.le_of_ble_eq_true rfl) ⟨Nat.le_refl 0, Nat.le_refl 0⟩ dX9_block_2 (fun r V1 I1 J1 hp => ?_)
  obtain ⟨r1, rfl, rfl, rfl, rfl, h⟩ := hp
  show gJ X V 0 0 5 _ [.int r1] _ _
  refine j_if_eq (pc := 5) (tgt := 17) C dX9_block_5 (by decide) (fun c2 => ?_) (fun c2 => ?_)
  · have h := h.1 c2
    refine j_bipush (pc := 17) (v := (-2)) C dX9_block_17 (by decide) ?_
    exact j_iret (pc := 19) C hR (Nat.zero_le _) (Nat.zero_le _) dX9_block_19 ⟨_, rfl, rfl, rfl, h⟩
  · have h := h.2 c2
    refine j_aload_n (pc := 8) C dX9_block_8 rfl 0 rfl ?_
    refine j_iload (pc := 9) C dX9_block_9 4 rfl ?_
    refine j_callV (pc := 11) (As := [.int a4]) (st := []) C hX 0 (m_X9_isLetter hT hBL  h) (c_0 hT).1 (c_0 hT).2 rfl ok_X9_isLetter wd_730 wd_732 wd_25 ⟨by decide, by decide⟩ rfl rfl (Nat.le_of_ble_eq_true rfl) ⟨Nat.le_refl 0, Nat.le_refl 0⟩ dX9_block_11 (fun r V1 I1 J1 hp => ?_)
    obtain ⟨r3, rfl, rfl, rfl, rfl, h⟩ := hp
    show gJ X V 0 0 14 _ [.int r3] _ _
    refine j_if_ne (pc := 14) (tgt := 20) C dX9_block_14 (by decide) (fun c4 => ?_) (fun c4 => ?_)
    · have h := h.1 c4
      refine j_iload_n (pc := 20) C dX9_block_20 rfl 2 rfl ?_
      refine j_iconst (pc := 21) (v := 0) C dX9_block_21 (by decide) ?_
      refine j_aload_n (pc := 22) C dX9_block_22 rfl 0 rfl ?_
      refine j_getR (pc := 23) C 0 2 40 (c_0 hT).1 (c_0 hT).2 rfl rfl (by decide) inw_X9 wd_252 dX9_block_23 ?_
      refine j_getI (pc := 26) C 40 1 (c_40 hBL).1 (c_40 hBL).2 rfl rfl (by decide) inw_X0 wd_190 dX9_block_26 ?_
      refine j_iconst (pc := 29) (v := 1) C dX9_block_29 (by decide) ?_
      refine j_isub (pc := 30) C dX9_block_30 ?_
      refine j_callS (pc := 31) (As := [.int a2, .int (0 : Int32), .int ((I 40 1) - (1 : Int32))]) (st := []) C hX (m_X9_isBetween   h) ok_X9_isBetween wd_279 wd_280 ⟨by decide, by decide⟩ rfl rfl (Nat.le_of_ble_eq_true rfl) ⟨Nat.le_refl 0, Nat.le_refl 0⟩ dX9_block_31 (fun r V1 I1 J1 hp => ?_)
      obtain ⟨r5, rfl, rfl, rfl, rfl, h⟩ := hp
      show gJ X V 0 0 34 _ [.int r5] _ _
      refine j_if_eq (pc := 34) (tgt := 54) C dX9_block_34 (by decide) (fun c6 => ?_) (fun c6 => ?_)
      · have h := h.1 c6
        refine j_bipush (pc := 54) (v := (-2)) C dX9_block_54 (by decide) ?_
        exact j_iret (pc := 56) C hR (Nat.zero_le _) (Nat.zero_le _) dX9_block_56 ⟨_, rfl, rfl, rfl, h⟩
      · have h := h.2 c6
        refine j_iload_n (pc := 37) C dX9_block_37 rfl 3 rfl ?_
        refine j_iconst (pc := 38) (v := 0) C dX9_block_38 (by decide) ?_
        refine j_aload_n (pc := 39) C dX9_block_39 rfl 0 rfl ?_
        refine j_getR (pc := 40) C 0 2 40 (c_0 hT).1 (c_0 hT).2 rfl rfl (by decide) inw_X9 wd_252 dX9_block_40 ?_
        refine j_getI (pc := 43) C 40 1 (c_40 hBL).1 (c_40 hBL).2 rfl rfl (by decide) inw_X0 wd_190 dX9_block_43 ?_
        refine j_iconst (pc := 46) (v := 1) C dX9_block_46 (by decide) ?_
        refine j_isub (pc := 47) C dX9_block_47 ?_
        refine j_callS (pc := 48) (As := [.int a3, .int (0 : Int32), .int ((I 40 1) - (1 : Int32))]) (st := []) C hX (m_X9_isBetween   h) ok_X9_isBetween wd_279 wd_280 ⟨by decide, by decide⟩ rfl rfl (Nat.le_of_ble_eq_true rfl) ⟨Nat.le_refl 0, Nat.le_refl 0⟩ dX9_block_48 (fun r V1 I1 J1 hp => ?_)
        obtain ⟨r7, rfl, rfl, rfl, rfl, h⟩ := hp
        show gJ X V 0 0 51 _ [.int r7] _ _
        refine j_if_ne (pc := 51) (tgt := 57) C dX9_block_51 (by decide) (fun c8 => ?_) (fun c8 => ?_)
        · have h := h.1 c8
          refine j_aload_n (pc := 57) C dX9_block_57 rfl 0 rfl ?_
          refine j_getR (pc := 58) C 0 2 40 (c_0 hT).1 (c_0 hT).2 rfl rfl (by decide) inw_X9 wd_252 dX9_block_58 ?_
          refine j_iload_n (pc := 61) C dX9_block_61 rfl 1 rfl ?_
          refine j_iload_n (pc := 62) C dX9_block_62 rfl 2 rfl ?_
          refine j_iload_n (pc := 63) C dX9_block_63 rfl 3 rfl ?_
          refine j_iload (pc := 64) C dX9_block_64 4 rfl ?_
          refine j_callV (pc := 66) (As := [.int a1, .int a2, .int a3, .int a4]) (st := []) C hX 40 (m_X0_replace hBL  h) (c_40 hBL).1 (c_40 hBL).2 rfl ok_X0_replace wd_734 wd_735 wd_736 ⟨by decide, by decide⟩ rfl rfl (Nat.le_of_ble_eq_true rfl) ⟨Nat.le_refl 0, Nat.le_refl 0⟩ dX9_block_66 (fun r V1 I10 J1 hp => ?_)
          obtain ⟨r9, rfl, rfl, rfl, h⟩ := hp
          show gJ X V 0 0 69 _ [.int r9] _ _
          exact j_iret (pc := 69) C hR (Nat.zero_le _) (Nat.zero_le _) dX9_block_69 ⟨_, rfl, rfl, rfl, h⟩
        · have h := h.2 c8
          refine j_bipush (pc := 54) (v := (-2)) C dX9_block_54 (by decide) ?_
          exact j_iret (pc := 56) C hR (Nat.zero_le _) (Nat.zero_le _) dX9_block_56 ⟨_, rfl, rfl, rfl, h⟩
    · have h := h.2 c4
      refine j_bipush (pc := 17) (v := (-2)) C dX9_block_17 (by decide) ?_
      exact j_iret (pc := 19) C hR (Nat.zero_le _) (Nat.zero_le _) dX9_block_19 ⟨_, rfl, rfl, rfl, h⟩
/-! TileRules.letter(IIII)I -/
abbrev rm_X9_letter : Room := { frames := 2, cells := 0, slots := 0, locals := 52 }
theorem ok_X9_letter : gOk yX9_letter cX9_letter 6 (some .int) 4 := ⟨wd_745, wd_69, by decide +kernel⟩
def wp_X9_letter (a1 : Int32) (a2 : Int32) (a3 : Int32) (a4 : Int32) (I : gI) (Po : Int32 → Prop) : Prop :=
  wp_X9_isLetter a1 I (fun r1 => (r1 = 0 → Po (-2 : Int32)) ∧ (¬ r1 = 0 → wp_X9_isBetween a2 (0 : Int32) (12 : Int32) (fun r3 => (¬ r3 = 0 → wp_X9_power (I 40 1) a2 (fun r5 => ∀ n6 : Int32, n6 = (r5 - (1 : Int32)) → wp_X9_isBetween a3 (0 : Int32) n6 (fun r7 => (r7 = 0 → Po (-2 : Int32)) ∧ (¬ r7 = 0 → wp_X9_isBetween a4 (0 : Int32) n6 (fun r9 => (¬ r9 = 0 → wp_X0_grownAt a1 a2 a3 a4 I (fun r11 => Po r11)) ∧ (r9 = 0 → Po (-2 : Int32))))))) ∧ (r3 = 0 → Po (-2 : Int32)))))
set_option maxRecDepth 100000 in
set_option maxHeartbeats 4000000 in
theorem m_X9_letter {l : Launch} {D : va_G} {cy : Nat → ClassId} {V : gV} {pr pc pg : Option Nat} (hT : gModT pr pc pg V) (hBL : gModBL V) {a1 : Int32} {a2 : Int32} {a3 : Int32} {a4 : Int32} {I : gI} {J : gL} {Po : Int32 → Prop} (h : wp_X9_letter a1 a2 a3 a4 I Po) : gMet l D cy yX9_letter cX9_letter 6 (some .int) rm_X9_letter V [.ref (V.2.1 0), .int a1, .int a2, .int a3, .int a4] I J (gPi V (fun x I' J' => I = I' ∧ J = J' ∧ Po x)) := by
  refine gMet.of (by decide) (Nat.le_of_ble_eq_true rfl) (fun X hX C hR => ?_)
  have C : gC X cX9_letter RX9 (some .int) 6 rm_X9_letter := C
  show gJ X V 0 0 0 [(0, .ref (V.2.1 0)), (1, .int a1), (2, .int a2), (3, .int a3), (4, .int a4)] [] I J
  unfold wp_X9_letter at h
  refine j_aload_n (pc := 0) C dX9_letter_0 rfl 0 rfl ?_
  refine j_iload_n (pc := 1) C dX9_letter_1 rfl 1 rfl ?_
  refine j_callV (pc := 2) (As := [.int a1]) (st := []) C hX 0 (m_X9_isLetter hT hBL  h) (c_0 hT).1 (c_0 hT).2 rfl ok_X9_isLetter wd_730 wd_732 wd_25 ⟨by decide, by decide⟩ rfl rfl (Nat.le_of_ble_eq_true rfl) ⟨Nat.le_refl 0, Nat.le_refl 0⟩ dX9_letter_2 (fun r V1 I1 J1 hp => ?_)
  obtain ⟨r1, rfl, rfl, rfl, rfl, h⟩ := hp
  show gJ X V 0 0 5 _ [.int r1] _ _
  refine j_if_eq (pc := 5) (tgt := 18) C dX9_letter_5 (by decide) (fun c2 => ?_) (fun c2 => ?_)
  · have h := h.1 c2
    refine j_bipush (pc := 18) (v := (-2)) C dX9_letter_18 (by decide) ?_
    exact j_iret (pc := 20) C hR (Nat.zero_le _) (Nat.zero_le _) dX9_letter_20 ⟨_, rfl, rfl, rfl, rfl, h⟩
  · have h := h.2 c2
    refine j_iload_n (pc := 8) C dX9_letter_8 rfl 2 rfl ?_
    refine j_iconst (pc := 9) (v := 0) C dX9_letter_9 (by decide) ?_
    refine j_bipush (pc := 10) (v := 12) C dX9_letter_10 (by decide) ?_
    refine j_callS (pc := 12) (As := [.int a2, .int (0 : Int32), .int (12 : Int32)]) (st := []) C hX (m_X9_isBetween   h) ok_X9_isBetween wd_279 wd_280 ⟨by decide, by decide⟩ rfl rfl (Nat.le_of_ble_eq_true rfl) ⟨Nat.le_refl 0, Nat.le_refl 0⟩ dX9_letter_12 (fun r V1 I1 J1 hp => ?_)
    obtain ⟨r3, rfl, rfl, rfl, rfl, h⟩ := hp
    show gJ X V 0 0 15 _ [.int r3] _ _
    refine j_if_ne (pc := 15) (tgt := 21) C dX9_letter_15 (by decide) (fun c4 => ?_) (fun c4 => ?_)
    · have h := h.1 c4
      refine j_aload_n (pc := 21) C dX9_letter_21 rfl 0 rfl ?_
      refine j_getR (pc := 22) C 0 2 40 (c_0 hT).1 (c_0 hT).2 rfl rfl (by decide) inw_X9 wd_252 dX9_letter_22 ?_
      refine j_getI (pc := 25) C 40 1 (c_40 hBL).1 (c_40 hBL).2 rfl rfl (by decide) inw_X0 wd_190 dX9_letter_25 ?_
      refine j_iload_n (pc := 28) C dX9_letter_28 rfl 2 rfl ?_
      refine j_callS (pc := 29) (As := [.int (I 40 1), .int a2]) (st := []) C hX (m_X9_power   h) ok_X9_power wd_306 wd_307 ⟨by decide, by decide⟩ rfl rfl (Nat.le_of_ble_eq_true rfl) ⟨Nat.le_refl 0, Nat.le_refl 0⟩ dX9_letter_29 (fun r V1 I1 J1 hp => ?_)
      obtain ⟨r5, rfl, rfl, rfl, rfl, h⟩ := hp
      show gJ X V 0 0 32 _ [.int r5] _ _
      refine j_iconst (pc := 32) (v := 1) C dX9_letter_32 (by decide) ?_
      refine j_isub (pc := 33) C dX9_letter_33 ?_
      refine gJ.topi (fun n6 en6 => ?_)
      have h := h n6 en6
      refine j_istore (pc := 34) (lv' := [(5, .int n6), (0, .ref (V.2.1 0)), (1, .int a1), (2, .int a2), (3, .int a3), (4, .int a4)]) C dX9_letter_34 (by decide) rfl ?_
      refine j_iload_n (pc := 36) C dX9_letter_36 rfl 4 rfl ?_
      refine j_iconst (pc := 37) (v := 0) C dX9_letter_37 (by decide) ?_
      refine j_iload (pc := 38) C dX9_letter_38 0 rfl ?_
      refine j_callS (pc := 40) (As := [.int a3, .int (0 : Int32), .int n6]) (st := []) C hX (m_X9_isBetween   h) ok_X9_isBetween wd_279 wd_280 ⟨by decide, by decide⟩ rfl rfl (Nat.le_of_ble_eq_true rfl) ⟨Nat.le_refl 0, Nat.le_refl 0⟩ dX9_letter_40 (fun r V1 I1 J1 hp => ?_)
      obtain ⟨r7, rfl, rfl, rfl, rfl, h⟩ := hp
      show gJ X V 0 0 43 _ [.int r7] _ _
      refine j_if_eq (pc := 43) (tgt := 57) C dX9_letter_43 (by decide) (fun c8 => ?_) (fun c8 => ?_)
      · have h := h.1 c8
        refine j_bipush (pc := 57) (v := (-2)) C dX9_letter_57 (by decide) ?_
        exact j_iret (pc := 59) C hR (Nat.zero_le _) (Nat.zero_le _) dX9_letter_59 ⟨_, rfl, rfl, rfl, rfl, h⟩
      · have h := h.2 c8
        refine j_iload (pc := 46) C dX9_letter_46 5 rfl ?_
        refine j_iconst (pc := 48) (v := 0) C dX9_letter_48 (by decide) ?_
        refine j_iload (pc := 49) C dX9_letter_49 0 rfl ?_
        refine j_callS (pc := 51) (As := [.int a4, .int (0 : Int32), .int n6]) (st := []) C hX (m_X9_isBetween   h) ok_X9_isBetween wd_279 wd_280 ⟨by decide, by decide⟩ rfl rfl (Nat.le_of_ble_eq_true rfl) ⟨Nat.le_refl 0, Nat.le_refl 0⟩ dX9_letter_51 (fun r V1 I1 J1 hp => ?_)
        obtain ⟨r9, rfl, rfl, rfl, rfl, h⟩ := hp
        show gJ X V 0 0 54 _ [.int r9] _ _
        refine j_if_ne (pc := 54) (tgt := 60) C dX9_letter_54 (by decide) (fun c10 => ?_) (fun c10 => ?_)
        · have h := h.1 c10
          refine j_aload_n (pc := 60) C dX9_letter_60 rfl 1 rfl ?_
          refine j_getR (pc := 61) C 0 2 40 (c_0 hT).1 (c_0 hT).2 rfl rfl (by decide) inw_X9 wd_252 dX9_letter_61 ?_
          refine j_iload_n (pc := 64) C dX9_letter_64 rfl 2 rfl ?_
          refine j_iload_n (pc := 65) C dX9_letter_65 rfl 3 rfl ?_
          refine j_iload_n (pc := 66) C dX9_letter_66 rfl 4 rfl ?_
          refine j_iload (pc := 67) C dX9_letter_67 5 rfl ?_
          refine j_callV (pc := 69) (As := [.int a1, .int a2, .int a3, .int a4]) (st := []) C hX 40 (m_X0_grownAt hBL  h) (c_40 hBL).1 (c_40 hBL).2 rfl ok_X0_grownAt wd_746 wd_747 wd_748 ⟨by decide, by decide⟩ rfl rfl (Nat.le_of_ble_eq_true rfl) ⟨Nat.le_refl 0, Nat.le_refl 0⟩ dX9_letter_69 (fun r V1 I1 J1 hp => ?_)
          obtain ⟨r11, rfl, rfl, rfl, rfl, h⟩ := hp
          show gJ X V 0 0 72 _ [.int r11] _ _
          exact j_iret (pc := 72) C hR (Nat.zero_le _) (Nat.zero_le _) dX9_letter_72 ⟨_, rfl, rfl, rfl, rfl, h⟩
        · have h := h.2 c10
          refine j_bipush (pc := 57) (v := (-2)) C dX9_letter_57 (by decide) ?_
          exact j_iret (pc := 59) C hR (Nat.zero_le _) (Nat.zero_le _) dX9_letter_59 ⟨_, rfl, rfl, rfl, rfl, h⟩
    · have h := h.2 c4
      refine j_bipush (pc := 18) (v := (-2)) C dX9_letter_18 (by decide) ?_
      exact j_iret (pc := 20) C hR (Nat.zero_le _) (Nat.zero_le _) dX9_letter_20 ⟨_, rfl, rfl, rfl, rfl, h⟩
/-! TileRules.many(III)J -/
abbrev rm_X9_many : Room := { frames := 2, cells := 0, slots := 0, locals := 106 }
theorem ok_X9_many : gOk yX9_many cX9_many 4 (some .long) 3 := ⟨wd_754, wd_69, by decide +kernel⟩
def wp_X9_many (a1 : Int32) (a2 : Int32) (a3 : Int32) (I : gI) (J : gL) (Po : Int64 → gL → Prop) : Prop :=
  wp_X9_isLetter a1 I (fun r1 => (r1 = 0 → Po (-2 : Int64) J) ∧ (¬ r1 = 0 → wp_X9_isLetter a3 I (fun r3 => (r3 = 0 → Po (-2 : Int64) J) ∧ (¬ r3 = 0 → wp_X9_isBetween a2 (0 : Int32) (18 : Int32) (fun r5 => (¬ r5 = 0 → wp_X0_countGrown a1 a2 a3 I J (fun r7 J8 => Po r7 J8)) ∧ (r5 = 0 → Po (-2 : Int64) J))))))
set_option maxRecDepth 100000 in
set_option maxHeartbeats 4000000 in
theorem m_X9_many {l : Launch} {D : va_G} {cy : Nat → ClassId} {V : gV} {pr pc pg : Option Nat} (hT : gModT pr pc pg V) (hBL : gModBL V) {a1 : Int32} {a2 : Int32} {a3 : Int32} {I : gI} {J : gL} {Po : Int64 → gL → Prop} (h : wp_X9_many a1 a2 a3 I J Po) : gMet l D cy yX9_many cX9_many 4 (some .long) rm_X9_many V [.ref (V.2.1 0), .int a1, .int a2, .int a3] I J (gPl V (fun x I' J' => I = I' ∧ Po x J')) := by
  refine gMet.of (by decide) (Nat.le_of_ble_eq_true rfl) (fun X hX C hR => ?_)
  have C : gC X cX9_many RX9 (some .long) 4 rm_X9_many := C
  show gJ X V 0 0 0 [(0, .ref (V.2.1 0)), (1, .int a1), (2, .int a2), (3, .int a3)] [] I J
  unfold wp_X9_many at h
  refine j_aload_n (pc := 0) C dX9_many_0 rfl 0 rfl ?_
  refine j_iload_n (pc := 1) C dX9_many_1 rfl 1 rfl ?_
  refine j_callV (pc := 2) (As := [.int a1]) (st := []) C hX 0 (m_X9_isLetter hT hBL  h) (c_0 hT).1 (c_0 hT).2 rfl ok_X9_isLetter wd_730 wd_732 wd_25 ⟨by decide, by decide⟩ rfl rfl (Nat.le_of_ble_eq_true rfl) ⟨Nat.le_refl 0, Nat.le_refl 0⟩ dX9_many_2 (fun r V1 I1 J1 hp => ?_)
  obtain ⟨r1, rfl, rfl, rfl, rfl, h⟩ := hp
  show gJ X V 0 0 5 _ [.int r1] _ _
  refine j_if_eq (pc := 5) (tgt := 26) C dX9_many_5 (by decide) (fun c2 => ?_) (fun c2 => ?_)
  · have h := h.1 c2
    refine j_ldc2 (pc := 26) (v := (-2)) C dX9_many_26 wd_301 ?_
    exact j_lret (pc := 29) C hR (Nat.zero_le _) (Nat.zero_le _) dX9_many_29 ⟨_, rfl, rfl, rfl, h⟩
  · have h := h.2 c2
    refine j_aload_n (pc := 8) C dX9_many_8 rfl 0 rfl ?_
    refine j_iload_n (pc := 9) C dX9_many_9 rfl 3 rfl ?_
    refine j_callV (pc := 10) (As := [.int a3]) (st := []) C hX 0 (m_X9_isLetter hT hBL  h) (c_0 hT).1 (c_0 hT).2 rfl ok_X9_isLetter wd_730 wd_732 wd_25 ⟨by decide, by decide⟩ rfl rfl (Nat.le_of_ble_eq_true rfl) ⟨Nat.le_refl 0, Nat.le_refl 0⟩ dX9_many_10 (fun r V1 I1 J1 hp => ?_)
    obtain ⟨r3, rfl, rfl, rfl, rfl, h⟩ := hp
    show gJ X V 0 0 13 _ [.int r3] _ _
    refine j_if_eq (pc := 13) (tgt := 26) C dX9_many_13 (by decide) (fun c4 => ?_) (fun c4 => ?_)
    · have h := h.1 c4
      refine j_ldc2 (pc := 26) (v := (-2)) C dX9_many_26 wd_301 ?_
      exact j_lret (pc := 29) C hR (Nat.zero_le _) (Nat.zero_le _) dX9_many_29 ⟨_, rfl, rfl, rfl, h⟩
    · have h := h.2 c4
      refine j_iload_n (pc := 16) C dX9_many_16 rfl 2 rfl ?_
      refine j_iconst (pc := 17) (v := 0) C dX9_many_17 (by decide) ?_
      refine j_bipush (pc := 18) (v := 18) C dX9_many_18 (by decide) ?_
      refine j_callS (pc := 20) (As := [.int a2, .int (0 : Int32), .int (18 : Int32)]) (st := []) C hX (m_X9_isBetween   h) ok_X9_isBetween wd_279 wd_280 ⟨by decide, by decide⟩ rfl rfl (Nat.le_of_ble_eq_true rfl) ⟨Nat.le_refl 0, Nat.le_refl 0⟩ dX9_many_20 (fun r V1 I1 J1 hp => ?_)
      obtain ⟨r5, rfl, rfl, rfl, rfl, h⟩ := hp
      show gJ X V 0 0 23 _ [.int r5] _ _
      refine j_if_ne (pc := 23) (tgt := 30) C dX9_many_23 (by decide) (fun c6 => ?_) (fun c6 => ?_)
      · have h := h.1 c6
        refine j_aload_n (pc := 30) C dX9_many_30 rfl 0 rfl ?_
        refine j_getR (pc := 31) C 0 2 40 (c_0 hT).1 (c_0 hT).2 rfl rfl (by decide) inw_X9 wd_252 dX9_many_31 ?_
        refine j_iload_n (pc := 34) C dX9_many_34 rfl 1 rfl ?_
        refine j_iload_n (pc := 35) C dX9_many_35 rfl 2 rfl ?_
        refine j_iload_n (pc := 36) C dX9_many_36 rfl 3 rfl ?_
        refine j_callV (pc := 37) (As := [.int a1, .int a2, .int a3]) (st := []) C hX 40 (m_X0_countGrown hBL  h) (c_40 hBL).1 (c_40 hBL).2 rfl ok_X0_countGrown wd_755 wd_756 wd_757 ⟨by decide, by decide⟩ rfl rfl (Nat.le_of_ble_eq_true rfl) ⟨Nat.le_refl 0, Nat.le_refl 0⟩ dX9_many_37 (fun r V1 I1 J8 hp => ?_)
        obtain ⟨r7, rfl, rfl, rfl, h⟩ := hp
        show gJ X V 0 0 40 _ [.long r7] _ _
        exact j_lret (pc := 40) C hR (Nat.zero_le _) (Nat.zero_le _) dX9_many_40 ⟨_, rfl, rfl, rfl, h⟩
      · have h := h.2 c6
        refine j_ldc2 (pc := 26) (v := (-2)) C dX9_many_26 wd_301 ?_
        exact j_lret (pc := 29) C hR (Nat.zero_le _) (Nat.zero_le _) dX9_many_29 ⟨_, rfl, rfl, rfl, h⟩
/-! TileRules.mixes()I -/
abbrev rm_X9_mixes : Room := { frames := 2, cells := 0, slots := 0, locals := 104 }
theorem ok_X9_mixes : gOk yX9_mixes cX9_mixes 1 (some .int) 0 := ⟨wd_838, wd_69, by decide +kernel⟩
def wp_X9_mixes (I : gI) (Po : Int32 → gI → Prop) : Prop :=
  wp_X0_firstMixed I (fun r1 I2 => Po r1 I2)
set_option maxRecDepth 100000 in
set_option maxHeartbeats 4000000 in
theorem m_X9_mixes {l : Launch} {D : va_G} {cy : Nat → ClassId} {V : gV} {pr pc pg : Option Nat} (hT : gModT pr pc pg V) (hBL : gModBL V) {I : gI} {J : gL} {Po : Int32 → gI → Prop} (h : wp_X9_mixes I Po) : gMet l D cy yX9_mixes cX9_mixes 1 (some .int) rm_X9_mixes V [.ref (V.2.1 0)] I J (gPi V (fun x I' J' => J = J' ∧ Po x I')) := by
  refine gMet.of (by decide) (Nat.le_of_ble_eq_true rfl) (fun X hX C hR => ?_)
  have C : gC X cX9_mixes RX9 (some .int) 1 rm_X9_mixes := C
  show gJ X V 0 0 0 [(0, .ref (V.2.1 0))] [] I J
  unfold wp_X9_mixes at h
  refine j_aload_n (pc := 0) C dX9_mixes_0 rfl 0 rfl ?_
  refine j_getR (pc := 1) C 0 2 40 (c_0 hT).1 (c_0 hT).2 rfl rfl (by decide) inw_X9 wd_252 dX9_mixes_1 ?_
  refine j_callV (pc := 4) (As := []) (st := []) C hX 40 (m_X0_firstMixed hBL  h) (c_40 hBL).1 (c_40 hBL).2 rfl ok_X0_firstMixed wd_839 wd_840 wd_841 ⟨by decide, by decide⟩ rfl rfl (Nat.le_of_ble_eq_true rfl) ⟨Nat.le_refl 0, Nat.le_refl 0⟩ dX9_mixes_4 (fun r V1 I2 J1 hp => ?_)
  obtain ⟨r1, rfl, rfl, rfl, h⟩ := hp
  show gJ X V 0 0 7 _ [.int r1] _ _
  exact j_iret (pc := 7) C hR (Nat.zero_le _) (Nat.zero_le _) dX9_mixes_7 ⟨_, rfl, rfl, rfl, h⟩
/-! TileRules.turn(I)I -/
abbrev rm_X9_turn : Room := { frames := 1, cells := 0, slots := 0, locals := 22 }
theorem ok_X9_turn : gOk yX9_turn cX9_turn 3 (some .int) 1 := ⟨wd_885, wd_69, by decide +kernel⟩
def wp_X9_turn (a1 : Int32) (I : gI) (Po : Int32 → gI → Prop) : Prop :=
  wp_X9_isBetween a1 (1 : Int32) (18 : Int32) (fun r1 => (¬ r1 = 0 → ∀ n3 : Int32, n3 = (I 60 1) → ∀ I4 : gI, I4 = gup I 60 1 a1 → Po n3 I4) ∧ (r1 = 0 → Po (-2 : Int32) I))
set_option maxRecDepth 100000 in
set_option maxHeartbeats 4000000 in
theorem m_X9_turn {l : Launch} {D : va_G} {cy : Nat → ClassId} {V : gV} {pr pc pg : Option Nat} (hT : gModT pr pc pg V) (hCO : gModCO V) {a1 : Int32} {I : gI} {J : gL} {Po : Int32 → gI → Prop} (h : wp_X9_turn a1 I Po) : gMet l D cy yX9_turn cX9_turn 3 (some .int) rm_X9_turn V [.ref (V.2.1 0), .int a1] I J (gPi V (fun x I' J' => J = J' ∧ Po x I')) := by
  refine gMet.of (by decide) (Nat.le_of_ble_eq_true rfl) (fun X hX C hR => ?_)
  have C : gC X cX9_turn RX9 (some .int) 3 rm_X9_turn := C
  show gJ X V 0 0 0 [(0, .ref (V.2.1 0)), (1, .int a1)] [] I J
  unfold wp_X9_turn at h
  refine j_iload_n (pc := 0) C dX9_turn_0 rfl 1 rfl ?_
  refine j_iconst (pc := 1) (v := 1) C dX9_turn_1 (by decide) ?_
  refine j_bipush (pc := 2) (v := 18) C dX9_turn_2 (by decide) ?_
  refine j_callS (pc := 4) (As := [.int a1, .int (1 : Int32), .int (18 : Int32)]) (st := []) C hX (m_X9_isBetween   h) ok_X9_isBetween wd_279 wd_280 ⟨by decide, by decide⟩ rfl rfl (Nat.le_of_ble_eq_true rfl) ⟨Nat.le_refl 0, Nat.le_refl 0⟩ dX9_turn_4 (fun r V1 I1 J1 hp => ?_)
  obtain ⟨r1, rfl, rfl, rfl, rfl, h⟩ := hp
  show gJ X V 0 0 7 _ [.int r1] _ _
  refine j_if_ne (pc := 7) (tgt := 13) C dX9_turn_7 (by decide) (fun c2 => ?_) (fun c2 => ?_)
  · have h := h.1 c2
    refine j_aload_n (pc := 13) C dX9_turn_13 rfl 0 rfl ?_
    refine j_getR (pc := 14) C 0 3 60 (c_0 hT).1 (c_0 hT).2 rfl rfl (by decide) inw_X9 wd_253 dX9_turn_14 ?_
    refine j_getI (pc := 17) C 60 1 (c_60 hCO).1 (c_60 hCO).2 rfl rfl (by decide) inw_X1 wd_221 dX9_turn_17 ?_
    refine gJ.topi (fun n3 en3 => ?_)
    have h := h n3 en3
    refine j_istore_n (pc := 20) (lv' := [(2, .int n3), (0, .ref (V.2.1 0)), (1, .int a1)]) C dX9_turn_20 rfl (by decide) rfl ?_
    refine j_aload_n (pc := 21) C dX9_turn_21 rfl 1 rfl ?_
    refine j_getR (pc := 22) C 0 3 60 (c_0 hT).1 (c_0 hT).2 rfl rfl (by decide) inw_X9 wd_253 dX9_turn_22 ?_
    refine j_iload_n (pc := 25) C dX9_turn_25 rfl 2 rfl ?_
    refine j_putI (pc := 26) (ft := .int) C tyX1 tyX1_ok nmX1 60 1 (c_60 hCO).1 (c_60 hCO).2 rfl rfl (by decide) inw_X1 wd_221 rfl (by decide +kernel) rfl rfl dX9_turn_26 ?_
    refine gJ.nmI (fun I4 eI4 => ?_)
    have h := h I4 eI4
    refine j_iload_n (pc := 29) C dX9_turn_29 rfl 0 rfl ?_
    exact j_iret (pc := 30) C hR (Nat.zero_le _) (Nat.zero_le _) dX9_turn_30 ⟨_, rfl, rfl, rfl, h⟩
  · have h := h.2 c2
    refine j_bipush (pc := 10) (v := (-2)) C dX9_turn_10 (by decide) ?_
    exact j_iret (pc := 12) C hR (Nat.zero_le _) (Nat.zero_le _) dX9_turn_12 ⟨_, rfl, rfl, rfl, h⟩
/-! TileRules.corner(I)I -/
abbrev rm_X9_corner : Room := { frames := 1, cells := 0, slots := 0, locals := 22 }
theorem ok_X9_corner : gOk yX9_corner cX9_corner 2 (some .int) 1 := ⟨wd_889, wd_69, by decide +kernel⟩
def wp_X9_corner (a1 : Int32) (I : gI) (Po : Int32 → gI → Prop) : Prop :=
  wp_X9_isBetween a1 (1 : Int32) (18 : Int32) (fun r1 => (¬ r1 = 0 → wp_X1_has a1 I (fun r3 => (r3 = 0 → ((I 60 0) < (6 : Int32) → wp_X1_add a1 I (fun r6 I7 => Po r6 I7)) ∧ (¬ (I 60 0) < (6 : Int32) → Po (-3 : Int32) I)) ∧ (¬ r3 = 0 → Po (-4 : Int32) I))) ∧ (r1 = 0 → Po (-2 : Int32) I))
set_option maxRecDepth 100000 in
set_option maxHeartbeats 4000000 in
theorem m_X9_corner {l : Launch} {D : va_G} {cy : Nat → ClassId} {V : gV} {pr pc pg : Option Nat} (hT : gModT pr pc pg V) (hCO : gModCO V) {a1 : Int32} {I : gI} {J : gL} {Po : Int32 → gI → Prop} (h : wp_X9_corner a1 I Po) : gMet l D cy yX9_corner cX9_corner 2 (some .int) rm_X9_corner V [.ref (V.2.1 0), .int a1] I J (gPi V (fun x I' J' => J = J' ∧ Po x I')) := by
  refine gMet.of (by decide) (Nat.le_of_ble_eq_true rfl) (fun X hX C hR => ?_)
  have C : gC X cX9_corner RX9 (some .int) 2 rm_X9_corner := C
  show gJ X V 0 0 0 [(0, .ref (V.2.1 0)), (1, .int a1)] [] I J
  unfold wp_X9_corner at h
  refine j_iload_n (pc := 0) C dX9_corner_0 rfl 1 rfl ?_
  refine j_iconst (pc := 1) (v := 1) C dX9_corner_1 (by decide) ?_
  refine j_bipush (pc := 2) (v := 18) C dX9_corner_2 (by decide) ?_
  refine j_callS (pc := 4) (As := [.int a1, .int (1 : Int32), .int (18 : Int32)]) (st := []) C hX (m_X9_isBetween   h) ok_X9_isBetween wd_279 wd_280 ⟨by decide, by decide⟩ rfl rfl (Nat.le_of_ble_eq_true rfl) ⟨Nat.le_refl 0, Nat.le_refl 0⟩ dX9_corner_4 (fun r V1 I1 J1 hp => ?_)
  obtain ⟨r1, rfl, rfl, rfl, rfl, h⟩ := hp
  show gJ X V 0 0 7 _ [.int r1] _ _
  refine j_if_ne (pc := 7) (tgt := 13) C dX9_corner_7 (by decide) (fun c2 => ?_) (fun c2 => ?_)
  · have h := h.1 c2
    refine j_aload_n (pc := 13) C dX9_corner_13 rfl 0 rfl ?_
    refine j_getR (pc := 14) C 0 3 60 (c_0 hT).1 (c_0 hT).2 rfl rfl (by decide) inw_X9 wd_253 dX9_corner_14 ?_
    refine j_iload_n (pc := 17) C dX9_corner_17 rfl 1 rfl ?_
    refine j_callV (pc := 18) (As := [.int a1]) (st := []) C hX 60 (m_X1_has hCO  h) (c_60 hCO).1 (c_60 hCO).2 rfl ok_X1_has wd_890 wd_891 wd_892 ⟨by decide, by decide⟩ rfl rfl (Nat.le_of_ble_eq_true rfl) ⟨Nat.le_refl 0, Nat.le_refl 0⟩ dX9_corner_18 (fun r V1 I1 J1 hp => ?_)
    obtain ⟨r3, rfl, rfl, rfl, rfl, h⟩ := hp
    show gJ X V 0 0 21 _ [.int r3] _ _
    refine j_if_eq (pc := 21) (tgt := 27) C dX9_corner_21 (by decide) (fun c4 => ?_) (fun c4 => ?_)
    · have h := h.1 c4
      refine j_aload_n (pc := 27) C dX9_corner_27 rfl 0 rfl ?_
      refine j_getR (pc := 28) C 0 3 60 (c_0 hT).1 (c_0 hT).2 rfl rfl (by decide) inw_X9 wd_253 dX9_corner_28 ?_
      refine j_getI (pc := 31) C 60 0 (c_60 hCO).1 (c_60 hCO).2 rfl rfl (by decide) inw_X1 wd_219 dX9_corner_31 ?_
      refine j_bipush (pc := 34) (v := 6) C dX9_corner_34 (by decide) ?_
      refine j_icmp_lt (pc := 36) (tgt := 44) C dX9_corner_36 (by decide) (fun c5 => ?_) (fun c5 => ?_)
      · have h := h.1 c5
        refine j_aload_n (pc := 44) C dX9_corner_44 rfl 0 rfl ?_
        refine j_getR (pc := 45) C 0 3 60 (c_0 hT).1 (c_0 hT).2 rfl rfl (by decide) inw_X9 wd_253 dX9_corner_45 ?_
        refine j_iload_n (pc := 48) C dX9_corner_48 rfl 1 rfl ?_
        refine j_callV (pc := 49) (As := [.int a1]) (st := []) C hX 60 (m_X1_add hCO  h) (c_60 hCO).1 (c_60 hCO).2 rfl ok_X1_add wd_894 wd_895 wd_896 ⟨by decide, by decide⟩ rfl rfl (Nat.le_of_ble_eq_true rfl) ⟨Nat.le_refl 0, Nat.le_refl 0⟩ dX9_corner_49 (fun r V1 I7 J1 hp => ?_)
        obtain ⟨r6, rfl, rfl, rfl, h⟩ := hp
        show gJ X V 0 0 52 _ [.int r6] _ _
        exact j_iret (pc := 52) C hR (Nat.zero_le _) (Nat.zero_le _) dX9_corner_52 ⟨_, rfl, rfl, rfl, h⟩
      · have h := h.2 c5
        refine j_bipush (pc := 39) (v := (-3)) C dX9_corner_39 (by decide) ?_
        refine j_goto (pc := 41) (tgt := 52) C dX9_corner_41 (by decide) ?_
        exact j_iret (pc := 52) C hR (Nat.zero_le _) (Nat.zero_le _) dX9_corner_52 ⟨_, rfl, rfl, rfl, h⟩
    · have h := h.2 c4
      refine j_bipush (pc := 24) (v := (-4)) C dX9_corner_24 (by decide) ?_
      exact j_iret (pc := 26) C hR (Nat.zero_le _) (Nat.zero_le _) dX9_corner_26 ⟨_, rfl, rfl, rfl, h⟩
  · have h := h.2 c2
    refine j_bipush (pc := 10) (v := (-2)) C dX9_corner_10 (by decide) ?_
    exact j_iret (pc := 12) C hR (Nat.zero_le _) (Nat.zero_le _) dX9_corner_12 ⟨_, rfl, rfl, rfl, h⟩
/-! TileRules.uncorner()I -/
abbrev rm_X9_uncorner : Room := { frames := 1, cells := 0, slots := 0, locals := 20 }
theorem ok_X9_uncorner : gOk yX9_uncorner cX9_uncorner 1 (some .int) 0 := ⟨wd_901, wd_69, by decide +kernel⟩
def wp_X9_uncorner (I : gI) (Po : Int32 → gI → Prop) : Prop :=
  (¬ (I 60 0) = 0 → wp_X1_dropLast I (fun r2 I3 => Po r2 I3)) ∧ ((I 60 0) = 0 → Po (-1 : Int32) I)
set_option maxRecDepth 100000 in
set_option maxHeartbeats 4000000 in
theorem m_X9_uncorner {l : Launch} {D : va_G} {cy : Nat → ClassId} {V : gV} {pr pc pg : Option Nat} (hT : gModT pr pc pg V) (hCO : gModCO V) {I : gI} {J : gL} {Po : Int32 → gI → Prop} (h : wp_X9_uncorner I Po) : gMet l D cy yX9_uncorner cX9_uncorner 1 (some .int) rm_X9_uncorner V [.ref (V.2.1 0)] I J (gPi V (fun x I' J' => J = J' ∧ Po x I')) := by
  refine gMet.of (by decide) (Nat.le_of_ble_eq_true rfl) (fun X hX C hR => ?_)
  have C : gC X cX9_uncorner RX9 (some .int) 1 rm_X9_uncorner := C
  show gJ X V 0 0 0 [(0, .ref (V.2.1 0))] [] I J
  unfold wp_X9_uncorner at h
  refine j_aload_n (pc := 0) C dX9_uncorner_0 rfl 0 rfl ?_
  refine j_getR (pc := 1) C 0 3 60 (c_0 hT).1 (c_0 hT).2 rfl rfl (by decide) inw_X9 wd_253 dX9_uncorner_1 ?_
  refine j_getI (pc := 4) C 60 0 (c_60 hCO).1 (c_60 hCO).2 rfl rfl (by decide) inw_X1 wd_219 dX9_uncorner_4 ?_
  refine j_if_ne (pc := 7) (tgt := 14) C dX9_uncorner_7 (by decide) (fun c1 => ?_) (fun c1 => ?_)
  · have h := h.1 c1
    refine j_aload_n (pc := 14) C dX9_uncorner_14 rfl 0 rfl ?_
    refine j_getR (pc := 15) C 0 3 60 (c_0 hT).1 (c_0 hT).2 rfl rfl (by decide) inw_X9 wd_253 dX9_uncorner_15 ?_
    refine j_callV (pc := 18) (As := []) (st := []) C hX 60 (m_X1_dropLast hCO  h) (c_60 hCO).1 (c_60 hCO).2 rfl ok_X1_dropLast wd_902 wd_903 wd_904 ⟨by decide, by decide⟩ rfl rfl (Nat.le_of_ble_eq_true rfl) ⟨Nat.le_refl 0, Nat.le_refl 0⟩ dX9_uncorner_18 (fun r V1 I3 J1 hp => ?_)
    obtain ⟨r2, rfl, rfl, rfl, h⟩ := hp
    show gJ X V 0 0 21 _ [.int r2] _ _
    exact j_iret (pc := 21) C hR (Nat.zero_le _) (Nat.zero_le _) dX9_uncorner_21 ⟨_, rfl, rfl, rfl, h⟩
  · have h := h.2 c1
    refine j_iconst (pc := 10) (v := (-1)) C dX9_uncorner_10 (by decide) ?_
    refine j_goto (pc := 11) (tgt := 21) C dX9_uncorner_11 (by decide) ?_
    exact j_iret (pc := 21) C hR (Nat.zero_le _) (Nat.zero_le _) dX9_uncorner_21 ⟨_, rfl, rfl, rfl, h⟩
/-! TileRules.rounds(Z)I -/
abbrev rm_X9_rounds : Room := { frames := 83, cells := 0, slots := 0, locals := 1867 }
theorem ok_X9_rounds : gOk yX9_rounds cX9_rounds 2 (some .int) 1 := ⟨wd_909, wd_69, by decide +kernel⟩
def wp_X9_rounds (a1 : Int32) (I : gI) (Po : Int32 → gI → Prop) : Prop :=
  wp_X1_countRows a1 I (fun r1 I2 => Po r1 I2)
set_option maxRecDepth 100000 in
set_option maxHeartbeats 4000000 in
theorem m_X9_rounds {l : Launch} {D : va_G} {cy : Nat → ClassId} {V : gV} {pr pc pg : Option Nat} (hT : gModT pr pc pg V) (hCO : gModCO V) {a1 : Int32} {I : gI} {J : gL} {Po : Int32 → gI → Prop} (h : wp_X9_rounds a1 I Po) : gMet l D cy yX9_rounds cX9_rounds 2 (some .int) rm_X9_rounds V [.ref (V.2.1 0), .int a1] I J (gPi V (fun x I' J' => J = J' ∧ Po x I')) := by
  refine gMet.of (by decide) (Nat.le_of_ble_eq_true rfl) (fun X hX C hR => ?_)
  have C : gC X cX9_rounds RX9 (some .int) 2 rm_X9_rounds := C
  show gJ X V 0 0 0 [(0, .ref (V.2.1 0)), (1, .int a1)] [] I J
  unfold wp_X9_rounds at h
  refine j_aload_n (pc := 0) C dX9_rounds_0 rfl 0 rfl ?_
  refine j_getR (pc := 1) C 0 3 60 (c_0 hT).1 (c_0 hT).2 rfl rfl (by decide) inw_X9 wd_253 dX9_rounds_1 ?_
  refine j_iload_n (pc := 4) C dX9_rounds_4 rfl 1 rfl ?_
  refine j_callV (pc := 5) (As := [.int a1]) (st := []) C hX 60 (m_X1_countRows hCO  h) (c_60 hCO).1 (c_60 hCO).2 rfl ok_X1_countRows wd_910 wd_911 wd_912 ⟨by decide, by decide⟩ rfl rfl (Nat.le_of_ble_eq_true rfl) ⟨Nat.le_refl 0, Nat.le_refl 0⟩ dX9_rounds_5 (fun r V1 I2 J1 hp => ?_)
  obtain ⟨r1, rfl, rfl, rfl, h⟩ := hp
  show gJ X V 0 0 8 _ [.int r1] _ _
  exact j_iret (pc := 8) C hR (Nat.zero_le _) (Nat.zero_le _) dX9_rounds_8 ⟨_, rfl, rfl, rfl, h⟩
/-! TileRules.round(ZII)I -/
abbrev rm_X9_round : Room := { frames := 83, cells := 0, slots := 0, locals := 1868 }
theorem ok_X9_round : gOk yX9_round cX9_round 4 (some .int) 3 := ⟨wd_949, wd_69, by decide +kernel⟩
def wp_X9_round (a1 : Int32) (a2 : Int32) (a3 : Int32) (I : gI) (Po : Int32 → gI → Prop) : Prop :=
  (a2 < 0 → Po (-1 : Int32) I) ∧ (¬ a2 < 0 → (a3 < (-1 : Int32) → Po (-1 : Int32) I) ∧ (¬ a3 < (-1 : Int32) → wp_X1_findRow a1 a2 I (fun r3 I4 => (¬ r3 = 0 → (¬ a3 = (-1 : Int32) → ((I4 60 2) ≤ a3 → Po (-1 : Int32) I4) ∧ (¬ (I4 60 2) ≤ a3 → vp_in a3 18 ∧ Po (I4 61 (a3).toNatClampNeg) I4)) ∧ (a3 = (-1 : Int32) → Po (I4 60 2) I4)) ∧ (r3 = 0 → Po (-1 : Int32) I4))))
set_option maxRecDepth 100000 in
set_option maxHeartbeats 4000000 in
theorem m_X9_round {l : Launch} {D : va_G} {cy : Nat → ClassId} {V : gV} {pr pc pg : Option Nat} (hT : gModT pr pc pg V) (hCO : gModCO V) {a1 : Int32} {a2 : Int32} {a3 : Int32} {I : gI} {J : gL} {Po : Int32 → gI → Prop} (h : wp_X9_round a1 a2 a3 I Po) : gMet l D cy yX9_round cX9_round 4 (some .int) rm_X9_round V [.ref (V.2.1 0), .int a1, .int a2, .int a3] I J (gPi V (fun x I' J' => J = J' ∧ Po x I')) := by
  refine gMet.of (by decide) (Nat.le_of_ble_eq_true rfl) (fun X hX C hR => ?_)
  have C : gC X cX9_round RX9 (some .int) 4 rm_X9_round := C
  show gJ X V 0 0 0 [(0, .ref (V.2.1 0)), (1, .int a1), (2, .int a2), (3, .int a3)] [] I J
  unfold wp_X9_round at h
  refine j_iload_n (pc := 0) C dX9_round_0 rfl 2 rfl ?_
  refine j_if_lt (pc := 1) (tgt := 21) C dX9_round_1 (by decide) (fun c1 => ?_) (fun c1 => ?_)
  · have h := h.1 c1
    refine j_iconst (pc := 21) (v := (-1)) C dX9_round_21 (by decide) ?_
    exact j_iret (pc := 22) C hR (Nat.zero_le _) (Nat.zero_le _) dX9_round_22 ⟨_, rfl, rfl, rfl, h⟩
  · have h := h.2 c1
    refine j_iload_n (pc := 4) C dX9_round_4 rfl 3 rfl ?_
    refine j_iconst (pc := 5) (v := (-1)) C dX9_round_5 (by decide) ?_
    refine j_icmp_lt (pc := 6) (tgt := 21) C dX9_round_6 (by decide) (fun c2 => ?_) (fun c2 => ?_)
    · have h := h.1 c2
      refine j_iconst (pc := 21) (v := (-1)) C dX9_round_21 (by decide) ?_
      exact j_iret (pc := 22) C hR (Nat.zero_le _) (Nat.zero_le _) dX9_round_22 ⟨_, rfl, rfl, rfl, h⟩
    · have h := h.2 c2
      refine j_aload_n (pc := 9) C dX9_round_9 rfl 0 rfl ?_
      refine j_getR (pc := 10) C 0 3 60 (c_0 hT).1 (c_0 hT).2 rfl rfl (by decide) inw_X9 wd_253 dX9_round_10 ?_
      refine j_iload_n (pc := 13) C dX9_round_13 rfl 1 rfl ?_
      refine j_iload_n (pc := 14) C dX9_round_14 rfl 2 rfl ?_
      refine j_callV (pc := 15) (As := [.int a1, .int a2]) (st := []) C hX 60 (m_X1_findRow hCO  h) (c_60 hCO).1 (c_60 hCO).2 rfl ok_X1_findRow wd_950 wd_951 wd_952 ⟨by decide, by decide⟩ rfl rfl (Nat.le_of_ble_eq_true rfl) ⟨Nat.le_refl 0, Nat.le_refl 0⟩ dX9_round_15 (fun r V1 I4 J1 hp => ?_)
      obtain ⟨r3, rfl, rfl, rfl, h⟩ := hp
      show gJ X V 0 0 18 _ [.int r3] _ _
      refine j_if_ne (pc := 18) (tgt := 23) C dX9_round_18 (by decide) (fun c5 => ?_) (fun c5 => ?_)
      · have h := h.1 c5
        refine j_iload_n (pc := 23) C dX9_round_23 rfl 3 rfl ?_
        refine j_iconst (pc := 24) (v := (-1)) C dX9_round_24 (by decide) ?_
        refine j_icmp_ne (pc := 25) (tgt := 36) C dX9_round_25 (by decide) (fun c6 => ?_) (fun c6 => ?_)
        · have h := h.1 c6
          refine j_iload_n (pc := 36) C dX9_round_36 rfl 3 rfl ?_
          refine j_aload_n (pc := 37) C dX9_round_37 rfl 0 rfl ?_
          refine j_getR (pc := 38) C 0 3 60 (c_0 hT).1 (c_0 hT).2 rfl rfl (by decide) inw_X9 wd_253 dX9_round_38 ?_
          refine j_getI (pc := 41) C 60 2 (c_60 hCO).1 (c_60 hCO).2 rfl rfl (by decide) inw_X1 wd_223 dX9_round_41 ?_
          refine j_icmp_ge (pc := 44) (tgt := 59) C dX9_round_44 (by decide) (fun c7 => ?_) (fun c7 => ?_)
          · have h := h.1 c7
            refine j_iconst (pc := 59) (v := (-1)) C dX9_round_59 (by decide) ?_
            exact j_iret (pc := 60) C hR (Nat.zero_le _) (Nat.zero_le _) dX9_round_60 ⟨_, rfl, rfl, rfl, h⟩
          · have h := h.2 c7
            refine j_aload_n (pc := 47) C dX9_round_47 rfl 0 rfl ?_
            refine j_getR (pc := 48) C 0 3 60 (c_0 hT).1 (c_0 hT).2 rfl rfl (by decide) inw_X9 wd_253 dX9_round_48 ?_
            refine j_getR (pc := 51) C 60 3 61 (c_60 hCO).1 (c_60 hCO).2 rfl rfl (by decide) inw_X1 wd_225 dX9_round_51 ?_
            refine j_iload_n (pc := 54) C dX9_round_54 rfl 3 rfl ?_
            obtain ⟨g8, h⟩ := h
            refine j_iald (pc := 55) C 61 (c_61 hCO).1 (c_61 hCO).2 g8 dX9_round_55 ?_
            refine j_goto (pc := 56) (tgt := 60) C dX9_round_56 (by decide) ?_
            exact j_iret (pc := 60) C hR (Nat.zero_le _) (Nat.zero_le _) dX9_round_60 ⟨_, rfl, rfl, rfl, h⟩
        · have h := h.2 c6
          refine j_aload_n (pc := 28) C dX9_round_28 rfl 0 rfl ?_
          refine j_getR (pc := 29) C 0 3 60 (c_0 hT).1 (c_0 hT).2 rfl rfl (by decide) inw_X9 wd_253 dX9_round_29 ?_
          refine j_getI (pc := 32) C 60 2 (c_60 hCO).1 (c_60 hCO).2 rfl rfl (by decide) inw_X1 wd_223 dX9_round_32 ?_
          exact j_iret (pc := 35) C hR (Nat.zero_le _) (Nat.zero_le _) dX9_round_35 ⟨_, rfl, rfl, rfl, h⟩
      · have h := h.2 c5
        refine j_iconst (pc := 21) (v := (-1)) C dX9_round_21 (by decide) ?_
        exact j_iret (pc := 22) C hR (Nat.zero_le _) (Nat.zero_le _) dX9_round_22 ⟨_, rfl, rfl, rfl, h⟩
/-! TileRules.count(I)I -/
abbrev rm_X9_count : Room := { frames := 0, cells := 0, slots := 0, locals := 0 }
theorem ok_X9_count : gOk yX9_count cX9_count 2 (some .int) 1 := ⟨wd_957, wd_69, by decide +kernel⟩
def wp_X9_count (a1 : Int32) (I : gI) (Po : Int32 → Prop) : Prop :=
  ((a1).toInt < 0 ∨ 5 < (a1).toInt → Po (-2 : Int32)) ∧ ((a1).toInt = 0 → Po (I 10 4)) ∧ ((a1).toInt = 1 → Po (I 20 0)) ∧ ((a1).toInt = 2 → Po (I 60 0)) ∧ ((a1).toInt = 3 → Po (I 40 0)) ∧ ((a1).toInt = 4 → Po ((I 20 1) * (I 20 2))) ∧ ((a1).toInt = 5 → Po (I 60 1))
set_option maxRecDepth 100000 in
set_option maxHeartbeats 4000000 in
theorem m_X9_count {l : Launch} {D : va_G} {cy : Nat → ClassId} {V : gV} {pr pc pg : Option Nat} (hT : gModT pr pc pg V) (hTS : gModTS V) (hJG : gModJG V) (hBL : gModBL V) (hCO : gModCO V) {a1 : Int32} {I : gI} {J : gL} {Po : Int32 → Prop} (h : wp_X9_count a1 I Po) : gMet l D cy yX9_count cX9_count 2 (some .int) rm_X9_count V [.ref (V.2.1 0), .int a1] I J (gPi V (fun x I' J' => I = I' ∧ J = J' ∧ Po x)) := by
  refine gMet.of (by decide) (Nat.le_of_ble_eq_true rfl) (fun X hX C hR => ?_)
  have C : gC X cX9_count RX9 (some .int) 2 rm_X9_count := C
  show gJ X V 0 0 0 [(0, .ref (V.2.1 0)), (1, .int a1)] [] I J
  unfold wp_X9_count at h
  refine j_iload_n (pc := 0) C dX9_count_0 rfl 1 rfl ?_
  by_cases ctab : (a1).toInt < 0 ∨ 5 < (a1).toInt
  · have h := h.1 ctab
    refine j_tableOut (pc := 1) (tgt := 96) C dX9_count_1 ctab (by decide) ?_
    refine j_bipush (pc := 96) (v := (-2)) C dX9_count_96 (by decide) ?_
    exact j_iret (pc := 98) C hR (Nat.zero_le _) (Nat.zero_le _) dX9_count_98 ⟨_, rfl, rfl, rfl, rfl, h⟩
  · have h := h.2
    rcases (show (a1).toInt = 0 ∨ (a1).toInt = 1 ∨ (a1).toInt = 2 ∨ (a1).toInt = 3 ∨ (a1).toInt = 4 ∨ (a1).toInt = 5 by omega) with ctab2 | ctab2 | ctab2 | ctab2 | ctab2 | ctab2
    · have h := h.1 ctab2
      refine j_tableIn (pc := 1) (off := 39) (tgt := 40) C dX9_count_1 (by omega) (by omega) (by rw [ctab2]; rfl) (by decide) ?_
      refine j_aload_n (pc := 40) C dX9_count_40 rfl 0 rfl ?_
      refine j_getR (pc := 41) C 0 0 10 (c_0 hT).1 (c_0 hT).2 rfl rfl (by decide) inw_X9 wd_250 dX9_count_41 ?_
      refine j_getI (pc := 44) C 10 4 (c_10 hTS).1 (c_10 hTS).2 rfl rfl (by decide) inw_X8 wd_108 dX9_count_44 ?_
      exact j_iret (pc := 47) C hR (Nat.zero_le _) (Nat.zero_le _) dX9_count_47 ⟨_, rfl, rfl, rfl, rfl, h⟩
    · have h := h.2.1 ctab2
      refine j_tableIn (pc := 1) (off := 47) (tgt := 48) C dX9_count_1 (by omega) (by omega) (by rw [ctab2]; rfl) (by decide) ?_
      refine j_aload_n (pc := 48) C dX9_count_48 rfl 0 rfl ?_
      refine j_getR (pc := 49) C 0 1 20 (c_0 hT).1 (c_0 hT).2 rfl rfl (by decide) inw_X9 wd_251 dX9_count_49 ?_
      refine j_getI (pc := 52) C 20 0 (c_20 hJG).1 (c_20 hJG).2 rfl rfl (by decide) inw_X4 wd_132 dX9_count_52 ?_
      exact j_iret (pc := 55) C hR (Nat.zero_le _) (Nat.zero_le _) dX9_count_55 ⟨_, rfl, rfl, rfl, rfl, h⟩
    · have h := h.2.2.1 ctab2
      refine j_tableIn (pc := 1) (off := 55) (tgt := 56) C dX9_count_1 (by omega) (by omega) (by rw [ctab2]; rfl) (by decide) ?_
      refine j_aload_n (pc := 56) C dX9_count_56 rfl 0 rfl ?_
      refine j_getR (pc := 57) C 0 3 60 (c_0 hT).1 (c_0 hT).2 rfl rfl (by decide) inw_X9 wd_253 dX9_count_57 ?_
      refine j_getI (pc := 60) C 60 0 (c_60 hCO).1 (c_60 hCO).2 rfl rfl (by decide) inw_X1 wd_219 dX9_count_60 ?_
      exact j_iret (pc := 63) C hR (Nat.zero_le _) (Nat.zero_le _) dX9_count_63 ⟨_, rfl, rfl, rfl, rfl, h⟩
    · have h := h.2.2.2.1 ctab2
      refine j_tableIn (pc := 1) (off := 63) (tgt := 64) C dX9_count_1 (by omega) (by omega) (by rw [ctab2]; rfl) (by decide) ?_
      refine j_aload_n (pc := 64) C dX9_count_64 rfl 0 rfl ?_
      refine j_getR (pc := 65) C 0 2 40 (c_0 hT).1 (c_0 hT).2 rfl rfl (by decide) inw_X9 wd_252 dX9_count_65 ?_
      refine j_getI (pc := 68) C 40 0 (c_40 hBL).1 (c_40 hBL).2 rfl rfl (by decide) inw_X0 wd_187 dX9_count_68 ?_
      exact j_iret (pc := 71) C hR (Nat.zero_le _) (Nat.zero_le _) dX9_count_71 ⟨_, rfl, rfl, rfl, rfl, h⟩
    · have h := h.2.2.2.2.1 ctab2
      refine j_tableIn (pc := 1) (off := 71) (tgt := 72) C dX9_count_1 (by omega) (by omega) (by rw [ctab2]; rfl) (by decide) ?_
      refine j_aload_n (pc := 72) C dX9_count_72 rfl 0 rfl ?_
      refine j_getR (pc := 73) C 0 1 20 (c_0 hT).1 (c_0 hT).2 rfl rfl (by decide) inw_X9 wd_251 dX9_count_73 ?_
      refine j_getI (pc := 76) C 20 1 (c_20 hJG).1 (c_20 hJG).2 rfl rfl (by decide) inw_X4 wd_135 dX9_count_76 ?_
      refine j_aload_n (pc := 79) C dX9_count_79 rfl 0 rfl ?_
      refine j_getR (pc := 80) C 0 1 20 (c_0 hT).1 (c_0 hT).2 rfl rfl (by decide) inw_X9 wd_251 dX9_count_80 ?_
      refine j_getI (pc := 83) C 20 2 (c_20 hJG).1 (c_20 hJG).2 rfl rfl (by decide) inw_X4 wd_138 dX9_count_83 ?_
      refine j_imul (pc := 86) C dX9_count_86 ?_
      exact j_iret (pc := 87) C hR (Nat.zero_le _) (Nat.zero_le _) dX9_count_87 ⟨_, rfl, rfl, rfl, rfl, h⟩
    · have h := h.2.2.2.2.2 ctab2
      refine j_tableIn (pc := 1) (off := 87) (tgt := 88) C dX9_count_1 (by omega) (by omega) (by rw [ctab2]; rfl) (by decide) ?_
      refine j_aload_n (pc := 88) C dX9_count_88 rfl 0 rfl ?_
      refine j_getR (pc := 89) C 0 3 60 (c_0 hT).1 (c_0 hT).2 rfl rfl (by decide) inw_X9 wd_253 dX9_count_89 ?_
      refine j_getI (pc := 92) C 60 1 (c_60 hCO).1 (c_60 hCO).2 rfl rfl (by decide) inw_X1 wd_221 dX9_count_92 ?_
      exact j_iret (pc := 95) C hR (Nat.zero_le _) (Nat.zero_le _) dX9_count_95 ⟨_, rfl, rfl, rfl, rfl, h⟩
/-! TileRules.isSide(I)Z -/
abbrev rm_X9_isSide : Room := { frames := 1, cells := 0, slots := 0, locals := 22 }
theorem ok_X9_isSide : gOk yX9_isSide cX9_isSide 1 (some .boolean) 1 := ⟨wd_300, wd_69, by decide +kernel⟩
def wp_X9_isSide (a0 : Int32) (Po : Int32 → Prop) : Prop :=
  wp_X9_isBetween a0 (1 : Int32) (4 : Int32) (fun r1 => (r1 = 0 ∨ r1 = 1) ∧ Po r1)
set_option maxRecDepth 100000 in
set_option maxHeartbeats 4000000 in
theorem m_X9_isSide {l : Launch} {D : va_G} {cy : Nat → ClassId} {V : gV} {a0 : Int32} {I : gI} {J : gL} {Po : Int32 → Prop} (h : wp_X9_isSide a0 Po) : gMet l D cy yX9_isSide cX9_isSide 1 (some .boolean) rm_X9_isSide V [.int a0] I J (gPi V (fun x I' J' => I = I' ∧ J = J' ∧ Po x)) := by
  refine gMet.of (by decide) (Nat.le_of_ble_eq_true rfl) (fun X hX C hR => ?_)
  have C : gC X cX9_isSide RX9 (some .boolean) 1 rm_X9_isSide := C
  show gJ X V 0 0 0 [(0, .int a0)] [] I J
  unfold wp_X9_isSide at h
  refine j_iload_n (pc := 0) C dX9_isSide_0 rfl 0 rfl ?_
  refine j_iconst (pc := 1) (v := 1) C dX9_isSide_1 (by decide) ?_
  refine j_iconst (pc := 2) (v := 4) C dX9_isSide_2 (by decide) ?_
  refine j_callS (pc := 3) (As := [.int a0, .int (1 : Int32), .int (4 : Int32)]) (st := []) C hX (m_X9_isBetween   h) ok_X9_isBetween wd_279 wd_280 ⟨by decide, by decide⟩ rfl rfl (Nat.le_of_ble_eq_true rfl) ⟨Nat.le_refl 0, Nat.le_refl 0⟩ dX9_isSide_3 (fun r V1 I1 J1 hp => ?_)
  obtain ⟨r1, rfl, rfl, rfl, rfl, h⟩ := hp
  show gJ X V 0 0 6 _ [.int r1] _ _
  obtain ⟨g2, h⟩ := h
  exact j_zret (pc := 6) C hR g2 (Nat.zero_le _) (Nat.zero_le _) dX9_isSide_6 ⟨_, rfl, rfl, rfl, rfl, h⟩
/-! TileRules.isMode(I)Z -/
abbrev rm_X9_isMode : Room := { frames := 1, cells := 0, slots := 0, locals := 22 }
theorem ok_X9_isMode : gOk yX9_isMode cX9_isMode 1 (some .boolean) 1 := ⟨wd_604, wd_69, by decide +kernel⟩
def wp_X9_isMode (a0 : Int32) (Po : Int32 → Prop) : Prop :=
  wp_X9_isBetween a0 (0 : Int32) (2 : Int32) (fun r1 => (r1 = 0 ∨ r1 = 1) ∧ Po r1)
set_option maxRecDepth 100000 in
set_option maxHeartbeats 4000000 in
theorem m_X9_isMode {l : Launch} {D : va_G} {cy : Nat → ClassId} {V : gV} {a0 : Int32} {I : gI} {J : gL} {Po : Int32 → Prop} (h : wp_X9_isMode a0 Po) : gMet l D cy yX9_isMode cX9_isMode 1 (some .boolean) rm_X9_isMode V [.int a0] I J (gPi V (fun x I' J' => I = I' ∧ J = J' ∧ Po x)) := by
  refine gMet.of (by decide) (Nat.le_of_ble_eq_true rfl) (fun X hX C hR => ?_)
  have C : gC X cX9_isMode RX9 (some .boolean) 1 rm_X9_isMode := C
  show gJ X V 0 0 0 [(0, .int a0)] [] I J
  unfold wp_X9_isMode at h
  refine j_iload_n (pc := 0) C dX9_isMode_0 rfl 0 rfl ?_
  refine j_iconst (pc := 1) (v := 0) C dX9_isMode_1 (by decide) ?_
  refine j_iconst (pc := 2) (v := 2) C dX9_isMode_2 (by decide) ?_
  refine j_callS (pc := 3) (As := [.int a0, .int (0 : Int32), .int (2 : Int32)]) (st := []) C hX (m_X9_isBetween   h) ok_X9_isBetween wd_279 wd_280 ⟨by decide, by decide⟩ rfl rfl (Nat.le_of_ble_eq_true rfl) ⟨Nat.le_refl 0, Nat.le_refl 0⟩ dX9_isMode_3 (fun r V1 I1 J1 hp => ?_)
  obtain ⟨r1, rfl, rfl, rfl, rfl, h⟩ := hp
  show gJ X V 0 0 6 _ [.int r1] _ _
  obtain ⟨g2, h⟩ := h
  exact j_zret (pc := 6) C hR g2 (Nat.zero_le _) (Nat.zero_le _) dX9_isMode_6 ⟨_, rfl, rfl, rfl, rfl, h⟩
