/-! TileRules$Blocks.reset(II)V -/
abbrev rm_X0_reset : Room := { frames := 1, cells := 0, slots := 0, locals := 23 }
theorem ok_X0_reset : gOk yX0_reset cX0_reset 4 none 2 := ⟨wd_724, wd_72, by decide +kernel⟩
def w_X0_reset_12b  (Po : gI → Prop) (K12 : Int32 → gI → Prop) (v3 : Int32) (I : gI) : Prop :=
  ((6 : Int32) ≤ v3 → Po I) ∧ (¬ (6 : Int32) ≤ v3 → vp_in v3 6 ∧ wp_J7_fill_53178 (42 + (v3).toNatClampNeg) 9 (0 : Int32) I (fun I5 => ∀ n6 : Int32, n6 = v3 + 1 → K12 n6 I5))
def w_X0_reset_12  (Po : gI → Prop)  (v3 : Int32) (I : gI) : Prop :=
  ∃ (Inv : Int32 → gI → Prop) (mu : Int32 → gI → Nat), Inv v3 I ∧ ∀ (v3 : Int32) (I : gI), Inv v3 I → w_X0_reset_12b  Po  (fun u3 I1 => Inv u3 I1 ∧ mu u3 I1 < mu v3 I) v3 I
def wp_X0_reset (a1 : Int32) (a2 : Int32) (I : gI) (Po : gI → Prop) : Prop :=
  ∀ I1 : gI, I1 = gup I 40 0 a1 → ∀ I2 : gI, I2 = gup I1 40 1 a2 → w_X0_reset_12 Po (0 : Int32) I2
set_option maxRecDepth 100000 in
set_option maxHeartbeats 4000000 in
theorem t_X0_reset_12b {X : gX} {l : Launch} {D : va_G} {cy : Nat → ClassId} {nm : String} {V : gV} (hBL : gModBL V) (C : gC X cX0_reset RX0 none 4 rm_X0_reset) (hX : gIs X l D cy nm) {I : gI} {J : gL} {Po : gI → Prop} (hR : gR X (gPv V (fun I' J' => J = J' ∧ Po I'))) {v3 : Int32} {K12 : Int32 → gI → Prop} (hK12 : ∀ (y3 : Int32) (I1 : gI), K12 y3 I1 → gJ X V 0 0 12 [(0, .ref (V.2.1 40)), (3, .int y3)] [] I1 J) (h : w_X0_reset_12b Po K12 v3 I) : gJ X V 0 0 12 [(0, .ref (V.2.1 40)), (3, .int v3)] [] I J := by
  unfold w_X0_reset_12b at h
  refine j_iload_n (pc := 12) C dX0_reset_12 rfl 1 rfl ?_
  refine j_bipush (pc := 13) (v := 6) C dX0_reset_13 (by decide) ?_
  refine j_icmp_ge (pc := 15) (tgt := 34) C dX0_reset_15 (by decide) (fun c3 => ?_) (fun c3 => ?_)
  · have h := h.1 c3
    exact j_vret (pc := 34) C hR (Nat.zero_le _) (Nat.zero_le _) dX0_reset_34 ⟨rfl, rfl, rfl, h⟩
  · have h := h.2 c3
    refine j_aload_n (pc := 18) C dX0_reset_18 rfl 0 rfl ?_
    refine j_getR (pc := 19) C 40 2 41 (c_40 hBL).1 (c_40 hBL).2 rfl rfl (by decide) inw_X0 wd_191 dX0_reset_19 ?_
    refine j_iload_n (pc := 22) C dX0_reset_22 rfl 1 rfl ?_
    obtain ⟨g4, h⟩ := h
    refine j_aald (pc := 23) C 41 (42 + (v3).toNatClampNeg) (c_41 hBL).1 (c_41 hBL).2 g4 (gfam_at (vp_in_lt g4)) dX0_reset_23 ?_
    refine j_iconst (pc := 24) (v := 0) C dX0_reset_24 (by decide) ?_
    refine j_callS (pc := 25) (As := [.ref (V.2.1 (42 + (v3).toNatClampNeg)), .int (0 : Int32)]) (st := []) C hX (m_J7_fill_53178  (f_42 hBL (vp_in_lt g4)).1 (f_42 hBL (vp_in_lt g4)).2 h) ok_J7_fill_53178 wd_725 wd_406 ⟨by decide, by decide⟩ rfl rfl (Nat.le_of_ble_eq_true rfl) ⟨Nat.le_refl 0, Nat.le_refl 0⟩ dX0_reset_25 (fun r V1 I5 J1 hp => ?_)
    obtain ⟨rfl, rfl, rfl, h⟩ := hp
    show gJ X V 0 0 28 _ [] _ _
    obtain ⟨n6, en6⟩ : ∃ z : Int32, z = v3 + 1 := ⟨_, rfl⟩
    have h := h n6 en6
    refine j_iinc (pc := 28) (v := n6) (lv' := [(3, .int n6), (0, .ref (V.2.1 40))]) C dX0_reset_28 1 rfl (by rw [en6]; rfl) (by decide) rfl ?_
    refine j_goto (pc := 31) (tgt := 12) C dX0_reset_31 (by decide) ?_
    refine gJ.sub [1, 0] rfl ?_
    exact hK12 _ _ h
set_option maxRecDepth 100000 in
set_option maxHeartbeats 4000000 in
theorem t_X0_reset_12 {X : gX} {l : Launch} {D : va_G} {cy : Nat → ClassId} {nm : String} {V : gV} (hBL : gModBL V) (C : gC X cX0_reset RX0 none 4 rm_X0_reset) (hX : gIs X l D cy nm) {I : gI} {J : gL} {Po : gI → Prop} (hR : gR X (gPv V (fun I' J' => J = J' ∧ Po I'))) {v3 : Int32} (h : w_X0_reset_12 Po v3 I) : gJ X V 0 0 12 [(0, .ref (V.2.1 40)), (3, .int v3)] [] I J := by
  unfold w_X0_reset_12 at h
  obtain ⟨Inv, mu, h0, hs⟩ := h
  have key : ∀ (n : Nat) (v3 : Int32) (I : gI), Inv v3 I → mu v3 I < n → gJ X V 0 0 12 [(0, .ref (V.2.1 40)), (3, .int v3)] [] I J := by
    intro n
    induction n with
    | zero => intro v3 I hi hn; exact absurd hn (Nat.not_lt_zero _)
    | succ n ih =>
      intro v3 I hi hn
      exact t_X0_reset_12b hBL C hX hR   (fun u3 I1 hk => ih u3 I1 hk.1 (Nat.lt_of_lt_of_le hk.2 (Nat.le_of_lt_succ hn))) (hs v3 I hi)
  exact key _ v3 I h0 (Nat.lt_succ_self _)
set_option maxRecDepth 100000 in
set_option maxHeartbeats 4000000 in
theorem m_X0_reset {l : Launch} {D : va_G} {cy : Nat → ClassId} {V : gV} (hBL : gModBL V) {a1 : Int32} {a2 : Int32} {I : gI} {J : gL} {Po : gI → Prop} (h : wp_X0_reset a1 a2 I Po) : gMet l D cy yX0_reset cX0_reset 4 none rm_X0_reset V [.ref (V.2.1 40), .int a1, .int a2] I J (gPv V (fun I' J' => J = J' ∧ Po I')) := by
  refine gMet.of (by decide) (Nat.le_of_ble_eq_true rfl) (fun X hX C hR => ?_)
  have C : gC X cX0_reset RX0 none 4 rm_X0_reset := C
  show gJ X V 0 0 0 [(0, .ref (V.2.1 40)), (1, .int a1), (2, .int a2)] [] I J
  unfold wp_X0_reset at h
  refine j_aload_n (pc := 0) C dX0_reset_0 rfl 0 rfl ?_
  refine j_iload_n (pc := 1) C dX0_reset_1 rfl 1 rfl ?_
  refine j_putI (pc := 2) (ft := .int) C tyX0 tyX0_ok nmX0 40 0 (c_40 hBL).1 (c_40 hBL).2 rfl rfl (by decide) inw_X0 wd_185 rfl (by decide +kernel) rfl rfl dX0_reset_2 ?_
  refine gJ.nmI (fun I1 eI1 => ?_)
  have h := h I1 eI1
  refine j_aload_n (pc := 5) C dX0_reset_5 rfl 0 rfl ?_
  refine j_iload_n (pc := 6) C dX0_reset_6 rfl 2 rfl ?_
  refine j_putI (pc := 7) (ft := .int) C tyX0 tyX0_ok nmX0 40 1 (c_40 hBL).1 (c_40 hBL).2 rfl rfl (by decide) inw_X0 wd_188 rfl (by decide +kernel) rfl rfl dX0_reset_7 ?_
  refine gJ.nmI (fun I2 eI2 => ?_)
  have h := h I2 eI2
  refine j_iconst (pc := 10) (v := 0) C dX0_reset_10 (by decide) ?_
  refine j_istore_n (pc := 11) (lv' := [(3, .int (0 : Int32)), (0, .ref (V.2.1 40)), (1, .int a1), (2, .int a2)]) C dX0_reset_11 rfl (by decide) rfl ?_
  refine gJ.sub [1, 0] rfl ?_
  exact t_X0_reset_12 hBL C hX hR   h
/-! TileRules$Blocks.at(III)I -/
abbrev rm_X0_at : Room := { frames := 0, cells := 0, slots := 0, locals := 0 }
theorem ok_X0_at : gOk yX0_at cX0_at 4 (some .int) 3 := ⟨wd_741, wd_72, by decide +kernel⟩
def wp_X0_at (a1 : Int32) (a2 : Int32) (a3 : Int32) (I : gI) (Po : Int32 → Prop) : Prop :=
  vp_in a1 6 ∧ vp_in (((I 40 1) * a3) + a2) 9 ∧ Po (I (42 + (a1).toNatClampNeg) ((((I 40 1) * a3) + a2)).toNatClampNeg)
set_option maxRecDepth 100000 in
set_option maxHeartbeats 4000000 in
theorem m_X0_at {l : Launch} {D : va_G} {cy : Nat → ClassId} {V : gV} (hBL : gModBL V) {a1 : Int32} {a2 : Int32} {a3 : Int32} {I : gI} {J : gL} {Po : Int32 → Prop} (h : wp_X0_at a1 a2 a3 I Po) : gMet l D cy yX0_at cX0_at 4 (some .int) rm_X0_at V [.ref (V.2.1 40), .int a1, .int a2, .int a3] I J (gPi V (fun x I' J' => I = I' ∧ J = J' ∧ Po x)) := by
  refine gMet.of (by decide) (Nat.le_of_ble_eq_true rfl) (fun X hX C hR => ?_)
  have C : gC X cX0_at RX0 (some .int) 4 rm_X0_at := C
  show gJ X V 0 0 0 [(0, .ref (V.2.1 40)), (1, .int a1), (2, .int a2), (3, .int a3)] [] I J
  unfold wp_X0_at at h
  refine j_aload_n (pc := 0) C dX0_at_0 rfl 0 rfl ?_
  refine j_getR (pc := 1) C 40 2 41 (c_40 hBL).1 (c_40 hBL).2 rfl rfl (by decide) inw_X0 wd_191 dX0_at_1 ?_
  refine j_iload_n (pc := 4) C dX0_at_4 rfl 1 rfl ?_
  obtain ⟨g1, h⟩ := h
  refine j_aald (pc := 5) C 41 (42 + (a1).toNatClampNeg) (c_41 hBL).1 (c_41 hBL).2 g1 (gfam_at (vp_in_lt g1)) dX0_at_5 ?_
  refine j_aload_n (pc := 6) C dX0_at_6 rfl 0 rfl ?_
  refine j_getI (pc := 7) C 40 1 (c_40 hBL).1 (c_40 hBL).2 rfl rfl (by decide) inw_X0 wd_188 dX0_at_7 ?_
  refine j_iload_n (pc := 10) C dX0_at_10 rfl 3 rfl ?_
  refine j_imul (pc := 11) C dX0_at_11 ?_
  refine j_iload_n (pc := 12) C dX0_at_12 rfl 2 rfl ?_
  refine j_iadd (pc := 13) C dX0_at_13 ?_
  obtain ⟨g2, h⟩ := h
  refine j_iald (pc := 14) C (42 + (a1).toNatClampNeg) (f_42 hBL (vp_in_lt g1)).1 (f_42 hBL (vp_in_lt g1)).2 g2 dX0_at_14 ?_
  exact j_iret (pc := 15) C hR (Nat.zero_le _) (Nat.zero_le _) dX0_at_15 ⟨_, rfl, rfl, rfl, rfl, h⟩
/-! TileRules$Blocks.replace(IIII)I -/
abbrev rm_X0_replace : Room := { frames := 1, cells := 0, slots := 0, locals := 23 }
theorem ok_X0_replace : gOk yX0_replace cX0_replace 6 (some .int) 4 := ⟨wd_737, wd_72, by decide +kernel⟩
def wp_X0_replace (a1 : Int32) (a2 : Int32) (a3 : Int32) (a4 : Int32) (I : gI) (Po : Int32 → gI → Prop) : Prop :=
  wp_X0_at a1 a2 a3 I (fun r1 => vp_in a1 6 ∧ vp_in (((I 40 1) * a3) + a2) 9 ∧ ∀ I4 : gI, I4 = gup I (42 + (a1).toNatClampNeg) ((((I 40 1) * a3) + a2)).toNatClampNeg a4 → Po r1 I4)
set_option maxRecDepth 100000 in
set_option maxHeartbeats 4000000 in
theorem m_X0_replace {l : Launch} {D : va_G} {cy : Nat → ClassId} {V : gV} (hBL : gModBL V) {a1 : Int32} {a2 : Int32} {a3 : Int32} {a4 : Int32} {I : gI} {J : gL} {Po : Int32 → gI → Prop} (h : wp_X0_replace a1 a2 a3 a4 I Po) : gMet l D cy yX0_replace cX0_replace 6 (some .int) rm_X0_replace V [.ref (V.2.1 40), .int a1, .int a2, .int a3, .int a4] I J (gPi V (fun x I' J' => J = J' ∧ Po x I')) := by
  refine gMet.of (by decide) (Nat.le_of_ble_eq_true rfl) (fun X hX C hR => ?_)
  have C : gC X cX0_replace RX0 (some .int) 6 rm_X0_replace := C
  show gJ X V 0 0 0 [(0, .ref (V.2.1 40)), (1, .int a1), (2, .int a2), (3, .int a3), (4, .int a4)] [] I J
  unfold wp_X0_replace at h
  refine j_aload_n (pc := 0) C dX0_replace_0 rfl 0 rfl ?_
  refine j_iload_n (pc := 1) C dX0_replace_1 rfl 1 rfl ?_
  refine j_iload_n (pc := 2) C dX0_replace_2 rfl 2 rfl ?_
  refine j_iload_n (pc := 3) C dX0_replace_3 rfl 3 rfl ?_
  refine j_callV (pc := 4) (As := [.int a1, .int a2, .int a3]) (st := []) C hX 40 (m_X0_at hBL  h) (c_40 hBL).1 (c_40 hBL).2 rfl ok_X0_at wd_738 wd_739 wd_740 ⟨by decide, by decide⟩ rfl rfl (Nat.le_of_ble_eq_true rfl) ⟨Nat.le_refl 0, Nat.le_refl 0⟩ dX0_replace_4 (fun r V1 I1 J1 hp => ?_)
  obtain ⟨r1, rfl, rfl, rfl, rfl, h⟩ := hp
  show gJ X V 0 0 7 _ [.int r1] _ _
  refine j_istore (pc := 7) (lv' := [(5, .int r1), (0, .ref (V.2.1 40)), (1, .int a1), (2, .int a2), (3, .int a3), (4, .int a4)]) C dX0_replace_7 (by decide) rfl ?_
  refine j_aload_n (pc := 9) C dX0_replace_9 rfl 1 rfl ?_
  refine j_getR (pc := 10) C 40 2 41 (c_40 hBL).1 (c_40 hBL).2 rfl rfl (by decide) inw_X0 wd_191 dX0_replace_10 ?_
  refine j_iload_n (pc := 13) C dX0_replace_13 rfl 2 rfl ?_
  obtain ⟨g2, h⟩ := h
  refine j_aald (pc := 14) C 41 (42 + (a1).toNatClampNeg) (c_41 hBL).1 (c_41 hBL).2 g2 (gfam_at (vp_in_lt g2)) dX0_replace_14 ?_
  refine j_aload_n (pc := 15) C dX0_replace_15 rfl 1 rfl ?_
  refine j_getI (pc := 16) C 40 1 (c_40 hBL).1 (c_40 hBL).2 rfl rfl (by decide) inw_X0 wd_188 dX0_replace_16 ?_
  refine j_iload_n (pc := 19) C dX0_replace_19 rfl 4 rfl ?_
  refine j_imul (pc := 20) C dX0_replace_20 ?_
  refine j_iload_n (pc := 21) C dX0_replace_21 rfl 3 rfl ?_
  refine j_iadd (pc := 22) C dX0_replace_22 ?_
  refine j_iload (pc := 23) C dX0_replace_23 5 rfl ?_
  obtain ⟨g3, h⟩ := h
  refine j_iast (pc := 25) C (42 + (a1).toNatClampNeg) (f_42 hBL (vp_in_lt g2)).1 (f_42 hBL (vp_in_lt g2)).2 g3 dX0_replace_25 ?_
  refine gJ.nmI (fun I4 eI4 => ?_)
  have h := h I4 eI4
  refine j_iload (pc := 26) C dX0_replace_26 0 rfl ?_
  exact j_iret (pc := 28) C hR (Nat.zero_le _) (Nat.zero_le _) dX0_replace_28 ⟨_, rfl, rfl, rfl, h⟩
/-! TileRules$Blocks.lettersIn(I)I -/
abbrev rm_X0_lettersIn : Room := { frames := 0, cells := 0, slots := 0, locals := 0 }
theorem ok_X0_lettersIn : gOk yX0_lettersIn cX0_lettersIn 4 (some .int) 1 := ⟨wd_814, wd_72, by decide +kernel⟩
def w_X0_lettersIn_4b  (Po : Int32 → Prop) (K4 : Int32 → Int32 → Prop) (v1 : Int32) (v2 : Int32) (v3 : Int32) (I : gI) : Prop :=
  (((I 40 1) * (I 40 1)) ≤ v3 → Po v2) ∧ (¬ ((I 40 1) * (I 40 1)) ≤ v3 → vp_in v1 6 ∧ vp_in v3 9 ∧ ∀ n4 : Int32, n4 = (v2 ||| ((1 : Int32) <<< ((I (42 + (v1).toNatClampNeg) (v3).toNatClampNeg) &&& 31))) → ∀ n5 : Int32, n5 = v3 + 1 → K4 n4 n5)
def w_X0_lettersIn_4  (Po : Int32 → Prop)  (v1 : Int32) (v2 : Int32) (v3 : Int32) (I : gI) : Prop :=
  ∃ (Inv : Int32 → Int32 → Prop) (mu : Int32 → Int32 → Nat), Inv v2 v3 ∧ ∀ (v2 : Int32) (v3 : Int32), Inv v2 v3 → w_X0_lettersIn_4b  Po  (fun u2 u3 => Inv u2 u3 ∧ mu u2 u3 < mu v2 v3) v1 v2 v3 I
def wp_X0_lettersIn (a1 : Int32) (I : gI) (Po : Int32 → Prop) : Prop :=
  w_X0_lettersIn_4 Po a1 (0 : Int32) (0 : Int32) I
set_option maxRecDepth 100000 in
set_option maxHeartbeats 4000000 in
theorem t_X0_lettersIn_4b {X : gX} {l : Launch} {D : va_G} {cy : Nat → ClassId} {nm : String} {V : gV} (hBL : gModBL V) (C : gC X cX0_lettersIn RX0 (some .int) 4 rm_X0_lettersIn) (hX : gIs X l D cy nm) {I : gI} {J : gL} {Po : Int32 → Prop} (hR : gR X (gPi V (fun x I' J' => I = I' ∧ J = J' ∧ Po x))) {v1 : Int32} {v2 : Int32} {v3 : Int32} {K4 : Int32 → Int32 → Prop} (hK4 : ∀ (y2 : Int32) (y3 : Int32), K4 y2 y3 → gJ X V 0 0 4 [(0, .ref (V.2.1 40)), (1, .int v1), (2, .int y2), (3, .int y3)] [] I J) (h : w_X0_lettersIn_4b Po K4 v1 v2 v3 I) : gJ X V 0 0 4 [(0, .ref (V.2.1 40)), (1, .int v1), (2, .int v2), (3, .int v3)] [] I J := by
  unfold w_X0_lettersIn_4b at h
  refine j_iload_n (pc := 4) C dX0_lettersIn_4 rfl 3 rfl ?_
  refine j_aload_n (pc := 5) C dX0_lettersIn_5 rfl 0 rfl ?_
  refine j_getI (pc := 6) C 40 1 (c_40 hBL).1 (c_40 hBL).2 rfl rfl (by decide) inw_X0 wd_188 dX0_lettersIn_6 ?_
  refine j_aload_n (pc := 9) C dX0_lettersIn_9 rfl 0 rfl ?_
  refine j_getI (pc := 10) C 40 1 (c_40 hBL).1 (c_40 hBL).2 rfl rfl (by decide) inw_X0 wd_188 dX0_lettersIn_10 ?_
  refine j_imul (pc := 13) C dX0_lettersIn_13 ?_
  refine j_icmp_ge (pc := 14) (tgt := 36) C dX0_lettersIn_14 (by decide) (fun c1 => ?_) (fun c1 => ?_)
  · have h := h.1 c1
    refine j_iload_n (pc := 36) C dX0_lettersIn_36 rfl 2 rfl ?_
    exact j_iret (pc := 37) C hR (Nat.zero_le _) (Nat.zero_le _) dX0_lettersIn_37 ⟨_, rfl, rfl, rfl, rfl, h⟩
  · have h := h.2 c1
    refine j_iload_n (pc := 17) C dX0_lettersIn_17 rfl 2 rfl ?_
    refine j_iconst (pc := 18) (v := 1) C dX0_lettersIn_18 (by decide) ?_
    refine j_aload_n (pc := 19) C dX0_lettersIn_19 rfl 0 rfl ?_
    refine j_getR (pc := 20) C 40 2 41 (c_40 hBL).1 (c_40 hBL).2 rfl rfl (by decide) inw_X0 wd_191 dX0_lettersIn_20 ?_
    refine j_iload_n (pc := 23) C dX0_lettersIn_23 rfl 1 rfl ?_
    obtain ⟨g2, h⟩ := h
    refine j_aald (pc := 24) C 41 (42 + (v1).toNatClampNeg) (c_41 hBL).1 (c_41 hBL).2 g2 (gfam_at (vp_in_lt g2)) dX0_lettersIn_24 ?_
    refine j_iload_n (pc := 25) C dX0_lettersIn_25 rfl 3 rfl ?_
    obtain ⟨g3, h⟩ := h
    refine j_iald (pc := 26) C (42 + (v1).toNatClampNeg) (f_42 hBL (vp_in_lt g2)).1 (f_42 hBL (vp_in_lt g2)).2 g3 dX0_lettersIn_26 ?_
    refine j_ishl (pc := 27) C dX0_lettersIn_27 ?_
    refine j_ior (pc := 28) C dX0_lettersIn_28 ?_
    refine gJ.topi (fun n4 en4 => ?_)
    have h := h n4 en4
    refine j_istore_n (pc := 29) (lv' := [(2, .int n4), (0, .ref (V.2.1 40)), (1, .int v1), (3, .int v3)]) C dX0_lettersIn_29 rfl (by decide) rfl ?_
    obtain ⟨n5, en5⟩ : ∃ z : Int32, z = v3 + 1 := ⟨_, rfl⟩
    have h := h n5 en5
    refine j_iinc (pc := 30) (v := n5) (lv' := [(3, .int n5), (2, .int n4), (0, .ref (V.2.1 40)), (1, .int v1)]) C dX0_lettersIn_30 3 rfl (by rw [en5]; rfl) (by decide) rfl ?_
    refine j_goto (pc := 33) (tgt := 4) C dX0_lettersIn_33 (by decide) ?_
    refine gJ.sub [2, 3, 1, 0] rfl ?_
    exact hK4 _ _ h
set_option maxRecDepth 100000 in
set_option maxHeartbeats 4000000 in
theorem t_X0_lettersIn_4 {X : gX} {l : Launch} {D : va_G} {cy : Nat → ClassId} {nm : String} {V : gV} (hBL : gModBL V) (C : gC X cX0_lettersIn RX0 (some .int) 4 rm_X0_lettersIn) (hX : gIs X l D cy nm) {I : gI} {J : gL} {Po : Int32 → Prop} (hR : gR X (gPi V (fun x I' J' => I = I' ∧ J = J' ∧ Po x))) {v1 : Int32} {v2 : Int32} {v3 : Int32} (h : w_X0_lettersIn_4 Po v1 v2 v3 I) : gJ X V 0 0 4 [(0, .ref (V.2.1 40)), (1, .int v1), (2, .int v2), (3, .int v3)] [] I J := by
  unfold w_X0_lettersIn_4 at h
  obtain ⟨Inv, mu, h0, hs⟩ := h
  have key : ∀ (n : Nat) (v2 : Int32) (v3 : Int32), Inv v2 v3 → mu v2 v3 < n → gJ X V 0 0 4 [(0, .ref (V.2.1 40)), (1, .int v1), (2, .int v2), (3, .int v3)] [] I J := by
    intro n
    induction n with
    | zero => intro v2 v3 hi hn; exact absurd hn (Nat.not_lt_zero _)
    | succ n ih =>
      intro v2 v3 hi hn
      exact t_X0_lettersIn_4b hBL C hX hR   (fun u2 u3 hk => ih u2 u3 hk.1 (Nat.lt_of_lt_of_le hk.2 (Nat.le_of_lt_succ hn))) (hs v2 v3 hi)
  exact key _ v2 v3 h0 (Nat.lt_succ_self _)
set_option maxRecDepth 100000 in
set_option maxHeartbeats 4000000 in
theorem m_X0_lettersIn {l : Launch} {D : va_G} {cy : Nat → ClassId} {V : gV} (hBL : gModBL V) {a1 : Int32} {I : gI} {J : gL} {Po : Int32 → Prop} (h : wp_X0_lettersIn a1 I Po) : gMet l D cy yX0_lettersIn cX0_lettersIn 4 (some .int) rm_X0_lettersIn V [.ref (V.2.1 40), .int a1] I J (gPi V (fun x I' J' => I = I' ∧ J = J' ∧ Po x)) := by
  refine gMet.of (by decide) (Nat.le_of_ble_eq_true rfl) (fun X hX C hR => ?_)
  have C : gC X cX0_lettersIn RX0 (some .int) 4 rm_X0_lettersIn := C
  show gJ X V 0 0 0 [(0, .ref (V.2.1 40)), (1, .int a1)] [] I J
  unfold wp_X0_lettersIn at h
  refine j_iconst (pc := 0) (v := 0) C dX0_lettersIn_0 (by decide) ?_
  refine j_istore_n (pc := 1) (lv' := [(2, .int (0 : Int32)), (0, .ref (V.2.1 40)), (1, .int a1)]) C dX0_lettersIn_1 rfl (by decide) rfl ?_
  refine j_iconst (pc := 2) (v := 0) C dX0_lettersIn_2 (by decide) ?_
  refine j_istore_n (pc := 3) (lv' := [(3, .int (0 : Int32)), (2, .int (0 : Int32)), (0, .ref (V.2.1 40)), (1, .int a1)]) C dX0_lettersIn_3 rfl (by decide) rfl ?_
  refine gJ.sub [2, 3, 1, 0] rfl ?_
  exact t_X0_lettersIn_4 hBL C hX hR   h
/-! TileRules$Blocks.grownAt(IIII)I -/
abbrev rm_X0_grownAt : Room := { frames := 1, cells := 0, slots := 0, locals := 23 }
theorem ok_X0_grownAt : gOk yX0_grownAt cX0_grownAt 10 (some .int) 4 := ⟨wd_749, wd_72, by decide +kernel⟩
def w_X0_grownAt_23b  (Po : Int32 → Prop) (K23 : Int32 → Int32 → Int32 → Int32 → Int32 → Prop) (v2 : Int32) (v5 : Int32) (v6 : Int32) (v7 : Int32) (v8 : Int32) (v9 : Int32) (I : gI) : Prop :=
  (v2 ≤ v9 → Po v5) ∧ (¬ v2 ≤ v9 → ((I 40 1) ≤ (1 : Int32) → Po v5) ∧ (¬ (I 40 1) ≤ (1 : Int32) → (v8 < (I 40 1) → Po v5) ∧ (¬ v8 < (I 40 1) → ¬ (I 40 1) = 0 ∧ ∀ n6 : Int32, n6 = (v8 / (I 40 1)) → ¬ n6 = 0 ∧ ¬ n6 = 0 ∧ wp_X0_at v5 (v6 / n6) (v7 / n6) I (fun r9 => ¬ n6 = 0 ∧ ∀ n11 : Int32, n11 = (v6 - v6 / n6 * n6) → ¬ n6 = 0 ∧ ∀ n13 : Int32, n13 = (v7 - v7 / n6 * n6) → ∀ n14 : Int32, n14 = v9 + 1 → K23 r9 n11 n13 n6 n14))))
def w_X0_grownAt_23  (Po : Int32 → Prop)  (v2 : Int32) (v5 : Int32) (v6 : Int32) (v7 : Int32) (v8 : Int32) (v9 : Int32) (I : gI) : Prop :=
  ∃ (Inv : Int32 → Int32 → Int32 → Int32 → Int32 → Prop) (mu : Int32 → Int32 → Int32 → Int32 → Int32 → Nat), Inv v5 v6 v7 v8 v9 ∧ ∀ (v5 : Int32) (v6 : Int32) (v7 : Int32) (v8 : Int32) (v9 : Int32), Inv v5 v6 v7 v8 v9 → w_X0_grownAt_23b  Po  (fun u5 u6 u7 u8 u9 => Inv u5 u6 u7 u8 u9 ∧ mu u5 u6 u7 u8 u9 < mu v5 v6 v7 v8 v9) v2 v5 v6 v7 v8 v9 I
def wp_X0_grownAt (a1 : Int32) (a2 : Int32) (a3 : Int32) (a4 : Int32) (I : gI) (Po : Int32 → Prop) : Prop :=
  wp_X9_power (I 40 1) a2 (fun r1 => w_X0_grownAt_23 Po a2 a1 a3 a4 r1 (0 : Int32) I)
set_option maxRecDepth 100000 in
set_option maxHeartbeats 4000000 in
theorem t_X0_grownAt_23b {X : gX} {l : Launch} {D : va_G} {cy : Nat → ClassId} {nm : String} {V : gV} (hBL : gModBL V) (C : gC X cX0_grownAt RX0 (some .int) 10 rm_X0_grownAt) (hX : gIs X l D cy nm) {I : gI} {J : gL} {Po : Int32 → Prop} (hR : gR X (gPi V (fun x I' J' => I = I' ∧ J = J' ∧ Po x))) {v2 : Int32} {v5 : Int32} {v6 : Int32} {v7 : Int32} {v8 : Int32} {v9 : Int32} {K23 : Int32 → Int32 → Int32 → Int32 → Int32 → Prop} (hK23 : ∀ (y5 : Int32) (y6 : Int32) (y7 : Int32) (y8 : Int32) (y9 : Int32), K23 y5 y6 y7 y8 y9 → gJ X V 0 0 23 [(0, .ref (V.2.1 40)), (2, .int v2), (5, .int y5), (6, .int y6), (7, .int y7), (8, .int y8), (9, .int y9)] [] I J) (h : w_X0_grownAt_23b Po K23 v2 v5 v6 v7 v8 v9 I) : gJ X V 0 0 23 [(0, .ref (V.2.1 40)), (2, .int v2), (5, .int v5), (6, .int v6), (7, .int v7), (8, .int v8), (9, .int v9)] [] I J := by
  unfold w_X0_grownAt_23b at h
  refine j_iload (pc := 23) C dX0_grownAt_23 6 rfl ?_
  refine j_iload_n (pc := 25) C dX0_grownAt_25 rfl 1 rfl ?_
  refine j_icmp_ge (pc := 26) (tgt := 93) C dX0_grownAt_26 (by decide) (fun c2 => ?_) (fun c2 => ?_)
  · have h := h.1 c2
    refine j_iload (pc := 93) C dX0_grownAt_93 2 rfl ?_
    exact j_iret (pc := 95) C hR (Nat.zero_le _) (Nat.zero_le _) dX0_grownAt_95 ⟨_, rfl, rfl, rfl, rfl, h⟩
  · have h := h.2 c2
    refine j_aload_n (pc := 29) C dX0_grownAt_29 rfl 0 rfl ?_
    refine j_getI (pc := 30) C 40 1 (c_40 hBL).1 (c_40 hBL).2 rfl rfl (by decide) inw_X0 wd_188 dX0_grownAt_30 ?_
    refine j_iconst (pc := 33) (v := 1) C dX0_grownAt_33 (by decide) ?_
    refine j_icmp_le (pc := 34) (tgt := 93) C dX0_grownAt_34 (by decide) (fun c3 => ?_) (fun c3 => ?_)
    · have h := h.1 c3
      refine j_iload (pc := 93) C dX0_grownAt_93 2 rfl ?_
      exact j_iret (pc := 95) C hR (Nat.zero_le _) (Nat.zero_le _) dX0_grownAt_95 ⟨_, rfl, rfl, rfl, rfl, h⟩
    · have h := h.2 c3
      refine j_iload (pc := 37) C dX0_grownAt_37 5 rfl ?_
      refine j_aload_n (pc := 39) C dX0_grownAt_39 rfl 0 rfl ?_
      refine j_getI (pc := 40) C 40 1 (c_40 hBL).1 (c_40 hBL).2 rfl rfl (by decide) inw_X0 wd_188 dX0_grownAt_40 ?_
      refine j_icmp_lt (pc := 43) (tgt := 93) C dX0_grownAt_43 (by decide) (fun c4 => ?_) (fun c4 => ?_)
      · have h := h.1 c4
        refine j_iload (pc := 93) C dX0_grownAt_93 2 rfl ?_
        exact j_iret (pc := 95) C hR (Nat.zero_le _) (Nat.zero_le _) dX0_grownAt_95 ⟨_, rfl, rfl, rfl, rfl, h⟩
      · have h := h.2 c4
        refine j_iload (pc := 46) C dX0_grownAt_46 5 rfl ?_
        refine j_aload_n (pc := 48) C dX0_grownAt_48 rfl 0 rfl ?_
        refine j_getI (pc := 49) C 40 1 (c_40 hBL).1 (c_40 hBL).2 rfl rfl (by decide) inw_X0 wd_188 dX0_grownAt_49 ?_
        obtain ⟨g5, h⟩ := h
        refine j_idiv (pc := 52) C dX0_grownAt_52 g5 ?_
        refine gJ.topi (fun n6 en6 => ?_)
        have h := h n6 en6
        refine j_istore (pc := 53) (lv' := [(8, .int n6), (0, .ref (V.2.1 40)), (2, .int v2), (5, .int v5), (6, .int v6), (7, .int v7), (9, .int v9)]) C dX0_grownAt_53 (by decide) rfl ?_
        refine j_aload_n (pc := 55) C dX0_grownAt_55 rfl 1 rfl ?_
        refine j_iload (pc := 56) C dX0_grownAt_56 3 rfl ?_
        refine j_iload (pc := 58) C dX0_grownAt_58 4 rfl ?_
        refine j_iload (pc := 60) C dX0_grownAt_60 0 rfl ?_
        obtain ⟨g7, h⟩ := h
        refine j_idiv (pc := 62) C dX0_grownAt_62 g7 ?_
        refine j_iload (pc := 63) C dX0_grownAt_63 5 rfl ?_
        refine j_iload (pc := 65) C dX0_grownAt_65 0 rfl ?_
        obtain ⟨g8, h⟩ := h
        refine j_idiv (pc := 67) C dX0_grownAt_67 g8 ?_
        refine j_callV (pc := 68) (As := [.int v5, .int (v6 / n6), .int (v7 / n6)]) (st := []) C hX 40 (m_X0_at hBL  h) (c_40 hBL).1 (c_40 hBL).2 rfl ok_X0_at wd_738 wd_739 wd_740 ⟨by decide, by decide⟩ rfl rfl (Nat.le_of_ble_eq_true rfl) ⟨Nat.le_refl 0, Nat.le_refl 0⟩ dX0_grownAt_68 (fun r V1 I1 J1 hp => ?_)
        obtain ⟨r9, rfl, rfl, rfl, rfl, h⟩ := hp
        show gJ X V 0 0 71 _ [.int r9] _ _
        refine j_istore (pc := 71) (lv' := [(5, .int r9), (8, .int n6), (0, .ref (V.2.1 40)), (2, .int v2), (6, .int v6), (7, .int v7), (9, .int v9)]) C dX0_grownAt_71 (by decide) rfl ?_
        refine j_iload (pc := 73) C dX0_grownAt_73 4 rfl ?_
        refine j_iload (pc := 75) C dX0_grownAt_75 1 rfl ?_
        obtain ⟨g10, h⟩ := h
        refine j_irem (pc := 77) C dX0_grownAt_77 g10 ?_
        refine gJ.topi (fun n11 en11 => ?_)
        have h := h n11 en11
        refine j_istore (pc := 78) (lv' := [(6, .int n11), (5, .int r9), (8, .int n6), (0, .ref (V.2.1 40)), (2, .int v2), (7, .int v7), (9, .int v9)]) C dX0_grownAt_78 (by decide) rfl ?_
        refine j_iload (pc := 80) C dX0_grownAt_80 5 rfl ?_
        refine j_iload (pc := 82) C dX0_grownAt_82 2 rfl ?_
        obtain ⟨g12, h⟩ := h
        refine j_irem (pc := 84) C dX0_grownAt_84 g12 ?_
        refine gJ.topi (fun n13 en13 => ?_)
        have h := h n13 en13
        refine j_istore (pc := 85) (lv' := [(7, .int n13), (6, .int n11), (5, .int r9), (8, .int n6), (0, .ref (V.2.1 40)), (2, .int v2), (9, .int v9)]) C dX0_grownAt_85 (by decide) rfl ?_
        obtain ⟨n14, en14⟩ : ∃ z : Int32, z = v9 + 1 := ⟨_, rfl⟩
        have h := h n14 en14
        refine j_iinc (pc := 87) (v := n14) (lv' := [(9, .int n14), (7, .int n13), (6, .int n11), (5, .int r9), (8, .int n6), (0, .ref (V.2.1 40)), (2, .int v2)]) C dX0_grownAt_87 6 rfl (by rw [en14]; rfl) (by decide) rfl ?_
        refine j_goto (pc := 90) (tgt := 23) C dX0_grownAt_90 (by decide) ?_
        refine gJ.sub [5, 6, 3, 2, 1, 4, 0] rfl ?_
        exact hK23 _ _ _ _ _ h
set_option maxRecDepth 100000 in
set_option maxHeartbeats 4000000 in
theorem t_X0_grownAt_23 {X : gX} {l : Launch} {D : va_G} {cy : Nat → ClassId} {nm : String} {V : gV} (hBL : gModBL V) (C : gC X cX0_grownAt RX0 (some .int) 10 rm_X0_grownAt) (hX : gIs X l D cy nm) {I : gI} {J : gL} {Po : Int32 → Prop} (hR : gR X (gPi V (fun x I' J' => I = I' ∧ J = J' ∧ Po x))) {v2 : Int32} {v5 : Int32} {v6 : Int32} {v7 : Int32} {v8 : Int32} {v9 : Int32} (h : w_X0_grownAt_23 Po v2 v5 v6 v7 v8 v9 I) : gJ X V 0 0 23 [(0, .ref (V.2.1 40)), (2, .int v2), (5, .int v5), (6, .int v6), (7, .int v7), (8, .int v8), (9, .int v9)] [] I J := by
  unfold w_X0_grownAt_23 at h
  obtain ⟨Inv, mu, h0, hs⟩ := h
  have key : ∀ (n : Nat) (v5 : Int32) (v6 : Int32) (v7 : Int32) (v8 : Int32) (v9 : Int32), Inv v5 v6 v7 v8 v9 → mu v5 v6 v7 v8 v9 < n → gJ X V 0 0 23 [(0, .ref (V.2.1 40)), (2, .int v2), (5, .int v5), (6, .int v6), (7, .int v7), (8, .int v8), (9, .int v9)] [] I J := by
    intro n
    induction n with
    | zero => intro v5 v6 v7 v8 v9 hi hn; exact absurd hn (Nat.not_lt_zero _)
    | succ n ih =>
      intro v5 v6 v7 v8 v9 hi hn
      exact t_X0_grownAt_23b hBL C hX hR   (fun u5 u6 u7 u8 u9 hk => ih u5 u6 u7 u8 u9 hk.1 (Nat.lt_of_lt_of_le hk.2 (Nat.le_of_lt_succ hn))) (hs v5 v6 v7 v8 v9 hi)
  exact key _ v5 v6 v7 v8 v9 h0 (Nat.lt_succ_self _)
set_option maxRecDepth 100000 in
set_option maxHeartbeats 4000000 in
theorem m_X0_grownAt {l : Launch} {D : va_G} {cy : Nat → ClassId} {V : gV} (hBL : gModBL V) {a1 : Int32} {a2 : Int32} {a3 : Int32} {a4 : Int32} {I : gI} {J : gL} {Po : Int32 → Prop} (h : wp_X0_grownAt a1 a2 a3 a4 I Po) : gMet l D cy yX0_grownAt cX0_grownAt 10 (some .int) rm_X0_grownAt V [.ref (V.2.1 40), .int a1, .int a2, .int a3, .int a4] I J (gPi V (fun x I' J' => I = I' ∧ J = J' ∧ Po x)) := by
  refine gMet.of (by decide) (Nat.le_of_ble_eq_true rfl) (fun X hX C hR => ?_)
  have C : gC X cX0_grownAt RX0 (some .int) 10 rm_X0_grownAt := C
  show gJ X V 0 0 0 [(0, .ref (V.2.1 40)), (1, .int a1), (2, .int a2), (3, .int a3), (4, .int a4)] [] I J
  unfold wp_X0_grownAt at h
  refine j_iload_n (pc := 0) C dX0_grownAt_0 rfl 1 rfl ?_
  refine j_istore (pc := 1) (lv' := [(5, .int a1), (0, .ref (V.2.1 40)), (1, .int a1), (2, .int a2), (3, .int a3), (4, .int a4)]) C dX0_grownAt_1 (by decide) rfl ?_
  refine j_iload_n (pc := 3) C dX0_grownAt_3 rfl 4 rfl ?_
  refine j_istore (pc := 4) (lv' := [(6, .int a3), (5, .int a1), (0, .ref (V.2.1 40)), (1, .int a1), (2, .int a2), (3, .int a3), (4, .int a4)]) C dX0_grownAt_4 (by decide) rfl ?_
  refine j_iload (pc := 6) C dX0_grownAt_6 6 rfl ?_
  refine j_istore (pc := 8) (lv' := [(7, .int a4), (6, .int a3), (5, .int a1), (0, .ref (V.2.1 40)), (1, .int a1), (2, .int a2), (3, .int a3), (4, .int a4)]) C dX0_grownAt_8 (by decide) rfl ?_
  refine j_aload_n (pc := 10) C dX0_grownAt_10 rfl 3 rfl ?_
  refine j_getI (pc := 11) C 40 1 (c_40 hBL).1 (c_40 hBL).2 rfl rfl (by decide) inw_X0 wd_188 dX0_grownAt_11 ?_
  refine j_iload_n (pc := 14) C dX0_grownAt_14 rfl 5 rfl ?_
  refine j_callSN (pc := 15) (host := RX9) (As := [.int (I 40 1), .int a2]) (st := []) C hX (m_X9_power   h) ok_X9_power (fun U q => q.2.2.2.2.2.1) wd_307 ⟨by decide, by decide⟩ rfl rfl (Nat.le_of_ble_eq_true rfl) ⟨Nat.le_refl 0, Nat.le_refl 0⟩ dX0_grownAt_15 (fun r V1 I1 J1 hp => ?_)
  obtain ⟨r1, rfl, rfl, rfl, rfl, h⟩ := hp
  show gJ X V 0 0 18 _ [.int r1] _ _
  refine j_istore (pc := 18) (lv' := [(8, .int r1), (7, .int a4), (6, .int a3), (5, .int a1), (0, .ref (V.2.1 40)), (1, .int a1), (2, .int a2), (3, .int a3), (4, .int a4)]) C dX0_grownAt_18 (by decide) rfl ?_
  refine j_iconst (pc := 20) (v := 0) C dX0_grownAt_20 (by decide) ?_
  refine j_istore (pc := 21) (lv' := [(9, .int (0 : Int32)), (8, .int r1), (7, .int a4), (6, .int a3), (5, .int a1), (0, .ref (V.2.1 40)), (1, .int a1), (2, .int a2), (3, .int a3), (4, .int a4)]) C dX0_grownAt_21 (by decide) rfl ?_
  refine gJ.sub [5, 7, 4, 3, 2, 1, 0] rfl ?_
  exact t_X0_grownAt_23 hBL C hX hR   h
/-! TileRules$Blocks.countGrown(III)J -/
abbrev rm_X0_countGrown : Room := { frames := 1, cells := 0, slots := 0, locals := 80 }
theorem ok_X0_countGrown : gOk yX0_countGrown cX0_countGrown 7 (some .long) 3 := ⟨wd_758, wd_72, by decide +kernel⟩
def w_X0_countGrown_47b  (Po : Int64 → gL → Prop) (K18 : Int32 → gL → Prop) (K27 : Int32 → gL → Prop) (K47 : Int32 → gL → Prop) (v1 : Int32) (v2 : Int32) (v4 : Int32) (v5 : Int32) (v6 : Int32) (I : gI) (J : gL) : Prop :=
  (((I 40 1) * (I 40 1)) ≤ v6 → ∀ n12 : Int32, n12 = v5 + 1 → K27 n12 J) ∧ (¬ ((I 40 1) * (I 40 1)) ≤ v6 → vp_in v5 6 ∧ vp_in v5 6 ∧ vp_in v6 9 ∧ vp_in (I (42 + (v5).toNatClampNeg) (v6).toNatClampNeg) 6 ∧ vp_in v5 6 ∧ ∀ J18 : gL, J18 = gup J 49 (v5).toNatClampNeg ((J 49 (v5).toNatClampNeg) + (J 48 ((I (42 + (v5).toNatClampNeg) (v6).toNatClampNeg)).toNatClampNeg)) → ∀ n19 : Int32, n19 = v6 + 1 → K47 n19 J18)
def w_X0_countGrown_47  (Po : Int64 → gL → Prop) (K18 : Int32 → gL → Prop) (K27 : Int32 → gL → Prop) (v1 : Int32) (v2 : Int32) (v4 : Int32) (v5 : Int32) (v6 : Int32) (I : gI) (J : gL) : Prop :=
  ∃ (Inv : Int32 → gL → Prop) (mu : Int32 → gL → Nat), Inv v6 J ∧ ∀ (v6 : Int32) (J : gL), Inv v6 J → w_X0_countGrown_47b  Po K18 K27 (fun u6 J1 => Inv u6 J1 ∧ mu u6 J1 < mu v6 J) v1 v2 v4 v5 v6 I J
def w_X0_countGrown_27b  (Po : Int64 → gL → Prop) (K18 : Int32 → gL → Prop) (K27 : Int32 → gL → Prop) (v1 : Int32) (v2 : Int32) (v4 : Int32) (v5 : Int32) (I : gI) (J : gL) : Prop :=
  ((I 40 0) ≤ v5 → ∀ J7 : gL, J7 = guc J 48 (va_cpy (J 49) (J 48) 0 0 6) → ∀ n8 : Int32, n8 = v4 + 1 → K18 n8 J7) ∧ (¬ (I 40 0) ≤ v5 → vp_in v5 6 ∧ ∀ J10 : gL, J10 = gup J 49 (v5).toNatClampNeg (0 : Int64) → w_X0_countGrown_47 Po K18 K27 v1 v2 v4 v5 (0 : Int32) I J10)
def w_X0_countGrown_27  (Po : Int64 → gL → Prop) (K18 : Int32 → gL → Prop) (v1 : Int32) (v2 : Int32) (v4 : Int32) (v5 : Int32) (I : gI) (J : gL) : Prop :=
  ∃ (Inv : Int32 → gL → Prop) (mu : Int32 → gL → Nat), Inv v5 J ∧ ∀ (v5 : Int32) (J : gL), Inv v5 J → w_X0_countGrown_27b  Po K18 (fun u5 J1 => Inv u5 J1 ∧ mu u5 J1 < mu v5 J) v1 v2 v4 v5 I J
def w_X0_countGrown_18b  (Po : Int64 → gL → Prop) (K18 : Int32 → gL → Prop) (v1 : Int32) (v2 : Int32) (v4 : Int32) (I : gI) (J : gL) : Prop :=
  (v2 ≤ v4 → vp_in v1 6 ∧ Po (J 48 (v1).toNatClampNeg) J) ∧ (¬ v2 ≤ v4 → w_X0_countGrown_27 Po K18 v1 v2 v4 (0 : Int32) I J)
def w_X0_countGrown_18  (Po : Int64 → gL → Prop)  (v1 : Int32) (v2 : Int32) (v4 : Int32) (I : gI) (J : gL) : Prop :=
  ∃ (Inv : Int32 → gL → Prop) (mu : Int32 → gL → Nat), Inv v4 J ∧ ∀ (v4 : Int32) (J : gL), Inv v4 J → w_X0_countGrown_18b  Po  (fun u4 J1 => Inv u4 J1 ∧ mu u4 J1 < mu v4 J) v1 v2 v4 I J
def wp_X0_countGrown (a1 : Int32) (a2 : Int32) (a3 : Int32) (I : gI) (J : gL) (Po : Int64 → gL → Prop) : Prop :=
  wp_J7_fill_d0a16 48 6 (0 : Int64) J (fun J1 => vp_in a3 6 ∧ ∀ J3 : gL, J3 = gup J1 48 (a3).toNatClampNeg (1 : Int64) → w_X0_countGrown_18 Po a1 a2 (0 : Int32) I J3)
set_option maxRecDepth 100000 in
set_option maxHeartbeats 4000000 in
theorem t_X0_countGrown_47b {X : gX} {l : Launch} {D : va_G} {cy : Nat → ClassId} {nm : String} {V : gV} (hBL : gModBL V) (C : gC X cX0_countGrown RX0 (some .long) 7 rm_X0_countGrown) (hX : gIs X l D cy nm) {I : gI} {J : gL} {Po : Int64 → gL → Prop} (hR : gR X (gPl V (fun x I' J' => I = I' ∧ Po x J'))) {v1 : Int32} {v2 : Int32} {v4 : Int32} {v5 : Int32} {v6 : Int32} {K18 : Int32 → gL → Prop} {K27 : Int32 → gL → Prop} {K47 : Int32 → gL → Prop} (hK18 : ∀ (y4 : Int32) (J1 : gL), K18 y4 J1 → gJ X V 0 0 18 [(0, .ref (V.2.1 40)), (1, .int v1), (2, .int v2), (4, .int y4)] [] I J1) (hK27 : ∀ (y5 : Int32) (J1 : gL), K27 y5 J1 → gJ X V 0 0 27 [(0, .ref (V.2.1 40)), (1, .int v1), (2, .int v2), (4, .int v4), (5, .int y5)] [] I J1) (hK47 : ∀ (y6 : Int32) (J1 : gL), K47 y6 J1 → gJ X V 0 0 47 [(0, .ref (V.2.1 40)), (1, .int v1), (2, .int v2), (4, .int v4), (5, .int v5), (6, .int y6)] [] I J1) (h : w_X0_countGrown_47b Po K18 K27 K47 v1 v2 v4 v5 v6 I J) : gJ X V 0 0 47 [(0, .ref (V.2.1 40)), (1, .int v1), (2, .int v2), (4, .int v4), (5, .int v5), (6, .int v6)] [] I J := by
  unfold w_X0_countGrown_47b at h
  refine j_iload (pc := 47) C dX0_countGrown_47 5 rfl ?_
  refine j_aload_n (pc := 49) C dX0_countGrown_49 rfl 0 rfl ?_
  refine j_getI (pc := 50) C 40 1 (c_40 hBL).1 (c_40 hBL).2 rfl rfl (by decide) inw_X0 wd_188 dX0_countGrown_50 ?_
  refine j_aload_n (pc := 53) C dX0_countGrown_53 rfl 0 rfl ?_
  refine j_getI (pc := 54) C 40 1 (c_40 hBL).1 (c_40 hBL).2 rfl rfl (by decide) inw_X0 wd_188 dX0_countGrown_54 ?_
  refine j_imul (pc := 57) C dX0_countGrown_57 ?_
  refine j_icmp_ge (pc := 58) (tgt := 92) C dX0_countGrown_58 (by decide) (fun c11 => ?_) (fun c11 => ?_)
  · have h := h.1 c11
    obtain ⟨n12, en12⟩ : ∃ z : Int32, z = v5 + 1 := ⟨_, rfl⟩
    have h := h n12 en12
    refine j_iinc (pc := 92) (v := n12) (lv' := [(5, .int n12), (0, .ref (V.2.1 40)), (1, .int v1), (2, .int v2), (4, .int v4), (6, .int v6)]) C dX0_countGrown_92 4 rfl (by rw [en12]; rfl) (by decide) rfl ?_
    refine j_goto (pc := 95) (tgt := 27) C dX0_countGrown_95 (by decide) ?_
    refine gJ.sub [1, 2, 3, 4, 0] rfl ?_
    exact hK27 _ _ h
  · have h := h.2 c11
    refine j_aload_n (pc := 61) C dX0_countGrown_61 rfl 0 rfl ?_
    refine j_getR (pc := 62) C 40 4 49 (c_40 hBL).1 (c_40 hBL).2 rfl rfl (by decide) inw_X0 wd_193 dX0_countGrown_62 ?_
    refine j_iload (pc := 65) C dX0_countGrown_65 4 rfl ?_
    refine j_dup2_11 (pc := 67) C dX0_countGrown_67 rfl rfl ?_
    obtain ⟨g13, h⟩ := h
    refine j_lald (pc := 68) C 49 (c_49 hBL).1 (c_49 hBL).2 g13 dX0_countGrown_68 ?_
    refine j_aload_n (pc := 69) C dX0_countGrown_69 rfl 0 rfl ?_
    refine j_getR (pc := 70) C 40 3 48 (c_40 hBL).1 (c_40 hBL).2 rfl rfl (by decide) inw_X0 wd_192 dX0_countGrown_70 ?_
    refine j_aload_n (pc := 73) C dX0_countGrown_73 rfl 0 rfl ?_
    refine j_getR (pc := 74) C 40 2 41 (c_40 hBL).1 (c_40 hBL).2 rfl rfl (by decide) inw_X0 wd_191 dX0_countGrown_74 ?_
    refine j_iload (pc := 77) C dX0_countGrown_77 4 rfl ?_
    obtain ⟨g14, h⟩ := h
    refine j_aald (pc := 79) C 41 (42 + (v5).toNatClampNeg) (c_41 hBL).1 (c_41 hBL).2 g14 (gfam_at (vp_in_lt g14)) dX0_countGrown_79 ?_
    refine j_iload (pc := 80) C dX0_countGrown_80 5 rfl ?_
    obtain ⟨g15, h⟩ := h
    refine j_iald (pc := 82) C (42 + (v5).toNatClampNeg) (f_42 hBL (vp_in_lt g14)).1 (f_42 hBL (vp_in_lt g14)).2 g15 dX0_countGrown_82 ?_
    obtain ⟨g16, h⟩ := h
    refine j_lald (pc := 83) C 48 (c_48 hBL).1 (c_48 hBL).2 g16 dX0_countGrown_83 ?_
    refine j_ladd (pc := 84) C dX0_countGrown_84 ?_
    obtain ⟨g17, h⟩ := h
    refine j_last (pc := 85) C 49 (c_49 hBL).1 (c_49 hBL).2 g17 dX0_countGrown_85 ?_
    refine gJ.nmJ (fun J18 eJ18 => ?_)
    have h := h J18 eJ18
    obtain ⟨n19, en19⟩ : ∃ z : Int32, z = v6 + 1 := ⟨_, rfl⟩
    have h := h n19 en19
    refine j_iinc (pc := 86) (v := n19) (lv' := [(6, .int n19), (0, .ref (V.2.1 40)), (1, .int v1), (2, .int v2), (4, .int v4), (5, .int v5)]) C dX0_countGrown_86 5 rfl (by rw [en19]; rfl) (by decide) rfl ?_
    refine j_goto (pc := 89) (tgt := 47) C dX0_countGrown_89 (by decide) ?_
    refine gJ.sub [1, 2, 3, 4, 5, 0] rfl ?_
    exact hK47 _ _ h
set_option maxRecDepth 100000 in
set_option maxHeartbeats 4000000 in
theorem t_X0_countGrown_47 {X : gX} {l : Launch} {D : va_G} {cy : Nat → ClassId} {nm : String} {V : gV} (hBL : gModBL V) (C : gC X cX0_countGrown RX0 (some .long) 7 rm_X0_countGrown) (hX : gIs X l D cy nm) {I : gI} {J : gL} {Po : Int64 → gL → Prop} (hR : gR X (gPl V (fun x I' J' => I = I' ∧ Po x J'))) {v1 : Int32} {v2 : Int32} {v4 : Int32} {v5 : Int32} {v6 : Int32} {K18 : Int32 → gL → Prop} {K27 : Int32 → gL → Prop} (hK18 : ∀ (y4 : Int32) (J1 : gL), K18 y4 J1 → gJ X V 0 0 18 [(0, .ref (V.2.1 40)), (1, .int v1), (2, .int v2), (4, .int y4)] [] I J1) (hK27 : ∀ (y5 : Int32) (J1 : gL), K27 y5 J1 → gJ X V 0 0 27 [(0, .ref (V.2.1 40)), (1, .int v1), (2, .int v2), (4, .int v4), (5, .int y5)] [] I J1) (h : w_X0_countGrown_47 Po K18 K27 v1 v2 v4 v5 v6 I J) : gJ X V 0 0 47 [(0, .ref (V.2.1 40)), (1, .int v1), (2, .int v2), (4, .int v4), (5, .int v5), (6, .int v6)] [] I J := by
  unfold w_X0_countGrown_47 at h
  obtain ⟨Inv, mu, h0, hs⟩ := h
  have key : ∀ (n : Nat) (v6 : Int32) (J : gL), Inv v6 J → mu v6 J < n → gJ X V 0 0 47 [(0, .ref (V.2.1 40)), (1, .int v1), (2, .int v2), (4, .int v4), (5, .int v5), (6, .int v6)] [] I J := by
    intro n
    induction n with
    | zero => intro v6 J hi hn; exact absurd hn (Nat.not_lt_zero _)
    | succ n ih =>
      intro v6 J hi hn
      exact t_X0_countGrown_47b hBL C hX hR  hK18 hK27 (fun u6 J1 hk => ih u6 J1 hk.1 (Nat.lt_of_lt_of_le hk.2 (Nat.le_of_lt_succ hn))) (hs v6 J hi)
  exact key _ v6 J h0 (Nat.lt_succ_self _)
set_option maxRecDepth 100000 in
set_option maxHeartbeats 4000000 in
theorem t_X0_countGrown_27b {X : gX} {l : Launch} {D : va_G} {cy : Nat → ClassId} {nm : String} {V : gV} (hBL : gModBL V) (C : gC X cX0_countGrown RX0 (some .long) 7 rm_X0_countGrown) (hX : gIs X l D cy nm) {I : gI} {J : gL} {Po : Int64 → gL → Prop} (hR : gR X (gPl V (fun x I' J' => I = I' ∧ Po x J'))) {v1 : Int32} {v2 : Int32} {v4 : Int32} {v5 : Int32} {K18 : Int32 → gL → Prop} {K27 : Int32 → gL → Prop} (hK18 : ∀ (y4 : Int32) (J1 : gL), K18 y4 J1 → gJ X V 0 0 18 [(0, .ref (V.2.1 40)), (1, .int v1), (2, .int v2), (4, .int y4)] [] I J1) (hK27 : ∀ (y5 : Int32) (J1 : gL), K27 y5 J1 → gJ X V 0 0 27 [(0, .ref (V.2.1 40)), (1, .int v1), (2, .int v2), (4, .int v4), (5, .int y5)] [] I J1) (h : w_X0_countGrown_27b Po K18 K27 v1 v2 v4 v5 I J) : gJ X V 0 0 27 [(0, .ref (V.2.1 40)), (1, .int v1), (2, .int v2), (4, .int v4), (5, .int v5)] [] I J := by
  unfold w_X0_countGrown_27b at h
  refine j_iload (pc := 27) C dX0_countGrown_27 4 rfl ?_
  refine j_aload_n (pc := 29) C dX0_countGrown_29 rfl 0 rfl ?_
  refine j_getI (pc := 30) C 40 0 (c_40 hBL).1 (c_40 hBL).2 rfl rfl (by decide) inw_X0 wd_185 dX0_countGrown_30 ?_
  refine j_icmp_ge (pc := 33) (tgt := 98) C dX0_countGrown_33 (by decide) (fun c6 => ?_) (fun c6 => ?_)
  · have h := h.1 c6
    refine j_aload_n (pc := 98) C dX0_countGrown_98 rfl 0 rfl ?_
    refine j_getR (pc := 99) C 40 4 49 (c_40 hBL).1 (c_40 hBL).2 rfl rfl (by decide) inw_X0 wd_193 dX0_countGrown_99 ?_
    refine j_iconst (pc := 102) (v := 0) C dX0_countGrown_102 (by decide) ?_
    refine j_aload_n (pc := 103) C dX0_countGrown_103 rfl 0 rfl ?_
    refine j_getR (pc := 104) C 40 3 48 (c_40 hBL).1 (c_40 hBL).2 rfl rfl (by decide) inw_X0 wd_192 dX0_countGrown_104 ?_
    refine j_iconst (pc := 107) (v := 0) C dX0_countGrown_107 (by decide) ?_
    refine j_bipush (pc := 108) (v := 6) C dX0_countGrown_108 (by decide) ?_
    refine j_cpyL (pc := 110) (N := 6) C 49 48 (c_49 hBL).1 (c_49 hBL).2 (c_48 hBL).1 (c_48 hBL).2 wd_762 wd_764 wd_763 wd_82 (by decide) (by decide) (by decide) (by decide) (by decide) (by decide) dX0_countGrown_110 ?_
    refine gJ.nmJ (fun J7 eJ7 => ?_)
    have h := h J7 eJ7
    obtain ⟨n8, en8⟩ : ∃ z : Int32, z = v4 + 1 := ⟨_, rfl⟩
    have h := h n8 en8
    refine j_iinc (pc := 113) (v := n8) (lv' := [(4, .int n8), (0, .ref (V.2.1 40)), (1, .int v1), (2, .int v2), (5, .int v5)]) C dX0_countGrown_113 3 rfl (by rw [en8]; rfl) (by decide) rfl ?_
    refine j_goto (pc := 116) (tgt := 18) C dX0_countGrown_116 (by decide) ?_
    refine gJ.sub [1, 2, 3, 0] rfl ?_
    exact hK18 _ _ h
  · have h := h.2 c6
    refine j_aload_n (pc := 36) C dX0_countGrown_36 rfl 0 rfl ?_
    refine j_getR (pc := 37) C 40 4 49 (c_40 hBL).1 (c_40 hBL).2 rfl rfl (by decide) inw_X0 wd_193 dX0_countGrown_37 ?_
    refine j_iload (pc := 40) C dX0_countGrown_40 4 rfl ?_
    refine j_lconst (pc := 42) (v := 0) C dX0_countGrown_42 (by decide) ?_
    obtain ⟨g9, h⟩ := h
    refine j_last (pc := 43) C 49 (c_49 hBL).1 (c_49 hBL).2 g9 dX0_countGrown_43 ?_
    refine gJ.nmJ (fun J10 eJ10 => ?_)
    have h := h J10 eJ10
    refine j_iconst (pc := 44) (v := 0) C dX0_countGrown_44 (by decide) ?_
    refine j_istore (pc := 45) (lv' := [(6, .int (0 : Int32)), (0, .ref (V.2.1 40)), (1, .int v1), (2, .int v2), (4, .int v4), (5, .int v5)]) C dX0_countGrown_45 (by decide) rfl ?_
    refine gJ.sub [1, 2, 3, 4, 5, 0] rfl ?_
    exact t_X0_countGrown_47 hBL C hX hR  hK18 hK27 h
set_option maxRecDepth 100000 in
set_option maxHeartbeats 4000000 in
theorem t_X0_countGrown_27 {X : gX} {l : Launch} {D : va_G} {cy : Nat → ClassId} {nm : String} {V : gV} (hBL : gModBL V) (C : gC X cX0_countGrown RX0 (some .long) 7 rm_X0_countGrown) (hX : gIs X l D cy nm) {I : gI} {J : gL} {Po : Int64 → gL → Prop} (hR : gR X (gPl V (fun x I' J' => I = I' ∧ Po x J'))) {v1 : Int32} {v2 : Int32} {v4 : Int32} {v5 : Int32} {K18 : Int32 → gL → Prop} (hK18 : ∀ (y4 : Int32) (J1 : gL), K18 y4 J1 → gJ X V 0 0 18 [(0, .ref (V.2.1 40)), (1, .int v1), (2, .int v2), (4, .int y4)] [] I J1) (h : w_X0_countGrown_27 Po K18 v1 v2 v4 v5 I J) : gJ X V 0 0 27 [(0, .ref (V.2.1 40)), (1, .int v1), (2, .int v2), (4, .int v4), (5, .int v5)] [] I J := by
  unfold w_X0_countGrown_27 at h
  obtain ⟨Inv, mu, h0, hs⟩ := h
  have key : ∀ (n : Nat) (v5 : Int32) (J : gL), Inv v5 J → mu v5 J < n → gJ X V 0 0 27 [(0, .ref (V.2.1 40)), (1, .int v1), (2, .int v2), (4, .int v4), (5, .int v5)] [] I J := by
    intro n
    induction n with
    | zero => intro v5 J hi hn; exact absurd hn (Nat.not_lt_zero _)
    | succ n ih =>
      intro v5 J hi hn
      exact t_X0_countGrown_27b hBL C hX hR  hK18 (fun u5 J1 hk => ih u5 J1 hk.1 (Nat.lt_of_lt_of_le hk.2 (Nat.le_of_lt_succ hn))) (hs v5 J hi)
  exact key _ v5 J h0 (Nat.lt_succ_self _)
set_option maxRecDepth 100000 in
set_option maxHeartbeats 4000000 in
theorem t_X0_countGrown_18b {X : gX} {l : Launch} {D : va_G} {cy : Nat → ClassId} {nm : String} {V : gV} (hBL : gModBL V) (C : gC X cX0_countGrown RX0 (some .long) 7 rm_X0_countGrown) (hX : gIs X l D cy nm) {I : gI} {J : gL} {Po : Int64 → gL → Prop} (hR : gR X (gPl V (fun x I' J' => I = I' ∧ Po x J'))) {v1 : Int32} {v2 : Int32} {v4 : Int32} {K18 : Int32 → gL → Prop} (hK18 : ∀ (y4 : Int32) (J1 : gL), K18 y4 J1 → gJ X V 0 0 18 [(0, .ref (V.2.1 40)), (1, .int v1), (2, .int v2), (4, .int y4)] [] I J1) (h : w_X0_countGrown_18b Po K18 v1 v2 v4 I J) : gJ X V 0 0 18 [(0, .ref (V.2.1 40)), (1, .int v1), (2, .int v2), (4, .int v4)] [] I J := by
  unfold w_X0_countGrown_18b at h
  refine j_iload (pc := 18) C dX0_countGrown_18 3 rfl ?_
  refine j_iload_n (pc := 20) C dX0_countGrown_20 rfl 2 rfl ?_
  refine j_icmp_ge (pc := 21) (tgt := 119) C dX0_countGrown_21 (by decide) (fun c4 => ?_) (fun c4 => ?_)
  · have h := h.1 c4
    refine j_aload_n (pc := 119) C dX0_countGrown_119 rfl 0 rfl ?_
    refine j_getR (pc := 120) C 40 3 48 (c_40 hBL).1 (c_40 hBL).2 rfl rfl (by decide) inw_X0 wd_192 dX0_countGrown_120 ?_
    refine j_iload_n (pc := 123) C dX0_countGrown_123 rfl 1 rfl ?_
    obtain ⟨g5, h⟩ := h
    refine j_lald (pc := 124) C 48 (c_48 hBL).1 (c_48 hBL).2 g5 dX0_countGrown_124 ?_
    exact j_lret (pc := 125) C hR (Nat.zero_le _) (Nat.zero_le _) dX0_countGrown_125 ⟨_, rfl, rfl, rfl, h⟩
  · have h := h.2 c4
    refine j_iconst (pc := 24) (v := 0) C dX0_countGrown_24 (by decide) ?_
    refine j_istore (pc := 25) (lv' := [(5, .int (0 : Int32)), (0, .ref (V.2.1 40)), (1, .int v1), (2, .int v2), (4, .int v4)]) C dX0_countGrown_25 (by decide) rfl ?_
    refine gJ.sub [1, 2, 3, 4, 0] rfl ?_
    exact t_X0_countGrown_27 hBL C hX hR  hK18 h
set_option maxRecDepth 100000 in
set_option maxHeartbeats 4000000 in
theorem t_X0_countGrown_18 {X : gX} {l : Launch} {D : va_G} {cy : Nat → ClassId} {nm : String} {V : gV} (hBL : gModBL V) (C : gC X cX0_countGrown RX0 (some .long) 7 rm_X0_countGrown) (hX : gIs X l D cy nm) {I : gI} {J : gL} {Po : Int64 → gL → Prop} (hR : gR X (gPl V (fun x I' J' => I = I' ∧ Po x J'))) {v1 : Int32} {v2 : Int32} {v4 : Int32} (h : w_X0_countGrown_18 Po v1 v2 v4 I J) : gJ X V 0 0 18 [(0, .ref (V.2.1 40)), (1, .int v1), (2, .int v2), (4, .int v4)] [] I J := by
  unfold w_X0_countGrown_18 at h
  obtain ⟨Inv, mu, h0, hs⟩ := h
  have key : ∀ (n : Nat) (v4 : Int32) (J : gL), Inv v4 J → mu v4 J < n → gJ X V 0 0 18 [(0, .ref (V.2.1 40)), (1, .int v1), (2, .int v2), (4, .int v4)] [] I J := by
    intro n
    induction n with
    | zero => intro v4 J hi hn; exact absurd hn (Nat.not_lt_zero _)
    | succ n ih =>
      intro v4 J hi hn
      exact t_X0_countGrown_18b hBL C hX hR   (fun u4 J1 hk => ih u4 J1 hk.1 (Nat.lt_of_lt_of_le hk.2 (Nat.le_of_lt_succ hn))) (hs v4 J hi)
  exact key _ v4 J h0 (Nat.lt_succ_self _)
set_option maxRecDepth 100000 in
set_option maxHeartbeats 4000000 in
theorem m_X0_countGrown {l : Launch} {D : va_G} {cy : Nat → ClassId} {V : gV} (hBL : gModBL V) {a1 : Int32} {a2 : Int32} {a3 : Int32} {I : gI} {J : gL} {Po : Int64 → gL → Prop} (h : wp_X0_countGrown a1 a2 a3 I J Po) : gMet l D cy yX0_countGrown cX0_countGrown 7 (some .long) rm_X0_countGrown V [.ref (V.2.1 40), .int a1, .int a2, .int a3] I J (gPl V (fun x I' J' => I = I' ∧ Po x J')) := by
  refine gMet.of (by decide) (Nat.le_of_ble_eq_true rfl) (fun X hX C hR => ?_)
  have C : gC X cX0_countGrown RX0 (some .long) 7 rm_X0_countGrown := C
  show gJ X V 0 0 0 [(0, .ref (V.2.1 40)), (1, .int a1), (2, .int a2), (3, .int a3)] [] I J
  unfold wp_X0_countGrown at h
  refine j_aload_n (pc := 0) C dX0_countGrown_0 rfl 0 rfl ?_
  refine j_getR (pc := 1) C 40 3 48 (c_40 hBL).1 (c_40 hBL).2 rfl rfl (by decide) inw_X0 wd_192 dX0_countGrown_1 ?_
  refine j_lconst (pc := 4) (v := 0) C dX0_countGrown_4 (by decide) ?_
  refine j_callS (pc := 5) (As := [.ref (V.2.1 48), .long (0 : Int64)]) (st := []) C hX (m_J7_fill_d0a16  (c_48 hBL).1 (c_48 hBL).2 h) ok_J7_fill_d0a16 wd_759 wd_760 ⟨by decide, by decide⟩ rfl rfl (Nat.le_of_ble_eq_true rfl) ⟨Nat.le_refl 0, Nat.le_refl 0⟩ dX0_countGrown_5 (fun r V1 I1 J1 hp => ?_)
  obtain ⟨rfl, rfl, rfl, h⟩ := hp
  show gJ X V 0 0 8 _ [] _ _
  refine j_aload_n (pc := 8) C dX0_countGrown_8 rfl 0 rfl ?_
  refine j_getR (pc := 9) C 40 3 48 (c_40 hBL).1 (c_40 hBL).2 rfl rfl (by decide) inw_X0 wd_192 dX0_countGrown_9 ?_
  refine j_iload_n (pc := 12) C dX0_countGrown_12 rfl 3 rfl ?_
  refine j_lconst (pc := 13) (v := 1) C dX0_countGrown_13 (by decide) ?_
  obtain ⟨g2, h⟩ := h
  refine j_last (pc := 14) C 48 (c_48 hBL).1 (c_48 hBL).2 g2 dX0_countGrown_14 ?_
  refine gJ.nmJ (fun J3 eJ3 => ?_)
  have h := h J3 eJ3
  refine j_iconst (pc := 15) (v := 0) C dX0_countGrown_15 (by decide) ?_
  refine j_istore (pc := 16) (lv' := [(4, .int (0 : Int32)), (0, .ref (V.2.1 40)), (1, .int a1), (2, .int a2), (3, .int a3)]) C dX0_countGrown_16 (by decide) rfl ?_
  refine gJ.sub [1, 2, 3, 0] rfl ?_
  exact t_X0_countGrown_18 hBL C hX hR   h
/-! TileRules$Blocks.firstMixed()I -/
abbrev rm_X0_firstMixed : Room := { frames := 1, cells := 0, slots := 0, locals := 80 }
theorem ok_X0_firstMixed : gOk yX0_firstMixed cX0_firstMixed 5 (some .int) 0 := ⟨wd_842, wd_72, by decide +kernel⟩
def w_X0_firstMixed_62b  (Po : Int32 → gI → Prop) (K27 : Int32 → gI → Prop) (K44 : Int32 → Int32 → gI → Prop) (K62 : Int32 → gI → Prop) (v1 : Int32) (v2 : Int32) (v3 : Int32) (v4 : Int32) (I : gI) : Prop :=
  (((I 40 1) * (I 40 1)) ≤ v4 → vp_in v3 6 ∧ ∀ n12 : Int32, n12 = (v2 &&& (I 51 (v3).toNatClampNeg)) → ∀ n13 : Int32, n13 = v3 + 1 → K44 n12 n13 I) ∧ (¬ ((I 40 1) * (I 40 1)) ≤ v4 → vp_in v3 6 ∧ vp_in v3 6 ∧ vp_in v4 9 ∧ vp_in (I (42 + (v3).toNatClampNeg) (v4).toNatClampNeg) 6 ∧ vp_in v3 6 ∧ ∀ I19 : gI, I19 = gup I 51 (v3).toNatClampNeg ((I 51 (v3).toNatClampNeg) ||| (I 50 ((I (42 + (v3).toNatClampNeg) (v4).toNatClampNeg)).toNatClampNeg)) → ∀ n20 : Int32, n20 = v4 + 1 → K62 n20 I19)
def w_X0_firstMixed_62  (Po : Int32 → gI → Prop) (K27 : Int32 → gI → Prop) (K44 : Int32 → Int32 → gI → Prop) (v1 : Int32) (v2 : Int32) (v3 : Int32) (v4 : Int32) (I : gI) : Prop :=
  ∃ (Inv : Int32 → gI → Prop) (mu : Int32 → gI → Nat), Inv v4 I ∧ ∀ (v4 : Int32) (I : gI), Inv v4 I → w_X0_firstMixed_62b  Po K27 K44 (fun u4 I1 => Inv u4 I1 ∧ mu u4 I1 < mu v4 I) v1 v2 v3 v4 I
def w_X0_firstMixed_44b  (Po : Int32 → gI → Prop) (K27 : Int32 → gI → Prop) (K44 : Int32 → Int32 → gI → Prop) (v1 : Int32) (v2 : Int32) (v3 : Int32) (I : gI) : Prop :=
  ((I 40 0) ≤ v3 → (¬ v2 = (((1 : Int32) <<< ((I 40 0) &&& 31)) - (1 : Int32)) → ∀ I6 : gI, I6 = guc I 50 (va_cpy (I 51) (I 50) 0 0 6) → ∀ n7 : Int32, n7 = v1 + 1 → K27 n7 I6) ∧ (v2 = (((1 : Int32) <<< ((I 40 0) &&& 31)) - (1 : Int32)) → Po v1 I)) ∧ (¬ (I 40 0) ≤ v3 → vp_in v3 6 ∧ ∀ I9 : gI, I9 = gup I 51 (v3).toNatClampNeg (0 : Int32) → w_X0_firstMixed_62 Po K27 K44 v1 v2 v3 (0 : Int32) I9)
def w_X0_firstMixed_44  (Po : Int32 → gI → Prop) (K27 : Int32 → gI → Prop) (v1 : Int32) (v2 : Int32) (v3 : Int32) (I : gI) : Prop :=
  ∃ (Inv : Int32 → Int32 → gI → Prop) (mu : Int32 → Int32 → gI → Nat), Inv v2 v3 I ∧ ∀ (v2 : Int32) (v3 : Int32) (I : gI), Inv v2 v3 I → w_X0_firstMixed_44b  Po K27 (fun u2 u3 I1 => Inv u2 u3 I1 ∧ mu u2 u3 I1 < mu v2 v3 I) v1 v2 v3 I
def w_X0_firstMixed_27b  (Po : Int32 → gI → Prop) (K27 : Int32 → gI → Prop) (v1 : Int32) (I : gI) : Prop :=
  ((26 : Int32) < v1 → Po (-1 : Int32) I) ∧ (¬ (26 : Int32) < v1 → ∀ n3 : Int32, n3 = (((1 : Int32) <<< ((I 40 0) &&& 31)) - (1 : Int32)) → w_X0_firstMixed_44 Po K27 v1 n3 (0 : Int32) I)
def w_X0_firstMixed_27  (Po : Int32 → gI → Prop)  (v1 : Int32) (I : gI) : Prop :=
  ∃ (Inv : Int32 → gI → Prop) (mu : Int32 → gI → Nat), Inv v1 I ∧ ∀ (v1 : Int32) (I : gI), Inv v1 I → w_X0_firstMixed_27b  Po  (fun u1 I1 => Inv u1 I1 ∧ mu u1 I1 < mu v1 I) v1 I
def w_X0_firstMixed_2b  (Po : Int32 → gI → Prop) (K2 : Int32 → gI → Prop) (v1 : Int32) (I : gI) : Prop :=
  ((I 40 0) ≤ v1 → w_X0_firstMixed_27 Po (1 : Int32) I) ∧ (¬ (I 40 0) ≤ v1 → vp_in v1 6 ∧ ∀ I22 : gI, I22 = gup I 50 (v1).toNatClampNeg ((1 : Int32) <<< (v1 &&& 31)) → ∀ n23 : Int32, n23 = v1 + 1 → K2 n23 I22)
def w_X0_firstMixed_2  (Po : Int32 → gI → Prop)  (v1 : Int32) (I : gI) : Prop :=
  ∃ (Inv : Int32 → gI → Prop) (mu : Int32 → gI → Nat), Inv v1 I ∧ ∀ (v1 : Int32) (I : gI), Inv v1 I → w_X0_firstMixed_2b  Po  (fun u1 I1 => Inv u1 I1 ∧ mu u1 I1 < mu v1 I) v1 I
def wp_X0_firstMixed (I : gI) (Po : Int32 → gI → Prop) : Prop :=
  w_X0_firstMixed_2 Po (0 : Int32) I
set_option maxRecDepth 100000 in
set_option maxHeartbeats 4000000 in
theorem t_X0_firstMixed_62b {X : gX} {l : Launch} {D : va_G} {cy : Nat → ClassId} {nm : String} {V : gV} (hBL : gModBL V) (C : gC X cX0_firstMixed RX0 (some .int) 5 rm_X0_firstMixed) (hX : gIs X l D cy nm) {I : gI} {J : gL} {Po : Int32 → gI → Prop} (hR : gR X (gPi V (fun x I' J' => J = J' ∧ Po x I'))) {v1 : Int32} {v2 : Int32} {v3 : Int32} {v4 : Int32} {K27 : Int32 → gI → Prop} {K44 : Int32 → Int32 → gI → Prop} {K62 : Int32 → gI → Prop} (hK27 : ∀ (y1 : Int32) (I1 : gI), K27 y1 I1 → gJ X V 0 0 27 [(0, .ref (V.2.1 40)), (1, .int y1)] [] I1 J) (hK44 : ∀ (y2 : Int32) (y3 : Int32) (I1 : gI), K44 y2 y3 I1 → gJ X V 0 0 44 [(0, .ref (V.2.1 40)), (1, .int v1), (2, .int y2), (3, .int y3)] [] I1 J) (hK62 : ∀ (y4 : Int32) (I1 : gI), K62 y4 I1 → gJ X V 0 0 62 [(0, .ref (V.2.1 40)), (1, .int v1), (2, .int v2), (3, .int v3), (4, .int y4)] [] I1 J) (h : w_X0_firstMixed_62b Po K27 K44 K62 v1 v2 v3 v4 I) : gJ X V 0 0 62 [(0, .ref (V.2.1 40)), (1, .int v1), (2, .int v2), (3, .int v3), (4, .int v4)] [] I J := by
  unfold w_X0_firstMixed_62b at h
  refine j_iload (pc := 62) C dX0_firstMixed_62 4 rfl ?_
  refine j_aload_n (pc := 64) C dX0_firstMixed_64 rfl 0 rfl ?_
  refine j_getI (pc := 65) C 40 1 (c_40 hBL).1 (c_40 hBL).2 rfl rfl (by decide) inw_X0 wd_188 dX0_firstMixed_65 ?_
  refine j_aload_n (pc := 68) C dX0_firstMixed_68 rfl 0 rfl ?_
  refine j_getI (pc := 69) C 40 1 (c_40 hBL).1 (c_40 hBL).2 rfl rfl (by decide) inw_X0 wd_188 dX0_firstMixed_69 ?_
  refine j_imul (pc := 72) C dX0_firstMixed_72 ?_
  refine j_icmp_ge (pc := 73) (tgt := 105) C dX0_firstMixed_73 (by decide) (fun c10 => ?_) (fun c10 => ?_)
  · have h := h.1 c10
    refine j_iload_n (pc := 105) C dX0_firstMixed_105 rfl 2 rfl ?_
    refine j_aload_n (pc := 106) C dX0_firstMixed_106 rfl 0 rfl ?_
    refine j_getR (pc := 107) C 40 6 51 (c_40 hBL).1 (c_40 hBL).2 rfl rfl (by decide) inw_X0 wd_195 dX0_firstMixed_107 ?_
    refine j_iload_n (pc := 110) C dX0_firstMixed_110 rfl 3 rfl ?_
    obtain ⟨g11, h⟩ := h
    refine j_iald (pc := 111) C 51 (c_51 hBL).1 (c_51 hBL).2 g11 dX0_firstMixed_111 ?_
    refine j_iand (pc := 112) C dX0_firstMixed_112 ?_
    refine gJ.topi (fun n12 en12 => ?_)
    have h := h n12 en12
    refine j_istore_n (pc := 113) (lv' := [(2, .int n12), (0, .ref (V.2.1 40)), (1, .int v1), (3, .int v3), (4, .int v4)]) C dX0_firstMixed_113 rfl (by decide) rfl ?_
    obtain ⟨n13, en13⟩ : ∃ z : Int32, z = v3 + 1 := ⟨_, rfl⟩
    have h := h n13 en13
    refine j_iinc (pc := 114) (v := n13) (lv' := [(3, .int n13), (2, .int n12), (0, .ref (V.2.1 40)), (1, .int v1), (4, .int v4)]) C dX0_firstMixed_114 3 rfl (by rw [en13]; rfl) (by decide) rfl ?_
    refine j_goto (pc := 117) (tgt := 44) C dX0_firstMixed_117 (by decide) ?_
    refine gJ.sub [2, 3, 1, 0] rfl ?_
    exact hK44 _ _ _ h
  · have h := h.2 c10
    refine j_aload_n (pc := 76) C dX0_firstMixed_76 rfl 0 rfl ?_
    refine j_getR (pc := 77) C 40 6 51 (c_40 hBL).1 (c_40 hBL).2 rfl rfl (by decide) inw_X0 wd_195 dX0_firstMixed_77 ?_
    refine j_iload_n (pc := 80) C dX0_firstMixed_80 rfl 3 rfl ?_
    refine j_dup2_11 (pc := 81) C dX0_firstMixed_81 rfl rfl ?_
    obtain ⟨g14, h⟩ := h
    refine j_iald (pc := 82) C 51 (c_51 hBL).1 (c_51 hBL).2 g14 dX0_firstMixed_82 ?_
    refine j_aload_n (pc := 83) C dX0_firstMixed_83 rfl 0 rfl ?_
    refine j_getR (pc := 84) C 40 5 50 (c_40 hBL).1 (c_40 hBL).2 rfl rfl (by decide) inw_X0 wd_194 dX0_firstMixed_84 ?_
    refine j_aload_n (pc := 87) C dX0_firstMixed_87 rfl 0 rfl ?_
    refine j_getR (pc := 88) C 40 2 41 (c_40 hBL).1 (c_40 hBL).2 rfl rfl (by decide) inw_X0 wd_191 dX0_firstMixed_88 ?_
    refine j_iload_n (pc := 91) C dX0_firstMixed_91 rfl 3 rfl ?_
    obtain ⟨g15, h⟩ := h
    refine j_aald (pc := 92) C 41 (42 + (v3).toNatClampNeg) (c_41 hBL).1 (c_41 hBL).2 g15 (gfam_at (vp_in_lt g15)) dX0_firstMixed_92 ?_
    refine j_iload (pc := 93) C dX0_firstMixed_93 4 rfl ?_
    obtain ⟨g16, h⟩ := h
    refine j_iald (pc := 95) C (42 + (v3).toNatClampNeg) (f_42 hBL (vp_in_lt g15)).1 (f_42 hBL (vp_in_lt g15)).2 g16 dX0_firstMixed_95 ?_
    obtain ⟨g17, h⟩ := h
    refine j_iald (pc := 96) C 50 (c_50 hBL).1 (c_50 hBL).2 g17 dX0_firstMixed_96 ?_
    refine j_ior (pc := 97) C dX0_firstMixed_97 ?_
    obtain ⟨g18, h⟩ := h
    refine j_iast (pc := 98) C 51 (c_51 hBL).1 (c_51 hBL).2 g18 dX0_firstMixed_98 ?_
    refine gJ.nmI (fun I19 eI19 => ?_)
    have h := h I19 eI19
    obtain ⟨n20, en20⟩ : ∃ z : Int32, z = v4 + 1 := ⟨_, rfl⟩
    have h := h n20 en20
    refine j_iinc (pc := 99) (v := n20) (lv' := [(4, .int n20), (0, .ref (V.2.1 40)), (1, .int v1), (2, .int v2), (3, .int v3)]) C dX0_firstMixed_99 4 rfl (by rw [en20]; rfl) (by decide) rfl ?_
    refine j_goto (pc := 102) (tgt := 62) C dX0_firstMixed_102 (by decide) ?_
    refine gJ.sub [1, 2, 3, 4, 0] rfl ?_
    exact hK62 _ _ h
set_option maxRecDepth 100000 in
set_option maxHeartbeats 4000000 in
theorem t_X0_firstMixed_62 {X : gX} {l : Launch} {D : va_G} {cy : Nat → ClassId} {nm : String} {V : gV} (hBL : gModBL V) (C : gC X cX0_firstMixed RX0 (some .int) 5 rm_X0_firstMixed) (hX : gIs X l D cy nm) {I : gI} {J : gL} {Po : Int32 → gI → Prop} (hR : gR X (gPi V (fun x I' J' => J = J' ∧ Po x I'))) {v1 : Int32} {v2 : Int32} {v3 : Int32} {v4 : Int32} {K27 : Int32 → gI → Prop} {K44 : Int32 → Int32 → gI → Prop} (hK27 : ∀ (y1 : Int32) (I1 : gI), K27 y1 I1 → gJ X V 0 0 27 [(0, .ref (V.2.1 40)), (1, .int y1)] [] I1 J) (hK44 : ∀ (y2 : Int32) (y3 : Int32) (I1 : gI), K44 y2 y3 I1 → gJ X V 0 0 44 [(0, .ref (V.2.1 40)), (1, .int v1), (2, .int y2), (3, .int y3)] [] I1 J) (h : w_X0_firstMixed_62 Po K27 K44 v1 v2 v3 v4 I) : gJ X V 0 0 62 [(0, .ref (V.2.1 40)), (1, .int v1), (2, .int v2), (3, .int v3), (4, .int v4)] [] I J := by
  unfold w_X0_firstMixed_62 at h
  obtain ⟨Inv, mu, h0, hs⟩ := h
  have key : ∀ (n : Nat) (v4 : Int32) (I : gI), Inv v4 I → mu v4 I < n → gJ X V 0 0 62 [(0, .ref (V.2.1 40)), (1, .int v1), (2, .int v2), (3, .int v3), (4, .int v4)] [] I J := by
    intro n
    induction n with
    | zero => intro v4 I hi hn; exact absurd hn (Nat.not_lt_zero _)
    | succ n ih =>
      intro v4 I hi hn
      exact t_X0_firstMixed_62b hBL C hX hR  hK27 hK44 (fun u4 I1 hk => ih u4 I1 hk.1 (Nat.lt_of_lt_of_le hk.2 (Nat.le_of_lt_succ hn))) (hs v4 I hi)
  exact key _ v4 I h0 (Nat.lt_succ_self _)
set_option maxRecDepth 100000 in
set_option maxHeartbeats 4000000 in
theorem t_X0_firstMixed_44b {X : gX} {l : Launch} {D : va_G} {cy : Nat → ClassId} {nm : String} {V : gV} (hBL : gModBL V) (C : gC X cX0_firstMixed RX0 (some .int) 5 rm_X0_firstMixed) (hX : gIs X l D cy nm) {I : gI} {J : gL} {Po : Int32 → gI → Prop} (hR : gR X (gPi V (fun x I' J' => J = J' ∧ Po x I'))) {v1 : Int32} {v2 : Int32} {v3 : Int32} {K27 : Int32 → gI → Prop} {K44 : Int32 → Int32 → gI → Prop} (hK27 : ∀ (y1 : Int32) (I1 : gI), K27 y1 I1 → gJ X V 0 0 27 [(0, .ref (V.2.1 40)), (1, .int y1)] [] I1 J) (hK44 : ∀ (y2 : Int32) (y3 : Int32) (I1 : gI), K44 y2 y3 I1 → gJ X V 0 0 44 [(0, .ref (V.2.1 40)), (1, .int v1), (2, .int y2), (3, .int y3)] [] I1 J) (h : w_X0_firstMixed_44b Po K27 K44 v1 v2 v3 I) : gJ X V 0 0 44 [(0, .ref (V.2.1 40)), (1, .int v1), (2, .int v2), (3, .int v3)] [] I J := by
  unfold w_X0_firstMixed_44b at h
  refine j_iload_n (pc := 44) C dX0_firstMixed_44 rfl 3 rfl ?_
  refine j_aload_n (pc := 45) C dX0_firstMixed_45 rfl 0 rfl ?_
  refine j_getI (pc := 46) C 40 0 (c_40 hBL).1 (c_40 hBL).2 rfl rfl (by decide) inw_X0 wd_185 dX0_firstMixed_46 ?_
  refine j_icmp_ge (pc := 49) (tgt := 120) C dX0_firstMixed_49 (by decide) (fun c4 => ?_) (fun c4 => ?_)
  · have h := h.1 c4
    refine j_iload_n (pc := 120) C dX0_firstMixed_120 rfl 2 rfl ?_
    refine j_iconst (pc := 121) (v := 1) C dX0_firstMixed_121 (by decide) ?_
    refine j_aload_n (pc := 122) C dX0_firstMixed_122 rfl 0 rfl ?_
    refine j_getI (pc := 123) C 40 0 (c_40 hBL).1 (c_40 hBL).2 rfl rfl (by decide) inw_X0 wd_185 dX0_firstMixed_123 ?_
    refine j_ishl (pc := 126) C dX0_firstMixed_126 ?_
    refine j_iconst (pc := 127) (v := 1) C dX0_firstMixed_127 (by decide) ?_
    refine j_isub (pc := 128) C dX0_firstMixed_128 ?_
    refine j_icmp_ne (pc := 129) (tgt := 134) C dX0_firstMixed_129 (by decide) (fun c5 => ?_) (fun c5 => ?_)
    · have h := h.1 c5
      refine j_aload_n (pc := 134) C dX0_firstMixed_134 rfl 0 rfl ?_
      refine j_getR (pc := 135) C 40 6 51 (c_40 hBL).1 (c_40 hBL).2 rfl rfl (by decide) inw_X0 wd_195 dX0_firstMixed_135 ?_
      refine j_iconst (pc := 138) (v := 0) C dX0_firstMixed_138 (by decide) ?_
      refine j_aload_n (pc := 139) C dX0_firstMixed_139 rfl 0 rfl ?_
      refine j_getR (pc := 140) C 40 5 50 (c_40 hBL).1 (c_40 hBL).2 rfl rfl (by decide) inw_X0 wd_194 dX0_firstMixed_140 ?_
      refine j_iconst (pc := 143) (v := 0) C dX0_firstMixed_143 (by decide) ?_
      refine j_bipush (pc := 144) (v := 6) C dX0_firstMixed_144 (by decide) ?_
      refine j_cpyI (pc := 146) (N := 6) C 51 50 (c_51 hBL).1 (c_51 hBL).2 (c_50 hBL).1 (c_50 hBL).2 wd_762 wd_764 wd_763 wd_82 (by decide) (by decide) (by decide) (by decide) (by decide) (by decide) dX0_firstMixed_146 ?_
      refine gJ.nmI (fun I6 eI6 => ?_)
      have h := h I6 eI6
      obtain ⟨n7, en7⟩ : ∃ z : Int32, z = v1 + 1 := ⟨_, rfl⟩
      have h := h n7 en7
      refine j_iinc (pc := 149) (v := n7) (lv' := [(1, .int n7), (0, .ref (V.2.1 40)), (2, .int v2), (3, .int v3)]) C dX0_firstMixed_149 1 rfl (by rw [en7]; rfl) (by decide) rfl ?_
      refine j_goto (pc := 152) (tgt := 27) C dX0_firstMixed_152 (by decide) ?_
      refine gJ.sub [1, 0] rfl ?_
      exact hK27 _ _ h
    · have h := h.2 c5
      refine j_iload_n (pc := 132) C dX0_firstMixed_132 rfl 1 rfl ?_
      exact j_iret (pc := 133) C hR (Nat.zero_le _) (Nat.zero_le _) dX0_firstMixed_133 ⟨_, rfl, rfl, rfl, h⟩
  · have h := h.2 c4
    refine j_aload_n (pc := 52) C dX0_firstMixed_52 rfl 0 rfl ?_
    refine j_getR (pc := 53) C 40 6 51 (c_40 hBL).1 (c_40 hBL).2 rfl rfl (by decide) inw_X0 wd_195 dX0_firstMixed_53 ?_
    refine j_iload_n (pc := 56) C dX0_firstMixed_56 rfl 3 rfl ?_
    refine j_iconst (pc := 57) (v := 0) C dX0_firstMixed_57 (by decide) ?_
    obtain ⟨g8, h⟩ := h
    refine j_iast (pc := 58) C 51 (c_51 hBL).1 (c_51 hBL).2 g8 dX0_firstMixed_58 ?_
    refine gJ.nmI (fun I9 eI9 => ?_)
    have h := h I9 eI9
    refine j_iconst (pc := 59) (v := 0) C dX0_firstMixed_59 (by decide) ?_
    refine j_istore (pc := 60) (lv' := [(4, .int (0 : Int32)), (0, .ref (V.2.1 40)), (1, .int v1), (2, .int v2), (3, .int v3)]) C dX0_firstMixed_60 (by decide) rfl ?_
    refine gJ.sub [1, 2, 3, 4, 0] rfl ?_
    exact t_X0_firstMixed_62 hBL C hX hR  hK27 hK44 h
set_option maxRecDepth 100000 in
set_option maxHeartbeats 4000000 in
theorem t_X0_firstMixed_44 {X : gX} {l : Launch} {D : va_G} {cy : Nat → ClassId} {nm : String} {V : gV} (hBL : gModBL V) (C : gC X cX0_firstMixed RX0 (some .int) 5 rm_X0_firstMixed) (hX : gIs X l D cy nm) {I : gI} {J : gL} {Po : Int32 → gI → Prop} (hR : gR X (gPi V (fun x I' J' => J = J' ∧ Po x I'))) {v1 : Int32} {v2 : Int32} {v3 : Int32} {K27 : Int32 → gI → Prop} (hK27 : ∀ (y1 : Int32) (I1 : gI), K27 y1 I1 → gJ X V 0 0 27 [(0, .ref (V.2.1 40)), (1, .int y1)] [] I1 J) (h : w_X0_firstMixed_44 Po K27 v1 v2 v3 I) : gJ X V 0 0 44 [(0, .ref (V.2.1 40)), (1, .int v1), (2, .int v2), (3, .int v3)] [] I J := by
  unfold w_X0_firstMixed_44 at h
  obtain ⟨Inv, mu, h0, hs⟩ := h
  have key : ∀ (n : Nat) (v2 : Int32) (v3 : Int32) (I : gI), Inv v2 v3 I → mu v2 v3 I < n → gJ X V 0 0 44 [(0, .ref (V.2.1 40)), (1, .int v1), (2, .int v2), (3, .int v3)] [] I J := by
    intro n
    induction n with
    | zero => intro v2 v3 I hi hn; exact absurd hn (Nat.not_lt_zero _)
    | succ n ih =>
      intro v2 v3 I hi hn
      exact t_X0_firstMixed_44b hBL C hX hR  hK27 (fun u2 u3 I1 hk => ih u2 u3 I1 hk.1 (Nat.lt_of_lt_of_le hk.2 (Nat.le_of_lt_succ hn))) (hs v2 v3 I hi)
  exact key _ v2 v3 I h0 (Nat.lt_succ_self _)
set_option maxRecDepth 100000 in
set_option maxHeartbeats 4000000 in
theorem t_X0_firstMixed_27b {X : gX} {l : Launch} {D : va_G} {cy : Nat → ClassId} {nm : String} {V : gV} (hBL : gModBL V) (C : gC X cX0_firstMixed RX0 (some .int) 5 rm_X0_firstMixed) (hX : gIs X l D cy nm) {I : gI} {J : gL} {Po : Int32 → gI → Prop} (hR : gR X (gPi V (fun x I' J' => J = J' ∧ Po x I'))) {v1 : Int32} {K27 : Int32 → gI → Prop} (hK27 : ∀ (y1 : Int32) (I1 : gI), K27 y1 I1 → gJ X V 0 0 27 [(0, .ref (V.2.1 40)), (1, .int y1)] [] I1 J) (h : w_X0_firstMixed_27b Po K27 v1 I) : gJ X V 0 0 27 [(0, .ref (V.2.1 40)), (1, .int v1)] [] I J := by
  unfold w_X0_firstMixed_27b at h
  refine j_iload_n (pc := 27) C dX0_firstMixed_27 rfl 1 rfl ?_
  refine j_bipush (pc := 28) (v := 26) C dX0_firstMixed_28 (by decide) ?_
  refine j_icmp_gt (pc := 30) (tgt := 155) C dX0_firstMixed_30 (by decide) (fun c2 => ?_) (fun c2 => ?_)
  · have h := h.1 c2
    refine j_iconst (pc := 155) (v := (-1)) C dX0_firstMixed_155 (by decide) ?_
    exact j_iret (pc := 156) C hR (Nat.zero_le _) (Nat.zero_le _) dX0_firstMixed_156 ⟨_, rfl, rfl, rfl, h⟩
  · have h := h.2 c2
    refine j_iconst (pc := 33) (v := 1) C dX0_firstMixed_33 (by decide) ?_
    refine j_aload_n (pc := 34) C dX0_firstMixed_34 rfl 0 rfl ?_
    refine j_getI (pc := 35) C 40 0 (c_40 hBL).1 (c_40 hBL).2 rfl rfl (by decide) inw_X0 wd_185 dX0_firstMixed_35 ?_
    refine j_ishl (pc := 38) C dX0_firstMixed_38 ?_
    refine j_iconst (pc := 39) (v := 1) C dX0_firstMixed_39 (by decide) ?_
    refine j_isub (pc := 40) C dX0_firstMixed_40 ?_
    refine gJ.topi (fun n3 en3 => ?_)
    have h := h n3 en3
    refine j_istore_n (pc := 41) (lv' := [(2, .int n3), (0, .ref (V.2.1 40)), (1, .int v1)]) C dX0_firstMixed_41 rfl (by decide) rfl ?_
    refine j_iconst (pc := 42) (v := 0) C dX0_firstMixed_42 (by decide) ?_
    refine j_istore_n (pc := 43) (lv' := [(3, .int (0 : Int32)), (2, .int n3), (0, .ref (V.2.1 40)), (1, .int v1)]) C dX0_firstMixed_43 rfl (by decide) rfl ?_
    refine gJ.sub [2, 3, 1, 0] rfl ?_
    exact t_X0_firstMixed_44 hBL C hX hR  hK27 h
set_option maxRecDepth 100000 in
set_option maxHeartbeats 4000000 in
theorem t_X0_firstMixed_27 {X : gX} {l : Launch} {D : va_G} {cy : Nat → ClassId} {nm : String} {V : gV} (hBL : gModBL V) (C : gC X cX0_firstMixed RX0 (some .int) 5 rm_X0_firstMixed) (hX : gIs X l D cy nm) {I : gI} {J : gL} {Po : Int32 → gI → Prop} (hR : gR X (gPi V (fun x I' J' => J = J' ∧ Po x I'))) {v1 : Int32} (h : w_X0_firstMixed_27 Po v1 I) : gJ X V 0 0 27 [(0, .ref (V.2.1 40)), (1, .int v1)] [] I J := by
  unfold w_X0_firstMixed_27 at h
  obtain ⟨Inv, mu, h0, hs⟩ := h
  have key : ∀ (n : Nat) (v1 : Int32) (I : gI), Inv v1 I → mu v1 I < n → gJ X V 0 0 27 [(0, .ref (V.2.1 40)), (1, .int v1)] [] I J := by
    intro n
    induction n with
    | zero => intro v1 I hi hn; exact absurd hn (Nat.not_lt_zero _)
    | succ n ih =>
      intro v1 I hi hn
      exact t_X0_firstMixed_27b hBL C hX hR   (fun u1 I1 hk => ih u1 I1 hk.1 (Nat.lt_of_lt_of_le hk.2 (Nat.le_of_lt_succ hn))) (hs v1 I hi)
  exact key _ v1 I h0 (Nat.lt_succ_self _)
set_option maxRecDepth 100000 in
set_option maxHeartbeats 4000000 in
theorem t_X0_firstMixed_2b {X : gX} {l : Launch} {D : va_G} {cy : Nat → ClassId} {nm : String} {V : gV} (hBL : gModBL V) (C : gC X cX0_firstMixed RX0 (some .int) 5 rm_X0_firstMixed) (hX : gIs X l D cy nm) {I : gI} {J : gL} {Po : Int32 → gI → Prop} (hR : gR X (gPi V (fun x I' J' => J = J' ∧ Po x I'))) {v1 : Int32} {K2 : Int32 → gI → Prop} (hK2 : ∀ (y1 : Int32) (I1 : gI), K2 y1 I1 → gJ X V 0 0 2 [(0, .ref (V.2.1 40)), (1, .int y1)] [] I1 J) (h : w_X0_firstMixed_2b Po K2 v1 I) : gJ X V 0 0 2 [(0, .ref (V.2.1 40)), (1, .int v1)] [] I J := by
  unfold w_X0_firstMixed_2b at h
  refine j_iload_n (pc := 2) C dX0_firstMixed_2 rfl 1 rfl ?_
  refine j_aload_n (pc := 3) C dX0_firstMixed_3 rfl 0 rfl ?_
  refine j_getI (pc := 4) C 40 0 (c_40 hBL).1 (c_40 hBL).2 rfl rfl (by decide) inw_X0 wd_185 dX0_firstMixed_4 ?_
  refine j_icmp_ge (pc := 7) (tgt := 25) C dX0_firstMixed_7 (by decide) (fun c1 => ?_) (fun c1 => ?_)
  · have h := h.1 c1
    refine j_iconst (pc := 25) (v := 1) C dX0_firstMixed_25 (by decide) ?_
    refine j_istore_n (pc := 26) (lv' := [(1, .int (1 : Int32)), (0, .ref (V.2.1 40))]) C dX0_firstMixed_26 rfl (by decide) rfl ?_
    refine gJ.sub [1, 0] rfl ?_
    exact t_X0_firstMixed_27 hBL C hX hR   h
  · have h := h.2 c1
    refine j_aload_n (pc := 10) C dX0_firstMixed_10 rfl 0 rfl ?_
    refine j_getR (pc := 11) C 40 5 50 (c_40 hBL).1 (c_40 hBL).2 rfl rfl (by decide) inw_X0 wd_194 dX0_firstMixed_11 ?_
    refine j_iload_n (pc := 14) C dX0_firstMixed_14 rfl 1 rfl ?_
    refine j_iconst (pc := 15) (v := 1) C dX0_firstMixed_15 (by decide) ?_
    refine j_iload_n (pc := 16) C dX0_firstMixed_16 rfl 1 rfl ?_
    refine j_ishl (pc := 17) C dX0_firstMixed_17 ?_
    obtain ⟨g21, h⟩ := h
    refine j_iast (pc := 18) C 50 (c_50 hBL).1 (c_50 hBL).2 g21 dX0_firstMixed_18 ?_
    refine gJ.nmI (fun I22 eI22 => ?_)
    have h := h I22 eI22
    obtain ⟨n23, en23⟩ : ∃ z : Int32, z = v1 + 1 := ⟨_, rfl⟩
    have h := h n23 en23
    refine j_iinc (pc := 19) (v := n23) (lv' := [(1, .int n23), (0, .ref (V.2.1 40))]) C dX0_firstMixed_19 1 rfl (by rw [en23]; rfl) (by decide) rfl ?_
    refine j_goto (pc := 22) (tgt := 2) C dX0_firstMixed_22 (by decide) ?_
    refine gJ.sub [1, 0] rfl ?_
    exact hK2 _ _ h
set_option maxRecDepth 100000 in
set_option maxHeartbeats 4000000 in
theorem t_X0_firstMixed_2 {X : gX} {l : Launch} {D : va_G} {cy : Nat → ClassId} {nm : String} {V : gV} (hBL : gModBL V) (C : gC X cX0_firstMixed RX0 (some .int) 5 rm_X0_firstMixed) (hX : gIs X l D cy nm) {I : gI} {J : gL} {Po : Int32 → gI → Prop} (hR : gR X (gPi V (fun x I' J' => J = J' ∧ Po x I'))) {v1 : Int32} (h : w_X0_firstMixed_2 Po v1 I) : gJ X V 0 0 2 [(0, .ref (V.2.1 40)), (1, .int v1)] [] I J := by
  unfold w_X0_firstMixed_2 at h
  obtain ⟨Inv, mu, h0, hs⟩ := h
  have key : ∀ (n : Nat) (v1 : Int32) (I : gI), Inv v1 I → mu v1 I < n → gJ X V 0 0 2 [(0, .ref (V.2.1 40)), (1, .int v1)] [] I J := by
    intro n
    induction n with
    | zero => intro v1 I hi hn; exact absurd hn (Nat.not_lt_zero _)
    | succ n ih =>
      intro v1 I hi hn
      exact t_X0_firstMixed_2b hBL C hX hR   (fun u1 I1 hk => ih u1 I1 hk.1 (Nat.lt_of_lt_of_le hk.2 (Nat.le_of_lt_succ hn))) (hs v1 I hi)
  exact key _ v1 I h0 (Nat.lt_succ_self _)
set_option maxRecDepth 100000 in
set_option maxHeartbeats 4000000 in
theorem m_X0_firstMixed {l : Launch} {D : va_G} {cy : Nat → ClassId} {V : gV} (hBL : gModBL V) {I : gI} {J : gL} {Po : Int32 → gI → Prop} (h : wp_X0_firstMixed I Po) : gMet l D cy yX0_firstMixed cX0_firstMixed 5 (some .int) rm_X0_firstMixed V [.ref (V.2.1 40)] I J (gPi V (fun x I' J' => J = J' ∧ Po x I')) := by
  refine gMet.of (by decide) (Nat.le_of_ble_eq_true rfl) (fun X hX C hR => ?_)
  have C : gC X cX0_firstMixed RX0 (some .int) 5 rm_X0_firstMixed := C
  show gJ X V 0 0 0 [(0, .ref (V.2.1 40))] [] I J
  unfold wp_X0_firstMixed at h
  refine j_iconst (pc := 0) (v := 0) C dX0_firstMixed_0 (by decide) ?_
  refine j_istore_n (pc := 1) (lv' := [(1, .int (0 : Int32)), (0, .ref (V.2.1 40))]) C dX0_firstMixed_1 rfl (by decide) rfl ?_
  refine gJ.sub [1, 0] rfl ?_
  exact t_X0_firstMixed_2 hBL C hX hR   h
/-! TileRules$CornerSet.has(I)Z -/
abbrev rm_X1_has : Room := { frames := 0, cells := 0, slots := 0, locals := 0 }
theorem ok_X1_has : gOk yX1_has cX1_has 2 (some .boolean) 1 := ⟨wd_893, wd_73, by decide +kernel⟩
def wp_X1_has (a1 : Int32) (I : gI) (Po : Int32 → Prop) : Prop :=
  ((((I 60 5) >>> (a1 &&& 31)) &&& (1 : Int32)) = 0 → Po (0 : Int32)) ∧ (¬ (((I 60 5) >>> (a1 &&& 31)) &&& (1 : Int32)) = 0 → Po (1 : Int32))
set_option maxRecDepth 100000 in
set_option maxHeartbeats 4000000 in
theorem m_X1_has {l : Launch} {D : va_G} {cy : Nat → ClassId} {V : gV} (hCO : gModCO V) {a1 : Int32} {I : gI} {J : gL} {Po : Int32 → Prop} (h : wp_X1_has a1 I Po) : gMet l D cy yX1_has cX1_has 2 (some .boolean) rm_X1_has V [.ref (V.2.1 60), .int a1] I J (gPi V (fun x I' J' => I = I' ∧ J = J' ∧ Po x)) := by
  refine gMet.of (by decide) (Nat.le_of_ble_eq_true rfl) (fun X hX C hR => ?_)
  have C : gC X cX1_has RX1 (some .boolean) 2 rm_X1_has := C
  show gJ X V 0 0 0 [(0, .ref (V.2.1 60)), (1, .int a1)] [] I J
  unfold wp_X1_has at h
  refine j_aload_n (pc := 0) C dX1_has_0 rfl 0 rfl ?_
  refine j_getI (pc := 1) C 60 5 (c_60 hCO).1 (c_60 hCO).2 rfl rfl (by decide) inw_X1 wd_227 dX1_has_1 ?_
  refine j_iload_n (pc := 4) C dX1_has_4 rfl 1 rfl ?_
  refine j_ishr (pc := 5) C dX1_has_5 ?_
  refine j_iconst (pc := 6) (v := 1) C dX1_has_6 (by decide) ?_
  refine j_iand (pc := 7) C dX1_has_7 ?_
  refine j_if_eq (pc := 8) (tgt := 15) C dX1_has_8 (by decide) (fun c1 => ?_) (fun c1 => ?_)
  · have h := h.1 c1
    refine j_iconst (pc := 15) (v := 0) C dX1_has_15 (by decide) ?_
    exact j_zret (pc := 16) C hR (Or.inl rfl) (Nat.zero_le _) (Nat.zero_le _) dX1_has_16 ⟨_, rfl, rfl, rfl, rfl, h⟩
  · have h := h.2 c1
    refine j_iconst (pc := 11) (v := 1) C dX1_has_11 (by decide) ?_
    refine j_goto (pc := 12) (tgt := 16) C dX1_has_12 (by decide) ?_
    exact j_zret (pc := 16) C hR (Or.inr rfl) (Nat.zero_le _) (Nat.zero_le _) dX1_has_16 ⟨_, rfl, rfl, rfl, rfl, h⟩
/-! TileRules$CornerSet.add(I)I -/
abbrev rm_X1_add : Room := { frames := 0, cells := 0, slots := 0, locals := 0 }
theorem ok_X1_add : gOk yX1_add cX1_add 2 (some .int) 1 := ⟨wd_897, wd_73, by decide +kernel⟩
def wp_X1_add (a1 : Int32) (I : gI) (Po : Int32 → gI → Prop) : Prop :=
  vp_in (I 60 0) 6 ∧ ∀ I2 : gI, I2 = gup I 62 ((I 60 0)).toNatClampNeg a1 → ∀ I3 : gI, I3 = gup I2 60 5 ((I2 60 5) ||| ((1 : Int32) <<< (a1 &&& 31))) → ∀ I4 : gI, I4 = gup I3 60 0 ((I3 60 0) + (1 : Int32)) → Po (I4 60 0) I4
set_option maxRecDepth 100000 in
set_option maxHeartbeats 4000000 in
theorem m_X1_add {l : Launch} {D : va_G} {cy : Nat → ClassId} {V : gV} (hCO : gModCO V) {a1 : Int32} {I : gI} {J : gL} {Po : Int32 → gI → Prop} (h : wp_X1_add a1 I Po) : gMet l D cy yX1_add cX1_add 2 (some .int) rm_X1_add V [.ref (V.2.1 60), .int a1] I J (gPi V (fun x I' J' => J = J' ∧ Po x I')) := by
  refine gMet.of (by decide) (Nat.le_of_ble_eq_true rfl) (fun X hX C hR => ?_)
  have C : gC X cX1_add RX1 (some .int) 2 rm_X1_add := C
  show gJ X V 0 0 0 [(0, .ref (V.2.1 60)), (1, .int a1)] [] I J
  unfold wp_X1_add at h
  refine j_aload_n (pc := 0) C dX1_add_0 rfl 0 rfl ?_
  refine j_getR (pc := 1) C 60 4 62 (c_60 hCO).1 (c_60 hCO).2 rfl rfl (by decide) inw_X1 wd_226 dX1_add_1 ?_
  refine j_aload_n (pc := 4) C dX1_add_4 rfl 0 rfl ?_
  refine j_getI (pc := 5) C 60 0 (c_60 hCO).1 (c_60 hCO).2 rfl rfl (by decide) inw_X1 wd_218 dX1_add_5 ?_
  refine j_iload_n (pc := 8) C dX1_add_8 rfl 1 rfl ?_
  obtain ⟨g1, h⟩ := h
  refine j_iast (pc := 9) C 62 (c_62 hCO).1 (c_62 hCO).2 g1 dX1_add_9 ?_
  refine gJ.nmI (fun I2 eI2 => ?_)
  have h := h I2 eI2
  refine j_aload_n (pc := 10) C dX1_add_10 rfl 0 rfl ?_
  refine j_dup (pc := 11) C dX1_add_11 rfl ?_
  refine j_getI (pc := 12) C 60 5 (c_60 hCO).1 (c_60 hCO).2 rfl rfl (by decide) inw_X1 wd_227 dX1_add_12 ?_
  refine j_iconst (pc := 15) (v := 1) C dX1_add_15 (by decide) ?_
  refine j_iload_n (pc := 16) C dX1_add_16 rfl 1 rfl ?_
  refine j_ishl (pc := 17) C dX1_add_17 ?_
  refine j_ior (pc := 18) C dX1_add_18 ?_
  refine j_putI (pc := 19) (ft := .int) C tyX1 tyX1_ok nmX1 60 5 (c_60 hCO).1 (c_60 hCO).2 rfl rfl (by decide) inw_X1 wd_227 rfl (by decide +kernel) rfl rfl dX1_add_19 ?_
  refine gJ.nmI (fun I3 eI3 => ?_)
  have h := h I3 eI3
  refine j_aload_n (pc := 22) C dX1_add_22 rfl 0 rfl ?_
  refine j_dup (pc := 23) C dX1_add_23 rfl ?_
  refine j_getI (pc := 24) C 60 0 (c_60 hCO).1 (c_60 hCO).2 rfl rfl (by decide) inw_X1 wd_218 dX1_add_24 ?_
  refine j_iconst (pc := 27) (v := 1) C dX1_add_27 (by decide) ?_
  refine j_iadd (pc := 28) C dX1_add_28 ?_
  refine j_putI (pc := 29) (ft := .int) C tyX1 tyX1_ok nmX1 60 0 (c_60 hCO).1 (c_60 hCO).2 rfl rfl (by decide) inw_X1 wd_218 rfl (by decide +kernel) rfl rfl dX1_add_29 ?_
  refine gJ.nmI (fun I4 eI4 => ?_)
  have h := h I4 eI4
  refine j_aload_n (pc := 32) C dX1_add_32 rfl 0 rfl ?_
  refine j_getI (pc := 33) C 60 0 (c_60 hCO).1 (c_60 hCO).2 rfl rfl (by decide) inw_X1 wd_218 dX1_add_33 ?_
  exact j_iret (pc := 36) C hR (Nat.zero_le _) (Nat.zero_le _) dX1_add_36 ⟨_, rfl, rfl, rfl, h⟩
/-! TileRules$CornerSet.dropLast()I -/
abbrev rm_X1_dropLast : Room := { frames := 0, cells := 0, slots := 0, locals := 0 }
theorem ok_X1_dropLast : gOk yX1_dropLast cX1_dropLast 1 (some .int) 0 := ⟨wd_905, wd_73, by decide +kernel⟩
def wp_X1_dropLast (I : gI) (Po : Int32 → gI → Prop) : Prop :=
  ∀ I1 : gI, I1 = gup I 60 0 ((I 60 0) - (1 : Int32)) → vp_in (I1 60 0) 6 ∧ ∀ I3 : gI, I3 = gup I1 60 5 ((I1 60 5) &&& (((1 : Int32) <<< ((I1 62 ((I1 60 0)).toNatClampNeg) &&& 31)) ^^^ (-1 : Int32))) → Po (I3 60 0) I3
set_option maxRecDepth 100000 in
set_option maxHeartbeats 4000000 in
theorem m_X1_dropLast {l : Launch} {D : va_G} {cy : Nat → ClassId} {V : gV} (hCO : gModCO V) {I : gI} {J : gL} {Po : Int32 → gI → Prop} (h : wp_X1_dropLast I Po) : gMet l D cy yX1_dropLast cX1_dropLast 1 (some .int) rm_X1_dropLast V [.ref (V.2.1 60)] I J (gPi V (fun x I' J' => J = J' ∧ Po x I')) := by
  refine gMet.of (by decide) (Nat.le_of_ble_eq_true rfl) (fun X hX C hR => ?_)
  have C : gC X cX1_dropLast RX1 (some .int) 1 rm_X1_dropLast := C
  show gJ X V 0 0 0 [(0, .ref (V.2.1 60))] [] I J
  unfold wp_X1_dropLast at h
  refine j_aload_n (pc := 0) C dX1_dropLast_0 rfl 0 rfl ?_
  refine j_dup (pc := 1) C dX1_dropLast_1 rfl ?_
  refine j_getI (pc := 2) C 60 0 (c_60 hCO).1 (c_60 hCO).2 rfl rfl (by decide) inw_X1 wd_218 dX1_dropLast_2 ?_
  refine j_iconst (pc := 5) (v := 1) C dX1_dropLast_5 (by decide) ?_
  refine j_isub (pc := 6) C dX1_dropLast_6 ?_
  refine j_putI (pc := 7) (ft := .int) C tyX1 tyX1_ok nmX1 60 0 (c_60 hCO).1 (c_60 hCO).2 rfl rfl (by decide) inw_X1 wd_218 rfl (by decide +kernel) rfl rfl dX1_dropLast_7 ?_
  refine gJ.nmI (fun I1 eI1 => ?_)
  have h := h I1 eI1
  refine j_aload_n (pc := 10) C dX1_dropLast_10 rfl 0 rfl ?_
  refine j_dup (pc := 11) C dX1_dropLast_11 rfl ?_
  refine j_getI (pc := 12) C 60 5 (c_60 hCO).1 (c_60 hCO).2 rfl rfl (by decide) inw_X1 wd_227 dX1_dropLast_12 ?_
  refine j_iconst (pc := 15) (v := 1) C dX1_dropLast_15 (by decide) ?_
  refine j_aload_n (pc := 16) C dX1_dropLast_16 rfl 0 rfl ?_
  refine j_getR (pc := 17) C 60 4 62 (c_60 hCO).1 (c_60 hCO).2 rfl rfl (by decide) inw_X1 wd_226 dX1_dropLast_17 ?_
  refine j_aload_n (pc := 20) C dX1_dropLast_20 rfl 0 rfl ?_
  refine j_getI (pc := 21) C 60 0 (c_60 hCO).1 (c_60 hCO).2 rfl rfl (by decide) inw_X1 wd_218 dX1_dropLast_21 ?_
  obtain ⟨g2, h⟩ := h
  refine j_iald (pc := 24) C 62 (c_62 hCO).1 (c_62 hCO).2 g2 dX1_dropLast_24 ?_
  refine j_ishl (pc := 25) C dX1_dropLast_25 ?_
  refine j_iconst (pc := 26) (v := (-1)) C dX1_dropLast_26 (by decide) ?_
  refine j_ixor (pc := 27) C dX1_dropLast_27 ?_
  refine j_iand (pc := 28) C dX1_dropLast_28 ?_
  refine j_putI (pc := 29) (ft := .int) C tyX1 tyX1_ok nmX1 60 5 (c_60 hCO).1 (c_60 hCO).2 rfl rfl (by decide) inw_X1 wd_227 rfl (by decide +kernel) rfl rfl dX1_dropLast_29 ?_
  refine gJ.nmI (fun I3 eI3 => ?_)
  have h := h I3 eI3
  refine j_aload_n (pc := 32) C dX1_dropLast_32 rfl 0 rfl ?_
  refine j_getI (pc := 33) C 60 0 (c_60 hCO).1 (c_60 hCO).2 rfl rfl (by decide) inw_X1 wd_218 dX1_dropLast_33 ?_
  exact j_iret (pc := 36) C hR (Nat.zero_le _) (Nat.zero_le _) dX1_dropLast_36 ⟨_, rfl, rfl, rfl, h⟩
/-! TileRules$CornerSet.extendBy(IIII)Z -/
abbrev rm_X1_extendBy (f0 l0 : Nat) : Room := { frames := f0 + 1, cells := 0, slots := 0, locals := l0 + 24 }
theorem ok_X1_extend : gOk yX1_extend cX1_extend 5 (some .boolean) 3 := ⟨wd_921, wd_73, by decide +kernel⟩
theorem ok_X1_extendBy : gOk yX1_extendBy cX1_extendBy 6 (some .boolean) 4 := ⟨wd_945, wd_73, by decide +kernel⟩
def w_X1_extendBy_47 (rc : Int32 → Int32 → Int32 → gI → (Int32 → gI → Prop) → Prop) (Po : Int32 → gI → Prop)  (v1 : Int32) (v4 : Int32) (s0 : Int32) (s1 : Int32) (I : gI) : Prop :=
  rc s1 s0 (v4 - v1) I (fun r5 I6 => (r5 = 0 ∨ r5 = 1) ∧ Po r5 I6)
def w_X1_extendBy_22 (rc : Int32 → Int32 → Int32 → gI → (Int32 → gI → Prop) → Prop) (Po : Int32 → gI → Prop)  (v1 : Int32) (v2 : Int32) (v3 : Int32) (v4 : Int32) (s0 : Int32) (I : gI) : Prop :=
  vp_in v2 18 ∧ ∀ I3 : gI, I3 = gup I 61 (v2).toNatClampNeg v1 → (s0 = 0 → w_X1_extendBy_47 rc Po v1 v4 (v2 + (1 : Int32)) (v2 + (1 : Int32)) I3) ∧ (¬ s0 = 0 → w_X1_extendBy_47 rc Po v1 v4 v3 (v2 + (1 : Int32)) I3)
def w_X1_extendBy_21 (rc : Int32 → Int32 → Int32 → gI → (Int32 → gI → Prop) → Prop) (Po : Int32 → gI → Prop)  (v1 : Int32) (v2 : Int32) (v3 : Int32) (v4 : Int32) (I : gI) : Prop :=
  w_X1_extendBy_22 rc Po v1 v2 v3 v4 (0 : Int32) I
def wp_X1_extendBy (rc : Int32 → Int32 → Int32 → gI → (Int32 → gI → Prop) → Prop) (a1 : Int32) (a2 : Int32) (a3 : Int32) (a4 : Int32) (I : gI) (Po : Int32 → gI → Prop) : Prop :=
  (a2 < a3 → w_X1_extendBy_21 rc Po a1 a2 a3 a4 I) ∧ (¬ a2 < a3 → vp_in (a2 - a3) 18 ∧ (¬ a1 = (I 61 ((a2 - a3)).toNatClampNeg) → w_X1_extendBy_21 rc Po a1 a2 a3 a4 I) ∧ (a1 = (I 61 ((a2 - a3)).toNatClampNeg) → w_X1_extendBy_22 rc Po a1 a2 a3 a4 (1 : Int32) I))
set_option maxRecDepth 100000 in
set_option maxHeartbeats 4000000 in
theorem t_X1_extendBy_47 {X : gX} {l : Launch} {D : va_G} {cy : Nat → ClassId} {nm : String} {V : gV} {rc : Int32 → Int32 → Int32 → gI → (Int32 → gI → Prop) → Prop} {f0 l0 : Nat} (hCO : gModCO V) (hrc : ∀ (b0 : Int32) (b1 : Int32) (b2 : Int32) (I0 : gI) (J0 : gL) (Q0 : Int32 → gI → Prop), rc b0 b1 b2 I0 Q0 → gMet l D cy yX1_extend cX1_extend 5 (some .boolean) { frames := f0, cells := 0, slots := 0, locals := l0 } V [.ref (V.2.1 60), .int b0, .int b1, .int b2] I0 J0 (gPi V (fun x I' J' => J0 = J' ∧ Q0 x I'))) (C : gC X cX1_extendBy RX1 (some .boolean) 6 (rm_X1_extendBy f0 l0)) (hX : gIs X l D cy nm) {I : gI} {J : gL} {Po : Int32 → gI → Prop} (hR : gR X (gPi V (fun x I' J' => J = J' ∧ Po x I'))) {v1 : Int32} {v4 : Int32} {s0 : Int32} {s1 : Int32} (h : w_X1_extendBy_47 rc Po v1 v4 s0 s1 I) : gJ X V 0 0 47 [(1, .int v1), (4, .int v4)] [.int s0, .int s1, .ref (V.2.1 60)] I J := by
  unfold w_X1_extendBy_47 at h
  refine j_iload (pc := 47) C dX1_extendBy_47 1 rfl ?_
  refine j_iload_n (pc := 49) C dX1_extendBy_49 rfl 0 rfl ?_
  refine j_isub (pc := 50) C dX1_extendBy_50 ?_
  refine j_callV (pc := 51) (As := [.int s1, .int s0, .int (v4 - v1)]) (st := []) C hX 60 (hrc _ _ _ _ _ _ h) (c_60 hCO).1 (c_60 hCO).2 rfl ok_X1_extend wd_918 wd_920 wd_39 ⟨show f0 + 1 ≤ f0 + 1 by omega, show 8 + (5 + 11) + (l0) ≤ l0 + 24 by omega⟩ rfl rfl (Nat.le_of_ble_eq_true rfl) ⟨Nat.le_refl 0, Nat.le_refl 0⟩ dX1_extendBy_51 (fun r V1 I6 J1 hp => ?_)
  obtain ⟨r5, rfl, rfl, rfl, h⟩ := hp
  show gJ X V 0 0 54 _ [.int r5] _ _
  obtain ⟨g7, h⟩ := h
  exact j_zret (pc := 54) C hR g7 (Nat.zero_le _) (Nat.zero_le _) dX1_extendBy_54 ⟨_, rfl, rfl, rfl, h⟩
set_option maxRecDepth 100000 in
set_option maxHeartbeats 4000000 in
theorem t_X1_extendBy_22 {X : gX} {l : Launch} {D : va_G} {cy : Nat → ClassId} {nm : String} {V : gV} {rc : Int32 → Int32 → Int32 → gI → (Int32 → gI → Prop) → Prop} {f0 l0 : Nat} (hCO : gModCO V) (hrc : ∀ (b0 : Int32) (b1 : Int32) (b2 : Int32) (I0 : gI) (J0 : gL) (Q0 : Int32 → gI → Prop), rc b0 b1 b2 I0 Q0 → gMet l D cy yX1_extend cX1_extend 5 (some .boolean) { frames := f0, cells := 0, slots := 0, locals := l0 } V [.ref (V.2.1 60), .int b0, .int b1, .int b2] I0 J0 (gPi V (fun x I' J' => J0 = J' ∧ Q0 x I'))) (C : gC X cX1_extendBy RX1 (some .boolean) 6 (rm_X1_extendBy f0 l0)) (hX : gIs X l D cy nm) {I : gI} {J : gL} {Po : Int32 → gI → Prop} (hR : gR X (gPi V (fun x I' J' => J = J' ∧ Po x I'))) {v1 : Int32} {v2 : Int32} {v3 : Int32} {v4 : Int32} {s0 : Int32} (h : w_X1_extendBy_22 rc Po v1 v2 v3 v4 s0 I) : gJ X V 0 0 22 [(0, .ref (V.2.1 60)), (1, .int v1), (2, .int v2), (3, .int v3), (4, .int v4)] [.int s0] I J := by
  unfold w_X1_extendBy_22 at h
  refine j_istore (pc := 22) (lv' := [(5, .int s0), (0, .ref (V.2.1 60)), (1, .int v1), (2, .int v2), (3, .int v3), (4, .int v4)]) C dX1_extendBy_22 (by decide) rfl ?_
  refine j_aload_n (pc := 24) C dX1_extendBy_24 rfl 1 rfl ?_
  refine j_getR (pc := 25) C 60 3 61 (c_60 hCO).1 (c_60 hCO).2 rfl rfl (by decide) inw_X1 wd_224 dX1_extendBy_25 ?_
  refine j_iload_n (pc := 28) C dX1_extendBy_28 rfl 3 rfl ?_
  refine j_iload_n (pc := 29) C dX1_extendBy_29 rfl 2 rfl ?_
  obtain ⟨g2, h⟩ := h
  refine j_iast (pc := 30) C 61 (c_61 hCO).1 (c_61 hCO).2 g2 dX1_extendBy_30 ?_
  refine gJ.nmI (fun I3 eI3 => ?_)
  have h := h I3 eI3
  refine j_aload_n (pc := 31) C dX1_extendBy_31 rfl 1 rfl ?_
  refine j_iload_n (pc := 32) C dX1_extendBy_32 rfl 3 rfl ?_
  refine j_iconst (pc := 33) (v := 1) C dX1_extendBy_33 (by decide) ?_
  refine j_iadd (pc := 34) C dX1_extendBy_34 ?_
  refine j_iload (pc := 35) C dX1_extendBy_35 0 rfl ?_
  refine j_if_eq (pc := 37) (tgt := 44) C dX1_extendBy_37 (by decide) (fun c4 => ?_) (fun c4 => ?_)
  · have h := h.1 c4
    refine j_iload_n (pc := 44) C dX1_extendBy_44 rfl 3 rfl ?_
    refine j_iconst (pc := 45) (v := 1) C dX1_extendBy_45 (by decide) ?_
    refine j_iadd (pc := 46) C dX1_extendBy_46 ?_
    refine gJ.sub [2, 5] rfl ?_
    exact t_X1_extendBy_47 hCO hrc C hX hR   h
  · have h := h.2 c4
    refine j_iload_n (pc := 40) C dX1_extendBy_40 rfl 4 rfl ?_
    refine j_goto (pc := 41) (tgt := 47) C dX1_extendBy_41 (by decide) ?_
    refine gJ.sub [2, 5] rfl ?_
    exact t_X1_extendBy_47 hCO hrc C hX hR   h
set_option maxRecDepth 100000 in
set_option maxHeartbeats 4000000 in
theorem t_X1_extendBy_21 {X : gX} {l : Launch} {D : va_G} {cy : Nat → ClassId} {nm : String} {V : gV} {rc : Int32 → Int32 → Int32 → gI → (Int32 → gI → Prop) → Prop} {f0 l0 : Nat} (hCO : gModCO V) (hrc : ∀ (b0 : Int32) (b1 : Int32) (b2 : Int32) (I0 : gI) (J0 : gL) (Q0 : Int32 → gI → Prop), rc b0 b1 b2 I0 Q0 → gMet l D cy yX1_extend cX1_extend 5 (some .boolean) { frames := f0, cells := 0, slots := 0, locals := l0 } V [.ref (V.2.1 60), .int b0, .int b1, .int b2] I0 J0 (gPi V (fun x I' J' => J0 = J' ∧ Q0 x I'))) (C : gC X cX1_extendBy RX1 (some .boolean) 6 (rm_X1_extendBy f0 l0)) (hX : gIs X l D cy nm) {I : gI} {J : gL} {Po : Int32 → gI → Prop} (hR : gR X (gPi V (fun x I' J' => J = J' ∧ Po x I'))) {v1 : Int32} {v2 : Int32} {v3 : Int32} {v4 : Int32} (h : w_X1_extendBy_21 rc Po v1 v2 v3 v4 I) : gJ X V 0 0 21 [(0, .ref (V.2.1 60)), (1, .int v1), (2, .int v2), (3, .int v3), (4, .int v4)] [] I J := by
  unfold w_X1_extendBy_21 at h
  refine j_iconst (pc := 21) (v := 0) C dX1_extendBy_21 (by decide) ?_
  refine gJ.sub [0, 1, 2, 3, 4] rfl ?_
  exact t_X1_extendBy_22 hCO hrc C hX hR   h
set_option maxRecDepth 100000 in
set_option maxHeartbeats 4000000 in
theorem m_X1_extendBy {l : Launch} {D : va_G} {cy : Nat → ClassId} {V : gV} {rc : Int32 → Int32 → Int32 → gI → (Int32 → gI → Prop) → Prop} {f0 l0 : Nat} (hCO : gModCO V) (hrc : ∀ (b0 : Int32) (b1 : Int32) (b2 : Int32) (I0 : gI) (J0 : gL) (Q0 : Int32 → gI → Prop), rc b0 b1 b2 I0 Q0 → gMet l D cy yX1_extend cX1_extend 5 (some .boolean) { frames := f0, cells := 0, slots := 0, locals := l0 } V [.ref (V.2.1 60), .int b0, .int b1, .int b2] I0 J0 (gPi V (fun x I' J' => J0 = J' ∧ Q0 x I'))) {a1 : Int32} {a2 : Int32} {a3 : Int32} {a4 : Int32} {I : gI} {J : gL} {Po : Int32 → gI → Prop} (h : wp_X1_extendBy rc a1 a2 a3 a4 I Po) : gMet l D cy yX1_extendBy cX1_extendBy 6 (some .boolean) (rm_X1_extendBy f0 l0) V [.ref (V.2.1 60), .int a1, .int a2, .int a3, .int a4] I J (gPi V (fun x I' J' => J = J' ∧ Po x I')) := by
  refine gMet.of (by decide) (Nat.le_of_ble_eq_true rfl) (fun X hX C hR => ?_)
  have C : gC X cX1_extendBy RX1 (some .boolean) 6 (rm_X1_extendBy f0 l0) := C
  show gJ X V 0 0 0 [(0, .ref (V.2.1 60)), (1, .int a1), (2, .int a2), (3, .int a3), (4, .int a4)] [] I J
  unfold wp_X1_extendBy at h
  refine j_iload_n (pc := 0) C dX1_extendBy_0 rfl 2 rfl ?_
  refine j_iload_n (pc := 1) C dX1_extendBy_1 rfl 3 rfl ?_
  refine j_icmp_lt (pc := 2) (tgt := 21) C dX1_extendBy_2 (by decide) (fun c1 => ?_) (fun c1 => ?_)
  · have h := h.1 c1
    refine gJ.sub [0, 1, 2, 3, 4] rfl ?_
    exact t_X1_extendBy_21 hCO hrc C hX hR   h
  · have h := h.2 c1
    refine j_iload_n (pc := 5) C dX1_extendBy_5 rfl 1 rfl ?_
    refine j_aload_n (pc := 6) C dX1_extendBy_6 rfl 0 rfl ?_
    refine j_getR (pc := 7) C 60 3 61 (c_60 hCO).1 (c_60 hCO).2 rfl rfl (by decide) inw_X1 wd_224 dX1_extendBy_7 ?_
    refine j_iload_n (pc := 10) C dX1_extendBy_10 rfl 2 rfl ?_
    refine j_iload_n (pc := 11) C dX1_extendBy_11 rfl 3 rfl ?_
    refine j_isub (pc := 12) C dX1_extendBy_12 ?_
    obtain ⟨g8, h⟩ := h
    refine j_iald (pc := 13) C 61 (c_61 hCO).1 (c_61 hCO).2 g8 dX1_extendBy_13 ?_
    refine j_icmp_ne (pc := 14) (tgt := 21) C dX1_extendBy_14 (by decide) (fun c9 => ?_) (fun c9 => ?_)
    · have h := h.1 c9
      refine gJ.sub [0, 1, 2, 3, 4] rfl ?_
      exact t_X1_extendBy_21 hCO hrc C hX hR   h
    · have h := h.2 c9
      refine j_iconst (pc := 17) (v := 1) C dX1_extendBy_17 (by decide) ?_
      refine j_goto (pc := 18) (tgt := 22) C dX1_extendBy_18 (by decide) ?_
      refine gJ.sub [0, 1, 2, 3, 4] rfl ?_
      exact t_X1_extendBy_22 hCO hrc C hX hR   h
/-! TileRules$CornerSet.compareBackwards(II)I -/
abbrev rm_X1_compareBackwards : Room := { frames := 1, cells := 0, slots := 0, locals := 21 }
theorem ok_X1_compareBackwards : gOk yX1_compareBackwards cX1_compareBackwards 5 (some .int) 2 := ⟨wd_933, wd_73, by decide +kernel⟩
def w_X1_compareBackwards_27  (Po : Int32 → Prop) (K2 : Int32 → Prop) (v1 : Int32) (v2 : Int32) (v3 : Int32) (s0 : Int32) (I : gI) : Prop :=
  vp_in s0 18 ∧ ∀ n4 : Int32, n4 = (I 61 (s0).toNatClampNeg) → vp_in v3 18 ∧ ((I 61 (v3).toNatClampNeg) = n4 → ∀ n7 : Int32, n7 = v3 + 1 → K2 n7) ∧ (¬ (I 61 (v3).toNatClampNeg) = n4 → vp_in v3 18 ∧ wp_J6_compare_7cf53 (I 61 (v3).toNatClampNeg) n4 (fun r9 => Po r9))
def w_X1_compareBackwards_2b  (Po : Int32 → Prop) (K2 : Int32 → Prop) (v1 : Int32) (v2 : Int32) (v3 : Int32) (I : gI) : Prop :=
  (v1 ≤ v3 → Po (0 : Int32)) ∧ (¬ v1 ≤ v3 → (v2 < v3 → w_X1_compareBackwards_27 Po K2 v1 v2 v3 ((v2 - v3) + v1) I) ∧ (¬ v2 < v3 → w_X1_compareBackwards_27 Po K2 v1 v2 v3 (v2 - v3) I))
def w_X1_compareBackwards_2  (Po : Int32 → Prop)  (v1 : Int32) (v2 : Int32) (v3 : Int32) (I : gI) : Prop :=
  ∃ (Inv : Int32 → Prop) (mu : Int32 → Nat), Inv v3 ∧ ∀ (v3 : Int32), Inv v3 → w_X1_compareBackwards_2b  Po  (fun u3 => Inv u3 ∧ mu u3 < mu v3) v1 v2 v3 I
def wp_X1_compareBackwards (a1 : Int32) (a2 : Int32) (I : gI) (Po : Int32 → Prop) : Prop :=
  w_X1_compareBackwards_2 Po a1 a2 (0 : Int32) I
set_option maxRecDepth 100000 in
set_option maxHeartbeats 4000000 in
theorem t_X1_compareBackwards_27 {X : gX} {l : Launch} {D : va_G} {cy : Nat → ClassId} {nm : String} {V : gV} (hCO : gModCO V) (C : gC X cX1_compareBackwards RX1 (some .int) 5 rm_X1_compareBackwards) (hX : gIs X l D cy nm) {I : gI} {J : gL} {Po : Int32 → Prop} (hR : gR X (gPi V (fun x I' J' => I = I' ∧ J = J' ∧ Po x))) {v1 : Int32} {v2 : Int32} {v3 : Int32} {s0 : Int32} {K2 : Int32 → Prop} (hK2 : ∀ (y3 : Int32), K2 y3 → gJ X V 0 0 2 [(0, .ref (V.2.1 60)), (1, .int v1), (2, .int v2), (3, .int y3)] [] I J) (h : w_X1_compareBackwards_27 Po K2 v1 v2 v3 s0 I) : gJ X V 0 0 27 [(0, .ref (V.2.1 60)), (1, .int v1), (2, .int v2), (3, .int v3)] [.int s0, .ref (V.2.1 61)] I J := by
  unfold w_X1_compareBackwards_27 at h
  obtain ⟨g3, h⟩ := h
  refine j_iald (pc := 27) C 61 (c_61 hCO).1 (c_61 hCO).2 g3 dX1_compareBackwards_27 ?_
  refine gJ.topi (fun n4 en4 => ?_)
  have h := h n4 en4
  refine j_istore (pc := 28) (lv' := [(4, .int n4), (0, .ref (V.2.1 60)), (1, .int v1), (2, .int v2), (3, .int v3)]) C dX1_compareBackwards_28 (by decide) rfl ?_
  refine j_aload_n (pc := 30) C dX1_compareBackwards_30 rfl 1 rfl ?_
  refine j_getR (pc := 31) C 60 3 61 (c_60 hCO).1 (c_60 hCO).2 rfl rfl (by decide) inw_X1 wd_224 dX1_compareBackwards_31 ?_
  refine j_iload_n (pc := 34) C dX1_compareBackwards_34 rfl 4 rfl ?_
  obtain ⟨g5, h⟩ := h
  refine j_iald (pc := 35) C 61 (c_61 hCO).1 (c_61 hCO).2 g5 dX1_compareBackwards_35 ?_
  refine j_iload (pc := 36) C dX1_compareBackwards_36 0 rfl ?_
  refine j_icmp_eq (pc := 38) (tgt := 53) C dX1_compareBackwards_38 (by decide) (fun c6 => ?_) (fun c6 => ?_)
  · have h := h.1 c6
    obtain ⟨n7, en7⟩ : ∃ z : Int32, z = v3 + 1 := ⟨_, rfl⟩
    have h := h n7 en7
    refine j_iinc (pc := 53) (v := n7) (lv' := [(3, .int n7), (4, .int n4), (0, .ref (V.2.1 60)), (1, .int v1), (2, .int v2)]) C dX1_compareBackwards_53 4 rfl (by rw [en7]; rfl) (by decide) rfl ?_
    refine j_goto (pc := 56) (tgt := 2) C dX1_compareBackwards_56 (by decide) ?_
    refine gJ.sub [2, 3, 4, 0] rfl ?_
    exact hK2 _ h
  · have h := h.2 c6
    refine j_aload_n (pc := 41) C dX1_compareBackwards_41 rfl 1 rfl ?_
    refine j_getR (pc := 42) C 60 3 61 (c_60 hCO).1 (c_60 hCO).2 rfl rfl (by decide) inw_X1 wd_224 dX1_compareBackwards_42 ?_
    refine j_iload_n (pc := 45) C dX1_compareBackwards_45 rfl 4 rfl ?_
    obtain ⟨g8, h⟩ := h
    refine j_iald (pc := 46) C 61 (c_61 hCO).1 (c_61 hCO).2 g8 dX1_compareBackwards_46 ?_
    refine j_iload (pc := 47) C dX1_compareBackwards_47 0 rfl ?_
    refine j_callS (pc := 49) (As := [.int (I 61 (v3).toNatClampNeg), .int n4]) (st := []) C hX (m_J6_compare_7cf53   h) ok_J6_compare_7cf53 wd_934 wd_935 ⟨by decide, by decide⟩ rfl rfl (Nat.le_of_ble_eq_true rfl) ⟨Nat.le_refl 0, Nat.le_refl 0⟩ dX1_compareBackwards_49 (fun r V1 I1 J1 hp => ?_)
    obtain ⟨r9, rfl, rfl, rfl, rfl, h⟩ := hp
    show gJ X V 0 0 52 _ [.int r9] _ _
    exact j_iret (pc := 52) C hR (Nat.zero_le _) (Nat.zero_le _) dX1_compareBackwards_52 ⟨_, rfl, rfl, rfl, rfl, h⟩
set_option maxRecDepth 100000 in
set_option maxHeartbeats 4000000 in
theorem t_X1_compareBackwards_2b {X : gX} {l : Launch} {D : va_G} {cy : Nat → ClassId} {nm : String} {V : gV} (hCO : gModCO V) (C : gC X cX1_compareBackwards RX1 (some .int) 5 rm_X1_compareBackwards) (hX : gIs X l D cy nm) {I : gI} {J : gL} {Po : Int32 → Prop} (hR : gR X (gPi V (fun x I' J' => I = I' ∧ J = J' ∧ Po x))) {v1 : Int32} {v2 : Int32} {v3 : Int32} {K2 : Int32 → Prop} (hK2 : ∀ (y3 : Int32), K2 y3 → gJ X V 0 0 2 [(0, .ref (V.2.1 60)), (1, .int v1), (2, .int v2), (3, .int y3)] [] I J) (h : w_X1_compareBackwards_2b Po K2 v1 v2 v3 I) : gJ X V 0 0 2 [(0, .ref (V.2.1 60)), (1, .int v1), (2, .int v2), (3, .int v3)] [] I J := by
  unfold w_X1_compareBackwards_2b at h
  refine j_iload_n (pc := 2) C dX1_compareBackwards_2 rfl 3 rfl ?_
  refine j_iload_n (pc := 3) C dX1_compareBackwards_3 rfl 1 rfl ?_
  refine j_icmp_ge (pc := 4) (tgt := 59) C dX1_compareBackwards_4 (by decide) (fun c1 => ?_) (fun c1 => ?_)
  · have h := h.1 c1
    refine j_iconst (pc := 59) (v := 0) C dX1_compareBackwards_59 (by decide) ?_
    exact j_iret (pc := 60) C hR (Nat.zero_le _) (Nat.zero_le _) dX1_compareBackwards_60 ⟨_, rfl, rfl, rfl, rfl, h⟩
  · have h := h.2 c1
    refine j_aload_n (pc := 7) C dX1_compareBackwards_7 rfl 0 rfl ?_
    refine j_getR (pc := 8) C 60 3 61 (c_60 hCO).1 (c_60 hCO).2 rfl rfl (by decide) inw_X1 wd_224 dX1_compareBackwards_8 ?_
    refine j_iload_n (pc := 11) C dX1_compareBackwards_11 rfl 2 rfl ?_
    refine j_iload_n (pc := 12) C dX1_compareBackwards_12 rfl 3 rfl ?_
    refine j_icmp_lt (pc := 13) (tgt := 22) C dX1_compareBackwards_13 (by decide) (fun c2 => ?_) (fun c2 => ?_)
    · have h := h.1 c2
      refine j_iload_n (pc := 22) C dX1_compareBackwards_22 rfl 2 rfl ?_
      refine j_iload_n (pc := 23) C dX1_compareBackwards_23 rfl 3 rfl ?_
      refine j_isub (pc := 24) C dX1_compareBackwards_24 ?_
      refine j_iload_n (pc := 25) C dX1_compareBackwards_25 rfl 1 rfl ?_
      refine j_iadd (pc := 26) C dX1_compareBackwards_26 ?_
      refine gJ.sub [0, 1, 2, 3] rfl ?_
      exact t_X1_compareBackwards_27 hCO C hX hR  hK2 h
    · have h := h.2 c2
      refine j_iload_n (pc := 16) C dX1_compareBackwards_16 rfl 2 rfl ?_
      refine j_iload_n (pc := 17) C dX1_compareBackwards_17 rfl 3 rfl ?_
      refine j_isub (pc := 18) C dX1_compareBackwards_18 ?_
      refine j_goto (pc := 19) (tgt := 27) C dX1_compareBackwards_19 (by decide) ?_
      refine gJ.sub [0, 1, 2, 3] rfl ?_
      exact t_X1_compareBackwards_27 hCO C hX hR  hK2 h
set_option maxRecDepth 100000 in
set_option maxHeartbeats 4000000 in
theorem t_X1_compareBackwards_2 {X : gX} {l : Launch} {D : va_G} {cy : Nat → ClassId} {nm : String} {V : gV} (hCO : gModCO V) (C : gC X cX1_compareBackwards RX1 (some .int) 5 rm_X1_compareBackwards) (hX : gIs X l D cy nm) {I : gI} {J : gL} {Po : Int32 → Prop} (hR : gR X (gPi V (fun x I' J' => I = I' ∧ J = J' ∧ Po x))) {v1 : Int32} {v2 : Int32} {v3 : Int32} (h : w_X1_compareBackwards_2 Po v1 v2 v3 I) : gJ X V 0 0 2 [(0, .ref (V.2.1 60)), (1, .int v1), (2, .int v2), (3, .int v3)] [] I J := by
  unfold w_X1_compareBackwards_2 at h
  obtain ⟨Inv, mu, h0, hs⟩ := h
  have key : ∀ (n : Nat) (v3 : Int32), Inv v3 → mu v3 < n → gJ X V 0 0 2 [(0, .ref (V.2.1 60)), (1, .int v1), (2, .int v2), (3, .int v3)] [] I J := by
    intro n
    induction n with
    | zero => intro v3 hi hn; exact absurd hn (Nat.not_lt_zero _)
    | succ n ih =>
      intro v3 hi hn
      exact t_X1_compareBackwards_2b hCO C hX hR   (fun u3 hk => ih u3 hk.1 (Nat.lt_of_lt_of_le hk.2 (Nat.le_of_lt_succ hn))) (hs v3 hi)
  exact key _ v3 h0 (Nat.lt_succ_self _)
set_option maxRecDepth 100000 in
set_option maxHeartbeats 4000000 in
theorem m_X1_compareBackwards {l : Launch} {D : va_G} {cy : Nat → ClassId} {V : gV} (hCO : gModCO V) {a1 : Int32} {a2 : Int32} {I : gI} {J : gL} {Po : Int32 → Prop} (h : wp_X1_compareBackwards a1 a2 I Po) : gMet l D cy yX1_compareBackwards cX1_compareBackwards 5 (some .int) rm_X1_compareBackwards V [.ref (V.2.1 60), .int a1, .int a2] I J (gPi V (fun x I' J' => I = I' ∧ J = J' ∧ Po x)) := by
  refine gMet.of (by decide) (Nat.le_of_ble_eq_true rfl) (fun X hX C hR => ?_)
  have C : gC X cX1_compareBackwards RX1 (some .int) 5 rm_X1_compareBackwards := C
  show gJ X V 0 0 0 [(0, .ref (V.2.1 60)), (1, .int a1), (2, .int a2)] [] I J
  unfold wp_X1_compareBackwards at h
  refine j_iconst (pc := 0) (v := 0) C dX1_compareBackwards_0 (by decide) ?_
  refine j_istore_n (pc := 1) (lv' := [(3, .int (0 : Int32)), (0, .ref (V.2.1 60)), (1, .int a1), (2, .int a2)]) C dX1_compareBackwards_1 rfl (by decide) rfl ?_
  refine gJ.sub [1, 2, 3, 0] rfl ?_
  exact t_X1_compareBackwards_2 hCO C hX hR   h
/-! TileRules$CornerSet.comesFirstBackwards(I)Z -/
abbrev rm_X1_comesFirstBackwards : Room := { frames := 2, cells := 0, slots := 0, locals := 45 }
theorem ok_X1_comesFirstBackwards : gOk yX1_comesFirstBackwards cX1_comesFirstBackwards 3 (some .boolean) 1 := ⟨wd_929, wd_73, by decide +kernel⟩
def w_X1_comesFirstBackwards_2b  (Po : Int32 → Prop) (K2 : Int32 → Prop) (v1 : Int32) (v2 : Int32) (I : gI) : Prop :=
  (v1 ≤ v2 → Po (1 : Int32)) ∧ (¬ v1 ≤ v2 → wp_X1_compareBackwards v1 v2 I (fun r2 => (r2 ≤ 0 → ∀ n4 : Int32, n4 = v2 + 1 → K2 n4) ∧ (¬ r2 ≤ 0 → Po (0 : Int32))))
def w_X1_comesFirstBackwards_2  (Po : Int32 → Prop)  (v1 : Int32) (v2 : Int32) (I : gI) : Prop :=
  ∃ (Inv : Int32 → Prop) (mu : Int32 → Nat), Inv v2 ∧ ∀ (v2 : Int32), Inv v2 → w_X1_comesFirstBackwards_2b  Po  (fun u2 => Inv u2 ∧ mu u2 < mu v2) v1 v2 I
def wp_X1_comesFirstBackwards (a1 : Int32) (I : gI) (Po : Int32 → Prop) : Prop :=
  w_X1_comesFirstBackwards_2 Po a1 (0 : Int32) I
set_option maxRecDepth 100000 in
set_option maxHeartbeats 4000000 in
theorem t_X1_comesFirstBackwards_2b {X : gX} {l : Launch} {D : va_G} {cy : Nat → ClassId} {nm : String} {V : gV} (hCO : gModCO V) (C : gC X cX1_comesFirstBackwards RX1 (some .boolean) 3 rm_X1_comesFirstBackwards) (hX : gIs X l D cy nm) {I : gI} {J : gL} {Po : Int32 → Prop} (hR : gR X (gPi V (fun x I' J' => I = I' ∧ J = J' ∧ Po x))) {v1 : Int32} {v2 : Int32} {K2 : Int32 → Prop} (hK2 : ∀ (y2 : Int32), K2 y2 → gJ X V 0 0 2 [(0, .ref (V.2.1 60)), (1, .int v1), (2, .int y2)] [] I J) (h : w_X1_comesFirstBackwards_2b Po K2 v1 v2 I) : gJ X V 0 0 2 [(0, .ref (V.2.1 60)), (1, .int v1), (2, .int v2)] [] I J := by
  unfold w_X1_comesFirstBackwards_2b at h
  refine j_iload_n (pc := 2) C dX1_comesFirstBackwards_2 rfl 2 rfl ?_
  refine j_iload_n (pc := 3) C dX1_comesFirstBackwards_3 rfl 1 rfl ?_
  refine j_icmp_ge (pc := 4) (tgt := 24) C dX1_comesFirstBackwards_4 (by decide) (fun c1 => ?_) (fun c1 => ?_)
  · have h := h.1 c1
    refine j_iconst (pc := 24) (v := 1) C dX1_comesFirstBackwards_24 (by decide) ?_
    exact j_zret (pc := 25) C hR (Or.inr rfl) (Nat.zero_le _) (Nat.zero_le _) dX1_comesFirstBackwards_25 ⟨_, rfl, rfl, rfl, rfl, h⟩
  · have h := h.2 c1
    refine j_aload_n (pc := 7) C dX1_comesFirstBackwards_7 rfl 0 rfl ?_
    refine j_iload_n (pc := 8) C dX1_comesFirstBackwards_8 rfl 1 rfl ?_
    refine j_iload_n (pc := 9) C dX1_comesFirstBackwards_9 rfl 2 rfl ?_
    refine j_callV (pc := 10) (As := [.int v1, .int v2]) (st := []) C hX 60 (m_X1_compareBackwards hCO  h) (c_60 hCO).1 (c_60 hCO).2 rfl ok_X1_compareBackwards wd_930 wd_932 wd_42 ⟨by decide, by decide⟩ rfl rfl (Nat.le_of_ble_eq_true rfl) ⟨Nat.le_refl 0, Nat.le_refl 0⟩ dX1_comesFirstBackwards_10 (fun r V1 I1 J1 hp => ?_)
    obtain ⟨r2, rfl, rfl, rfl, rfl, h⟩ := hp
    show gJ X V 0 0 13 _ [.int r2] _ _
    refine j_if_le (pc := 13) (tgt := 18) C dX1_comesFirstBackwards_13 (by decide) (fun c3 => ?_) (fun c3 => ?_)
    · have h := h.1 c3
      obtain ⟨n4, en4⟩ : ∃ z : Int32, z = v2 + 1 := ⟨_, rfl⟩
      have h := h n4 en4
      refine j_iinc (pc := 18) (v := n4) (lv' := [(2, .int n4), (0, .ref (V.2.1 60)), (1, .int v1)]) C dX1_comesFirstBackwards_18 2 rfl (by rw [en4]; rfl) (by decide) rfl ?_
      refine j_goto (pc := 21) (tgt := 2) C dX1_comesFirstBackwards_21 (by decide) ?_
      refine gJ.sub [1, 2, 0] rfl ?_
      exact hK2 _ h
    · have h := h.2 c3
      refine j_iconst (pc := 16) (v := 0) C dX1_comesFirstBackwards_16 (by decide) ?_
      exact j_zret (pc := 17) C hR (Or.inl rfl) (Nat.zero_le _) (Nat.zero_le _) dX1_comesFirstBackwards_17 ⟨_, rfl, rfl, rfl, rfl, h⟩
set_option maxRecDepth 100000 in
set_option maxHeartbeats 4000000 in
theorem t_X1_comesFirstBackwards_2 {X : gX} {l : Launch} {D : va_G} {cy : Nat → ClassId} {nm : String} {V : gV} (hCO : gModCO V) (C : gC X cX1_comesFirstBackwards RX1 (some .boolean) 3 rm_X1_comesFirstBackwards) (hX : gIs X l D cy nm) {I : gI} {J : gL} {Po : Int32 → Prop} (hR : gR X (gPi V (fun x I' J' => I = I' ∧ J = J' ∧ Po x))) {v1 : Int32} {v2 : Int32} (h : w_X1_comesFirstBackwards_2 Po v1 v2 I) : gJ X V 0 0 2 [(0, .ref (V.2.1 60)), (1, .int v1), (2, .int v2)] [] I J := by
  unfold w_X1_comesFirstBackwards_2 at h
  obtain ⟨Inv, mu, h0, hs⟩ := h
  have key : ∀ (n : Nat) (v2 : Int32), Inv v2 → mu v2 < n → gJ X V 0 0 2 [(0, .ref (V.2.1 60)), (1, .int v1), (2, .int v2)] [] I J := by
    intro n
    induction n with
    | zero => intro v2 hi hn; exact absurd hn (Nat.not_lt_zero _)
    | succ n ih =>
      intro v2 hi hn
      exact t_X1_comesFirstBackwards_2b hCO C hX hR   (fun u2 hk => ih u2 hk.1 (Nat.lt_of_lt_of_le hk.2 (Nat.le_of_lt_succ hn))) (hs v2 hi)
  exact key _ v2 h0 (Nat.lt_succ_self _)
set_option maxRecDepth 100000 in
set_option maxHeartbeats 4000000 in
theorem m_X1_comesFirstBackwards {l : Launch} {D : va_G} {cy : Nat → ClassId} {V : gV} (hCO : gModCO V) {a1 : Int32} {I : gI} {J : gL} {Po : Int32 → Prop} (h : wp_X1_comesFirstBackwards a1 I Po) : gMet l D cy yX1_comesFirstBackwards cX1_comesFirstBackwards 3 (some .boolean) rm_X1_comesFirstBackwards V [.ref (V.2.1 60), .int a1] I J (gPi V (fun x I' J' => I = I' ∧ J = J' ∧ Po x)) := by
  refine gMet.of (by decide) (Nat.le_of_ble_eq_true rfl) (fun X hX C hR => ?_)
  have C : gC X cX1_comesFirstBackwards RX1 (some .boolean) 3 rm_X1_comesFirstBackwards := C
  show gJ X V 0 0 0 [(0, .ref (V.2.1 60)), (1, .int a1)] [] I J
  unfold wp_X1_comesFirstBackwards at h
  refine j_iconst (pc := 0) (v := 0) C dX1_comesFirstBackwards_0 (by decide) ?_
  refine j_istore_n (pc := 1) (lv' := [(2, .int (0 : Int32)), (0, .ref (V.2.1 60)), (1, .int a1)]) C dX1_comesFirstBackwards_1 rfl (by decide) rfl ?_
  refine gJ.sub [1, 2, 0] rfl ?_
  exact t_X1_comesFirstBackwards_2 hCO C hX hR   h
/-! TileRules$CornerSet.isWanted(II)Z -/
abbrev rm_X1_isWanted : Room := { frames := 3, cells := 0, slots := 0, locals := 67 }
theorem ok_X1_isWanted : gOk yX1_isWanted cX1_isWanted 4 (some .boolean) 2 := ⟨wd_925, wd_73, by decide +kernel⟩
def w_X1_isWanted_37  (Po : Int32 → gI → Prop)  (v1 : Int32) (I : gI) : Prop :=
  ∀ I4 : gI, I4 = gup I 60 2 v1 → ∀ I5 : gI, I5 = gup I4 60 8 ((I4 60 8) + (1 : Int32)) → (¬ ((I5 60 8) - (1 : Int32)) = (I5 60 7) → Po (0 : Int32) I5) ∧ (((I5 60 8) - (1 : Int32)) = (I5 60 7) → Po (1 : Int32) I5)
def w_X1_isWanted_15  (Po : Int32 → gI → Prop)  (v1 : Int32) (s0 : Int32) (I : gI) : Prop :=
  (s0 = 0 → Po (0 : Int32) I) ∧ (¬ s0 = 0 → ((I 60 6) = 0 → w_X1_isWanted_37 Po v1 I) ∧ (¬ (I 60 6) = 0 → wp_X1_comesFirstBackwards v1 I (fun r7 => (¬ r7 = 0 → w_X1_isWanted_37 Po v1 I) ∧ (r7 = 0 → Po (0 : Int32) I))))
def w_X1_isWanted_14  (Po : Int32 → gI → Prop)  (v1 : Int32) (I : gI) : Prop :=
  w_X1_isWanted_15 Po v1 (0 : Int32) I
def wp_X1_isWanted (a1 : Int32) (a2 : Int32) (I : gI) (Po : Int32 → gI → Prop) : Prop :=
  (a2 ≤ 0 → w_X1_isWanted_14 Po a1 I) ∧ (¬ a2 ≤ 0 → ¬ a2 = 0 ∧ (¬ (a1 - a1 / a2 * a2) = 0 → w_X1_isWanted_14 Po a1 I) ∧ ((a1 - a1 / a2 * a2) = 0 → w_X1_isWanted_15 Po a1 (1 : Int32) I))
set_option maxRecDepth 100000 in
set_option maxHeartbeats 4000000 in
theorem t_X1_isWanted_37 {X : gX} {l : Launch} {D : va_G} {cy : Nat → ClassId} {nm : String} {V : gV} (hCO : gModCO V) (C : gC X cX1_isWanted RX1 (some .boolean) 4 rm_X1_isWanted) (hX : gIs X l D cy nm) {I : gI} {J : gL} {Po : Int32 → gI → Prop} (hR : gR X (gPi V (fun x I' J' => J = J' ∧ Po x I'))) {v1 : Int32} (h : w_X1_isWanted_37 Po v1 I) : gJ X V 0 0 37 [(0, .ref (V.2.1 60)), (1, .int v1)] [] I J := by
  unfold w_X1_isWanted_37 at h
  refine j_aload_n (pc := 37) C dX1_isWanted_37 rfl 0 rfl ?_
  refine j_iload_n (pc := 38) C dX1_isWanted_38 rfl 1 rfl ?_
  refine j_putI (pc := 39) (ft := .int) C tyX1 tyX1_ok nmX1 60 2 (c_60 hCO).1 (c_60 hCO).2 rfl rfl (by decide) inw_X1 wd_222 rfl (by decide +kernel) rfl rfl dX1_isWanted_39 ?_
  refine gJ.nmI (fun I4 eI4 => ?_)
  have h := h I4 eI4
  refine j_aload_n (pc := 42) C dX1_isWanted_42 rfl 0 rfl ?_
  refine j_dup (pc := 43) C dX1_isWanted_43 rfl ?_
  refine j_getI (pc := 44) C 60 8 (c_60 hCO).1 (c_60 hCO).2 rfl rfl (by decide) inw_X1 wd_230 dX1_isWanted_44 ?_
  refine j_iconst (pc := 47) (v := 1) C dX1_isWanted_47 (by decide) ?_
  refine j_iadd (pc := 48) C dX1_isWanted_48 ?_
  refine j_putI (pc := 49) (ft := .int) C tyX1 tyX1_ok nmX1 60 8 (c_60 hCO).1 (c_60 hCO).2 rfl rfl (by decide) inw_X1 wd_230 rfl (by decide +kernel) rfl rfl dX1_isWanted_49 ?_
  refine gJ.nmI (fun I5 eI5 => ?_)
  have h := h I5 eI5
  refine j_aload_n (pc := 52) C dX1_isWanted_52 rfl 0 rfl ?_
  refine j_getI (pc := 53) C 60 8 (c_60 hCO).1 (c_60 hCO).2 rfl rfl (by decide) inw_X1 wd_230 dX1_isWanted_53 ?_
  refine j_iconst (pc := 56) (v := 1) C dX1_isWanted_56 (by decide) ?_
  refine j_isub (pc := 57) C dX1_isWanted_57 ?_
  refine j_aload_n (pc := 58) C dX1_isWanted_58 rfl 0 rfl ?_
  refine j_getI (pc := 59) C 60 7 (c_60 hCO).1 (c_60 hCO).2 rfl rfl (by decide) inw_X1 wd_229 dX1_isWanted_59 ?_
  refine j_icmp_ne (pc := 62) (tgt := 69) C dX1_isWanted_62 (by decide) (fun c6 => ?_) (fun c6 => ?_)
  · have h := h.1 c6
    refine j_iconst (pc := 69) (v := 0) C dX1_isWanted_69 (by decide) ?_
    exact j_zret (pc := 70) C hR (Or.inl rfl) (Nat.zero_le _) (Nat.zero_le _) dX1_isWanted_70 ⟨_, rfl, rfl, rfl, h⟩
  · have h := h.2 c6
    refine j_iconst (pc := 65) (v := 1) C dX1_isWanted_65 (by decide) ?_
    refine j_goto (pc := 66) (tgt := 70) C dX1_isWanted_66 (by decide) ?_
    exact j_zret (pc := 70) C hR (Or.inr rfl) (Nat.zero_le _) (Nat.zero_le _) dX1_isWanted_70 ⟨_, rfl, rfl, rfl, h⟩
set_option maxRecDepth 100000 in
set_option maxHeartbeats 4000000 in
theorem t_X1_isWanted_15 {X : gX} {l : Launch} {D : va_G} {cy : Nat → ClassId} {nm : String} {V : gV} (hCO : gModCO V) (C : gC X cX1_isWanted RX1 (some .boolean) 4 rm_X1_isWanted) (hX : gIs X l D cy nm) {I : gI} {J : gL} {Po : Int32 → gI → Prop} (hR : gR X (gPi V (fun x I' J' => J = J' ∧ Po x I'))) {v1 : Int32} {s0 : Int32} (h : w_X1_isWanted_15 Po v1 s0 I) : gJ X V 0 0 15 [(0, .ref (V.2.1 60)), (1, .int v1)] [.int s0] I J := by
  unfold w_X1_isWanted_15 at h
  refine j_istore_n (pc := 15) (lv' := [(3, .int s0), (0, .ref (V.2.1 60)), (1, .int v1)]) C dX1_isWanted_15 rfl (by decide) rfl ?_
  refine j_iload_n (pc := 16) C dX1_isWanted_16 rfl 0 rfl ?_
  refine j_if_eq (pc := 17) (tgt := 35) C dX1_isWanted_17 (by decide) (fun c2 => ?_) (fun c2 => ?_)
  · have h := h.1 c2
    refine j_iconst (pc := 35) (v := 0) C dX1_isWanted_35 (by decide) ?_
    exact j_zret (pc := 36) C hR (Or.inl rfl) (Nat.zero_le _) (Nat.zero_le _) dX1_isWanted_36 ⟨_, rfl, rfl, rfl, h⟩
  · have h := h.2 c2
    refine j_aload_n (pc := 20) C dX1_isWanted_20 rfl 1 rfl ?_
    refine j_getI (pc := 21) C 60 6 (c_60 hCO).1 (c_60 hCO).2 rfl rfl (by decide) inw_X1 wd_228 dX1_isWanted_21 ?_
    refine j_if_eq (pc := 24) (tgt := 37) C dX1_isWanted_24 (by decide) (fun c3 => ?_) (fun c3 => ?_)
    · have h := h.1 c3
      refine gJ.sub [1, 2] rfl ?_
      exact t_X1_isWanted_37 hCO C hX hR   h
    · have h := h.2 c3
      refine j_aload_n (pc := 27) C dX1_isWanted_27 rfl 1 rfl ?_
      refine j_iload_n (pc := 28) C dX1_isWanted_28 rfl 2 rfl ?_
      refine j_callV (pc := 29) (As := [.int v1]) (st := []) C hX 60 (m_X1_comesFirstBackwards hCO  h) (c_60 hCO).1 (c_60 hCO).2 rfl ok_X1_comesFirstBackwards wd_926 wd_928 wd_41 ⟨by decide, by decide⟩ rfl rfl (Nat.le_of_ble_eq_true rfl) ⟨Nat.le_refl 0, Nat.le_refl 0⟩ dX1_isWanted_29 (fun r V1 I1 J1 hp => ?_)
      obtain ⟨r7, rfl, rfl, rfl, rfl, h⟩ := hp
      show gJ X V 0 0 32 _ [.int r7] _ _
      refine j_if_ne (pc := 32) (tgt := 37) C dX1_isWanted_32 (by decide) (fun c8 => ?_) (fun c8 => ?_)
      · have h := h.1 c8
        refine gJ.sub [1, 2] rfl ?_
        exact t_X1_isWanted_37 hCO C hX hR   h
      · have h := h.2 c8
        refine j_iconst (pc := 35) (v := 0) C dX1_isWanted_35 (by decide) ?_
        exact j_zret (pc := 36) C hR (Or.inl rfl) (Nat.zero_le _) (Nat.zero_le _) dX1_isWanted_36 ⟨_, rfl, rfl, rfl, h⟩
set_option maxRecDepth 100000 in
set_option maxHeartbeats 4000000 in
theorem t_X1_isWanted_14 {X : gX} {l : Launch} {D : va_G} {cy : Nat → ClassId} {nm : String} {V : gV} (hCO : gModCO V) (C : gC X cX1_isWanted RX1 (some .boolean) 4 rm_X1_isWanted) (hX : gIs X l D cy nm) {I : gI} {J : gL} {Po : Int32 → gI → Prop} (hR : gR X (gPi V (fun x I' J' => J = J' ∧ Po x I'))) {v1 : Int32} (h : w_X1_isWanted_14 Po v1 I) : gJ X V 0 0 14 [(0, .ref (V.2.1 60)), (1, .int v1)] [] I J := by
  unfold w_X1_isWanted_14 at h
  refine j_iconst (pc := 14) (v := 0) C dX1_isWanted_14 (by decide) ?_
  refine gJ.sub [0, 1] rfl ?_
  exact t_X1_isWanted_15 hCO C hX hR   h
set_option maxRecDepth 100000 in
set_option maxHeartbeats 4000000 in
theorem m_X1_isWanted {l : Launch} {D : va_G} {cy : Nat → ClassId} {V : gV} (hCO : gModCO V) {a1 : Int32} {a2 : Int32} {I : gI} {J : gL} {Po : Int32 → gI → Prop} (h : wp_X1_isWanted a1 a2 I Po) : gMet l D cy yX1_isWanted cX1_isWanted 4 (some .boolean) rm_X1_isWanted V [.ref (V.2.1 60), .int a1, .int a2] I J (gPi V (fun x I' J' => J = J' ∧ Po x I')) := by
  refine gMet.of (by decide) (Nat.le_of_ble_eq_true rfl) (fun X hX C hR => ?_)
  have C : gC X cX1_isWanted RX1 (some .boolean) 4 rm_X1_isWanted := C
  show gJ X V 0 0 0 [(0, .ref (V.2.1 60)), (1, .int a1), (2, .int a2)] [] I J
  unfold wp_X1_isWanted at h
  refine j_iload_n (pc := 0) C dX1_isWanted_0 rfl 2 rfl ?_
  refine j_if_le (pc := 1) (tgt := 14) C dX1_isWanted_1 (by decide) (fun c1 => ?_) (fun c1 => ?_)
  · have h := h.1 c1
    refine gJ.sub [0, 1] rfl ?_
    exact t_X1_isWanted_14 hCO C hX hR   h
  · have h := h.2 c1
    refine j_iload_n (pc := 4) C dX1_isWanted_4 rfl 1 rfl ?_
    refine j_iload_n (pc := 5) C dX1_isWanted_5 rfl 2 rfl ?_
    obtain ⟨g9, h⟩ := h
    refine j_irem (pc := 6) C dX1_isWanted_6 g9 ?_
    refine j_if_ne (pc := 7) (tgt := 14) C dX1_isWanted_7 (by decide) (fun c10 => ?_) (fun c10 => ?_)
    · have h := h.1 c10
      refine gJ.sub [0, 1] rfl ?_
      exact t_X1_isWanted_14 hCO C hX hR   h
    · have h := h.2 c10
      refine j_iconst (pc := 10) (v := 1) C dX1_isWanted_10 (by decide) ?_
      refine j_goto (pc := 11) (tgt := 15) C dX1_isWanted_11 (by decide) ?_
      refine gJ.sub [0, 1] rfl ?_
      exact t_X1_isWanted_15 hCO C hX hR   h
/-! TileRules$CornerSet.leastNext(II)I -/
abbrev rm_X1_leastNext : Room := { frames := 0, cells := 0, slots := 0, locals := 0 }
theorem ok_X1_leastNext : gOk yX1_leastNext cX1_leastNext 3 (some .int) 2 := ⟨wd_940, wd_73, by decide +kernel⟩
def wp_X1_leastNext (a1 : Int32) (a2 : Int32) (I : gI) (Po : Int32 → Prop) : Prop :=
  (a2 ≤ a1 → vp_in (a1 - a2) 18 ∧ Po (I 61 ((a1 - a2)).toNatClampNeg)) ∧ (¬ a2 ≤ a1 → Po (1 : Int32))
set_option maxRecDepth 100000 in
set_option maxHeartbeats 4000000 in
theorem m_X1_leastNext {l : Launch} {D : va_G} {cy : Nat → ClassId} {V : gV} (hCO : gModCO V) {a1 : Int32} {a2 : Int32} {I : gI} {J : gL} {Po : Int32 → Prop} (h : wp_X1_leastNext a1 a2 I Po) : gMet l D cy yX1_leastNext cX1_leastNext 3 (some .int) rm_X1_leastNext V [.ref (V.2.1 60), .int a1, .int a2] I J (gPi V (fun x I' J' => I = I' ∧ J = J' ∧ Po x)) := by
  refine gMet.of (by decide) (Nat.le_of_ble_eq_true rfl) (fun X hX C hR => ?_)
  have C : gC X cX1_leastNext RX1 (some .int) 3 rm_X1_leastNext := C
  show gJ X V 0 0 0 [(0, .ref (V.2.1 60)), (1, .int a1), (2, .int a2)] [] I J
  unfold wp_X1_leastNext at h
  refine j_iload_n (pc := 0) C dX1_leastNext_0 rfl 1 rfl ?_
  refine j_iload_n (pc := 1) C dX1_leastNext_1 rfl 2 rfl ?_
  refine j_icmp_ge (pc := 2) (tgt := 9) C dX1_leastNext_2 (by decide) (fun c1 => ?_) (fun c1 => ?_)
  · have h := h.1 c1
    refine j_aload_n (pc := 9) C dX1_leastNext_9 rfl 0 rfl ?_
    refine j_getR (pc := 10) C 60 3 61 (c_60 hCO).1 (c_60 hCO).2 rfl rfl (by decide) inw_X1 wd_224 dX1_leastNext_10 ?_
    refine j_iload_n (pc := 13) C dX1_leastNext_13 rfl 1 rfl ?_
    refine j_iload_n (pc := 14) C dX1_leastNext_14 rfl 2 rfl ?_
    refine j_isub (pc := 15) C dX1_leastNext_15 ?_
    obtain ⟨g2, h⟩ := h
    refine j_iald (pc := 16) C 61 (c_61 hCO).1 (c_61 hCO).2 g2 dX1_leastNext_16 ?_
    exact j_iret (pc := 17) C hR (Nat.zero_le _) (Nat.zero_le _) dX1_leastNext_17 ⟨_, rfl, rfl, rfl, rfl, h⟩
  · have h := h.2 c1
    refine j_iconst (pc := 5) (v := 1) C dX1_leastNext_5 (by decide) ?_
    refine j_goto (pc := 6) (tgt := 17) C dX1_leastNext_6 (by decide) ?_
    exact j_iret (pc := 17) C hR (Nat.zero_le _) (Nat.zero_le _) dX1_leastNext_17 ⟨_, rfl, rfl, rfl, rfl, h⟩
/-! TileRules$CornerSet.extend(III)Z -/
abbrev rm_X1_extend (f0 l0 : Nat) : Room := { frames := f0 + 4, cells := 0, slots := 0, locals := l0 + 90 }
def w_X1_extend_56 (rc : Int32 → Int32 → Int32 → gI → (Int32 → gI → Prop) → Prop) (Po : Int32 → gI → Prop) (K27 : Int32 → gI → Prop) (v1 : Int32) (v2 : Int32) (v3 : Int32) (v4 : Int32) (I : gI) : Prop :=
  ∀ n7 : Int32, n7 = v4 + 1 → K27 n7 I
def w_X1_extend_27b (rc : Int32 → Int32 → Int32 → gI → (Int32 → gI → Prop) → Prop) (Po : Int32 → gI → Prop) (K27 : Int32 → gI → Prop) (v1 : Int32) (v2 : Int32) (v3 : Int32) (v4 : Int32) (I : gI) : Prop :=
  (v3 < v4 → Po (0 : Int32) I) ∧ (¬ v3 < v4 → wp_X1_has v4 I (fun r5 => (r5 = 0 → w_X1_extend_56 rc Po K27 v1 v2 v3 v4 I) ∧ (¬ r5 = 0 → wp_X1_extendBy rc v4 v1 v2 v3 I (fun r8 I9 => (r8 = 0 → w_X1_extend_56 rc Po K27 v1 v2 v3 v4 I9) ∧ (¬ r8 = 0 → Po (1 : Int32) I9)))))
def w_X1_extend_27 (rc : Int32 → Int32 → Int32 → gI → (Int32 → gI → Prop) → Prop) (Po : Int32 → gI → Prop)  (v1 : Int32) (v2 : Int32) (v3 : Int32) (v4 : Int32) (I : gI) : Prop :=
  ∃ (Inv : Int32 → gI → Prop) (mu : Int32 → gI → Nat), Inv v4 I ∧ ∀ (v4 : Int32) (I : gI), Inv v4 I → w_X1_extend_27b rc Po  (fun u4 I1 => Inv u4 I1 ∧ mu u4 I1 < mu v4 I) v1 v2 v3 v4 I
def wb_X1_extend (rc : Int32 → Int32 → Int32 → gI → (Int32 → gI → Prop) → Prop) (a1 : Int32) (a2 : Int32) (a3 : Int32) (I : gI) (Po : Int32 → gI → Prop) : Prop :=
  (¬ a3 = 0 → (a1 < (18 : Int32) → wp_X1_leastNext a1 a2 I (fun r3 => w_X1_extend_27 rc Po a1 a2 a3 r3 I)) ∧ (¬ a1 < (18 : Int32) → Po (0 : Int32) I)) ∧ (a3 = 0 → wp_X1_isWanted a1 a2 I (fun r11 I12 => (r11 = 0 ∨ r11 = 1) ∧ Po r11 I12))
set_option maxRecDepth 100000 in
set_option maxHeartbeats 4000000 in
theorem t_X1_extend_56 {X : gX} {l : Launch} {D : va_G} {cy : Nat → ClassId} {nm : String} {V : gV} {rc : Int32 → Int32 → Int32 → gI → (Int32 → gI → Prop) → Prop} {f0 l0 : Nat} (hCO : gModCO V) (hrc : ∀ (b0 : Int32) (b1 : Int32) (b2 : Int32) (I0 : gI) (J0 : gL) (Q0 : Int32 → gI → Prop), rc b0 b1 b2 I0 Q0 → gMet l D cy yX1_extend cX1_extend 5 (some .boolean) { frames := f0, cells := 0, slots := 0, locals := l0 } V [.ref (V.2.1 60), .int b0, .int b1, .int b2] I0 J0 (gPi V (fun x I' J' => J0 = J' ∧ Q0 x I'))) (C : gC X cX1_extend RX1 (some .boolean) 5 (rm_X1_extend f0 l0)) (hX : gIs X l D cy nm) {I : gI} {J : gL} {Po : Int32 → gI → Prop} (hR : gR X (gPi V (fun x I' J' => J = J' ∧ Po x I'))) {v1 : Int32} {v2 : Int32} {v3 : Int32} {v4 : Int32} {K27 : Int32 → gI → Prop} (hK27 : ∀ (y4 : Int32) (I1 : gI), K27 y4 I1 → gJ X V 0 0 27 [(0, .ref (V.2.1 60)), (1, .int v1), (2, .int v2), (3, .int v3), (4, .int y4)] [] I1 J) (h : w_X1_extend_56 rc Po K27 v1 v2 v3 v4 I) : gJ X V 0 0 56 [(0, .ref (V.2.1 60)), (1, .int v1), (2, .int v2), (3, .int v3), (4, .int v4)] [] I J := by
  unfold w_X1_extend_56 at h
  obtain ⟨n7, en7⟩ : ∃ z : Int32, z = v4 + 1 := ⟨_, rfl⟩
  have h := h n7 en7
  refine j_iinc (pc := 56) (v := n7) (lv' := [(4, .int n7), (0, .ref (V.2.1 60)), (1, .int v1), (2, .int v2), (3, .int v3)]) C dX1_extend_56 4 rfl (by rw [en7]; rfl) (by decide) rfl ?_
  refine j_goto (pc := 59) (tgt := 27) C dX1_extend_59 (by decide) ?_
  refine gJ.sub [1, 2, 3, 4, 0] rfl ?_
  exact hK27 _ _ h
set_option maxRecDepth 100000 in
set_option maxHeartbeats 4000000 in
theorem t_X1_extend_27b {X : gX} {l : Launch} {D : va_G} {cy : Nat → ClassId} {nm : String} {V : gV} {rc : Int32 → Int32 → Int32 → gI → (Int32 → gI → Prop) → Prop} {f0 l0 : Nat} (hCO : gModCO V) (hrc : ∀ (b0 : Int32) (b1 : Int32) (b2 : Int32) (I0 : gI) (J0 : gL) (Q0 : Int32 → gI → Prop), rc b0 b1 b2 I0 Q0 → gMet l D cy yX1_extend cX1_extend 5 (some .boolean) { frames := f0, cells := 0, slots := 0, locals := l0 } V [.ref (V.2.1 60), .int b0, .int b1, .int b2] I0 J0 (gPi V (fun x I' J' => J0 = J' ∧ Q0 x I'))) (C : gC X cX1_extend RX1 (some .boolean) 5 (rm_X1_extend f0 l0)) (hX : gIs X l D cy nm) {I : gI} {J : gL} {Po : Int32 → gI → Prop} (hR : gR X (gPi V (fun x I' J' => J = J' ∧ Po x I'))) {v1 : Int32} {v2 : Int32} {v3 : Int32} {v4 : Int32} {K27 : Int32 → gI → Prop} (hK27 : ∀ (y4 : Int32) (I1 : gI), K27 y4 I1 → gJ X V 0 0 27 [(0, .ref (V.2.1 60)), (1, .int v1), (2, .int v2), (3, .int v3), (4, .int y4)] [] I1 J) (h : w_X1_extend_27b rc Po K27 v1 v2 v3 v4 I) : gJ X V 0 0 27 [(0, .ref (V.2.1 60)), (1, .int v1), (2, .int v2), (3, .int v3), (4, .int v4)] [] I J := by
  unfold w_X1_extend_27b at h
  refine j_iload (pc := 27) C dX1_extend_27 4 rfl ?_
  refine j_iload_n (pc := 29) C dX1_extend_29 rfl 3 rfl ?_
  refine j_icmp_gt (pc := 30) (tgt := 62) C dX1_extend_30 (by decide) (fun c4 => ?_) (fun c4 => ?_)
  · have h := h.1 c4
    refine j_iconst (pc := 62) (v := 0) C dX1_extend_62 (by decide) ?_
    exact j_zret (pc := 63) C hR (Or.inl rfl) (Nat.zero_le _) (Nat.zero_le _) dX1_extend_63 ⟨_, rfl, rfl, rfl, h⟩
  · have h := h.2 c4
    refine j_aload_n (pc := 33) C dX1_extend_33 rfl 0 rfl ?_
    refine j_iload (pc := 34) C dX1_extend_34 4 rfl ?_
    refine j_callV (pc := 36) (As := [.int v4]) (st := []) C hX 60 (m_X1_has hCO  h) (c_60 hCO).1 (c_60 hCO).2 rfl ok_X1_has wd_941 wd_891 wd_892 ⟨show 0 + 1 ≤ f0 + 4 by omega, show 8 + (2 + 11) + (0) ≤ l0 + 90 by omega⟩ rfl rfl (Nat.le_of_ble_eq_true rfl) ⟨Nat.le_refl 0, Nat.le_refl 0⟩ dX1_extend_36 (fun r V1 I1 J1 hp => ?_)
    obtain ⟨r5, rfl, rfl, rfl, rfl, h⟩ := hp
    show gJ X V 0 0 39 _ [.int r5] _ _
    refine j_if_eq (pc := 39) (tgt := 56) C dX1_extend_39 (by decide) (fun c6 => ?_) (fun c6 => ?_)
    · have h := h.1 c6
      refine gJ.sub [0, 1, 2, 3, 4] rfl ?_
      exact t_X1_extend_56 hCO hrc C hX hR  hK27 h
    · have h := h.2 c6
      refine j_aload_n (pc := 42) C dX1_extend_42 rfl 0 rfl ?_
      refine j_iload (pc := 43) C dX1_extend_43 4 rfl ?_
      refine j_iload_n (pc := 45) C dX1_extend_45 rfl 1 rfl ?_
      refine j_iload_n (pc := 46) C dX1_extend_46 rfl 2 rfl ?_
      refine j_iload_n (pc := 47) C dX1_extend_47 rfl 3 rfl ?_
      refine j_callV (pc := 48) (As := [.int v4, .int v1, .int v2, .int v3]) (st := []) C hX 60 (m_X1_extendBy hCO hrc h) (c_60 hCO).1 (c_60 hCO).2 rfl ok_X1_extendBy wd_942 wd_944 wd_44 ⟨show f0 + 1 + 1 ≤ f0 + 4 by omega, show 8 + (6 + 11) + (l0 + 24) ≤ l0 + 90 by omega⟩ rfl rfl (Nat.le_of_ble_eq_true rfl) ⟨Nat.le_refl 0, Nat.le_refl 0⟩ dX1_extend_48 (fun r V1 I9 J1 hp => ?_)
      obtain ⟨r8, rfl, rfl, rfl, h⟩ := hp
      show gJ X V 0 0 51 _ [.int r8] _ _
      refine j_if_eq (pc := 51) (tgt := 56) C dX1_extend_51 (by decide) (fun c10 => ?_) (fun c10 => ?_)
      · have h := h.1 c10
        refine gJ.sub [0, 1, 2, 3, 4] rfl ?_
        exact t_X1_extend_56 hCO hrc C hX hR  hK27 h
      · have h := h.2 c10
        refine j_iconst (pc := 54) (v := 1) C dX1_extend_54 (by decide) ?_
        exact j_zret (pc := 55) C hR (Or.inr rfl) (Nat.zero_le _) (Nat.zero_le _) dX1_extend_55 ⟨_, rfl, rfl, rfl, h⟩
set_option maxRecDepth 100000 in
set_option maxHeartbeats 4000000 in
theorem t_X1_extend_27 {X : gX} {l : Launch} {D : va_G} {cy : Nat → ClassId} {nm : String} {V : gV} {rc : Int32 → Int32 → Int32 → gI → (Int32 → gI → Prop) → Prop} {f0 l0 : Nat} (hCO : gModCO V) (hrc : ∀ (b0 : Int32) (b1 : Int32) (b2 : Int32) (I0 : gI) (J0 : gL) (Q0 : Int32 → gI → Prop), rc b0 b1 b2 I0 Q0 → gMet l D cy yX1_extend cX1_extend 5 (some .boolean) { frames := f0, cells := 0, slots := 0, locals := l0 } V [.ref (V.2.1 60), .int b0, .int b1, .int b2] I0 J0 (gPi V (fun x I' J' => J0 = J' ∧ Q0 x I'))) (C : gC X cX1_extend RX1 (some .boolean) 5 (rm_X1_extend f0 l0)) (hX : gIs X l D cy nm) {I : gI} {J : gL} {Po : Int32 → gI → Prop} (hR : gR X (gPi V (fun x I' J' => J = J' ∧ Po x I'))) {v1 : Int32} {v2 : Int32} {v3 : Int32} {v4 : Int32} (h : w_X1_extend_27 rc Po v1 v2 v3 v4 I) : gJ X V 0 0 27 [(0, .ref (V.2.1 60)), (1, .int v1), (2, .int v2), (3, .int v3), (4, .int v4)] [] I J := by
  unfold w_X1_extend_27 at h
  obtain ⟨Inv, mu, h0, hs⟩ := h
  have key : ∀ (n : Nat) (v4 : Int32) (I : gI), Inv v4 I → mu v4 I < n → gJ X V 0 0 27 [(0, .ref (V.2.1 60)), (1, .int v1), (2, .int v2), (3, .int v3), (4, .int v4)] [] I J := by
    intro n
    induction n with
    | zero => intro v4 I hi hn; exact absurd hn (Nat.not_lt_zero _)
    | succ n ih =>
      intro v4 I hi hn
      exact t_X1_extend_27b hCO hrc C hX hR   (fun u4 I1 hk => ih u4 I1 hk.1 (Nat.lt_of_lt_of_le hk.2 (Nat.le_of_lt_succ hn))) (hs v4 I hi)
  exact key _ v4 I h0 (Nat.lt_succ_self _)
set_option maxRecDepth 100000 in
set_option maxHeartbeats 4000000 in
theorem mb_X1_extend {l : Launch} {D : va_G} {cy : Nat → ClassId} {V : gV} {rc : Int32 → Int32 → Int32 → gI → (Int32 → gI → Prop) → Prop} {f0 l0 : Nat} (hCO : gModCO V) (hrc : ∀ (b0 : Int32) (b1 : Int32) (b2 : Int32) (I0 : gI) (J0 : gL) (Q0 : Int32 → gI → Prop), rc b0 b1 b2 I0 Q0 → gMet l D cy yX1_extend cX1_extend 5 (some .boolean) { frames := f0, cells := 0, slots := 0, locals := l0 } V [.ref (V.2.1 60), .int b0, .int b1, .int b2] I0 J0 (gPi V (fun x I' J' => J0 = J' ∧ Q0 x I'))) {a1 : Int32} {a2 : Int32} {a3 : Int32} {I : gI} {J : gL} {Po : Int32 → gI → Prop} (h : wb_X1_extend rc a1 a2 a3 I Po) : gMet l D cy yX1_extend cX1_extend 5 (some .boolean) (rm_X1_extend f0 l0) V [.ref (V.2.1 60), .int a1, .int a2, .int a3] I J (gPi V (fun x I' J' => J = J' ∧ Po x I')) := by
  refine gMet.of (by decide) (Nat.le_of_ble_eq_true rfl) (fun X hX C hR => ?_)
  have C : gC X cX1_extend RX1 (some .boolean) 5 (rm_X1_extend f0 l0) := C
  show gJ X V 0 0 0 [(0, .ref (V.2.1 60)), (1, .int a1), (2, .int a2), (3, .int a3)] [] I J
  unfold wb_X1_extend at h
  refine j_iload_n (pc := 0) C dX1_extend_0 rfl 3 rfl ?_
  refine j_if_ne (pc := 1) (tgt := 11) C dX1_extend_1 (by decide) (fun c1 => ?_) (fun c1 => ?_)
  · have h := h.1 c1
    refine j_iload_n (pc := 11) C dX1_extend_11 rfl 1 rfl ?_
    refine j_bipush (pc := 12) (v := 18) C dX1_extend_12 (by decide) ?_
    refine j_icmp_lt (pc := 14) (tgt := 19) C dX1_extend_14 (by decide) (fun c2 => ?_) (fun c2 => ?_)
    · have h := h.1 c2
      refine j_aload_n (pc := 19) C dX1_extend_19 rfl 0 rfl ?_
      refine j_iload_n (pc := 20) C dX1_extend_20 rfl 1 rfl ?_
      refine j_iload_n (pc := 21) C dX1_extend_21 rfl 2 rfl ?_
      refine j_callV (pc := 22) (As := [.int a1, .int a2]) (st := []) C hX 60 (m_X1_leastNext hCO  h) (c_60 hCO).1 (c_60 hCO).2 rfl ok_X1_leastNext wd_937 wd_939 wd_43 ⟨show 0 + 1 ≤ f0 + 4 by omega, show 8 + (3 + 11) + (0) ≤ l0 + 90 by omega⟩ rfl rfl (Nat.le_of_ble_eq_true rfl) ⟨Nat.le_refl 0, Nat.le_refl 0⟩ dX1_extend_22 (fun r V1 I1 J1 hp => ?_)
      obtain ⟨r3, rfl, rfl, rfl, rfl, h⟩ := hp
      show gJ X V 0 0 25 _ [.int r3] _ _
      refine j_istore (pc := 25) (lv' := [(4, .int r3), (0, .ref (V.2.1 60)), (1, .int a1), (2, .int a2), (3, .int a3)]) C dX1_extend_25 (by decide) rfl ?_
      refine gJ.sub [1, 2, 3, 4, 0] rfl ?_
      exact t_X1_extend_27 hCO hrc C hX hR   h
    · have h := h.2 c2
      refine j_iconst (pc := 17) (v := 0) C dX1_extend_17 (by decide) ?_
      exact j_zret (pc := 18) C hR (Or.inl rfl) (Nat.zero_le _) (Nat.zero_le _) dX1_extend_18 ⟨_, rfl, rfl, rfl, h⟩
  · have h := h.2 c1
    refine j_aload_n (pc := 4) C dX1_extend_4 rfl 0 rfl ?_
    refine j_iload_n (pc := 5) C dX1_extend_5 rfl 1 rfl ?_
    refine j_iload_n (pc := 6) C dX1_extend_6 rfl 2 rfl ?_
    refine j_callV (pc := 7) (As := [.int a1, .int a2]) (st := []) C hX 60 (m_X1_isWanted hCO  h) (c_60 hCO).1 (c_60 hCO).2 rfl ok_X1_isWanted wd_922 wd_924 wd_40 ⟨show 3 + 1 ≤ f0 + 4 by omega, show 8 + (4 + 11) + (67) ≤ l0 + 90 by omega⟩ rfl rfl (Nat.le_of_ble_eq_true rfl) ⟨Nat.le_refl 0, Nat.le_refl 0⟩ dX1_extend_7 (fun r V1 I12 J1 hp => ?_)
    obtain ⟨r11, rfl, rfl, rfl, h⟩ := hp
    show gJ X V 0 0 10 _ [.int r11] _ _
    obtain ⟨g13, h⟩ := h
    exact j_zret (pc := 10) C hR g13 (Nat.zero_le _) (Nat.zero_le _) dX1_extend_10 ⟨_, rfl, rfl, rfl, h⟩
def wp_X1_extend : Nat → Int32 → Int32 → Int32 → gI → (Int32 → gI → Prop) → Prop
  | 0 => fun _ _ _ _ _ => False
  | n + 1 => wb_X1_extend (wp_X1_extend n) 
abbrev rmn_X1_extend (n : Nat) : Room := { frames := 4 * n, cells := 0, slots := 0, locals := 90 * n }
theorem m_X1_extend {l : Launch} {D : va_G} {cy : Nat → ClassId} {V : gV} (hCO : gModCO V) : ∀ (n : Nat) (a1 : Int32) (a2 : Int32) (a3 : Int32) (I : gI) (J : gL) (Po : Int32 → gI → Prop), wp_X1_extend n a1 a2 a3 I Po → gMet l D cy yX1_extend cX1_extend 5 (some .boolean) (rmn_X1_extend n) V [.ref (V.2.1 60), .int a1, .int a2, .int a3] I J (gPi V (fun x I' J' => J = J' ∧ Po x I'))
  | 0, a1, a2, a3, I, J, Po, h => absurd h id
  | n + 1, a1, a2, a3, I, J, Po, h => mb_X1_extend (f0 := 4 * n) (l0 := 90 * n) hCO (fun b0 b1 b2 I0 J0 Q0 h0 => m_X1_extend hCO n b0 b1 b2 I0 J0 Q0 h0) h
/-! TileRules$CornerSet.search(ZI)Z -/
abbrev rm_X1_search : Room := { frames := 81, cells := 0, slots := 0, locals := 1824 }
theorem ok_X1_search : gOk yX1_search cX1_search 3 (some .boolean) 2 := ⟨wd_917, wd_73, by decide +kernel⟩
def wp_X1_search (a1 : Int32) (a2 : Int32) (I : gI) (Po : Int32 → gI → Prop) : Prop :=
  (a1 = 0 ∨ a1 = 1) ∧ ∀ I2 : gI, I2 = gup I 60 6 a1 → ∀ I3 : gI, I3 = gup I2 60 7 a2 → ∀ I4 : gI, I4 = gup I3 60 8 (0 : Int32) → wp_X1_extend 20 (0 : Int32) (1 : Int32) (I4 60 1) I4 (fun r5 I6 => (r5 = 0 ∨ r5 = 1) ∧ Po r5 I6)
set_option maxRecDepth 100000 in
set_option maxHeartbeats 4000000 in
theorem m_X1_search {l : Launch} {D : va_G} {cy : Nat → ClassId} {V : gV} (hCO : gModCO V) {a1 : Int32} {a2 : Int32} {I : gI} {J : gL} {Po : Int32 → gI → Prop} (h : wp_X1_search a1 a2 I Po) : gMet l D cy yX1_search cX1_search 3 (some .boolean) rm_X1_search V [.ref (V.2.1 60), .int a1, .int a2] I J (gPi V (fun x I' J' => J = J' ∧ Po x I')) := by
  refine gMet.of (by decide) (Nat.le_of_ble_eq_true rfl) (fun X hX C hR => ?_)
  have C : gC X cX1_search RX1 (some .boolean) 3 rm_X1_search := C
  show gJ X V 0 0 0 [(0, .ref (V.2.1 60)), (1, .int a1), (2, .int a2)] [] I J
  unfold wp_X1_search at h
  refine j_aload_n (pc := 0) C dX1_search_0 rfl 0 rfl ?_
  refine j_iload_n (pc := 1) C dX1_search_1 rfl 1 rfl ?_
  obtain ⟨g1, h⟩ := h
  refine j_putI (pc := 2) (ft := .boolean) C tyX1 tyX1_ok nmX1 60 6 (c_60 hCO).1 (c_60 hCO).2 rfl rfl (by decide) inw_X1 wd_228 rfl (by decide +kernel) (by rcases g1 with q | q <;> rw [q] <;> rfl) (by rcases g1 with q | q <;> rw [q] <;> rfl) dX1_search_2 ?_
  refine gJ.nmI (fun I2 eI2 => ?_)
  have h := h I2 eI2
  refine j_aload_n (pc := 5) C dX1_search_5 rfl 0 rfl ?_
  refine j_iload_n (pc := 6) C dX1_search_6 rfl 2 rfl ?_
  refine j_putI (pc := 7) (ft := .int) C tyX1 tyX1_ok nmX1 60 7 (c_60 hCO).1 (c_60 hCO).2 rfl rfl (by decide) inw_X1 wd_229 rfl (by decide +kernel) rfl rfl dX1_search_7 ?_
  refine gJ.nmI (fun I3 eI3 => ?_)
  have h := h I3 eI3
  refine j_aload_n (pc := 10) C dX1_search_10 rfl 0 rfl ?_
  refine j_iconst (pc := 11) (v := 0) C dX1_search_11 (by decide) ?_
  refine j_putI (pc := 12) (ft := .int) C tyX1 tyX1_ok nmX1 60 8 (c_60 hCO).1 (c_60 hCO).2 rfl rfl (by decide) inw_X1 wd_230 rfl (by decide +kernel) rfl rfl dX1_search_12 ?_
  refine gJ.nmI (fun I4 eI4 => ?_)
  have h := h I4 eI4
  refine j_aload_n (pc := 15) C dX1_search_15 rfl 0 rfl ?_
  refine j_iconst (pc := 16) (v := 0) C dX1_search_16 (by decide) ?_
  refine j_iconst (pc := 17) (v := 1) C dX1_search_17 (by decide) ?_
  refine j_aload_n (pc := 18) C dX1_search_18 rfl 0 rfl ?_
  refine j_getI (pc := 19) C 60 1 (c_60 hCO).1 (c_60 hCO).2 rfl rfl (by decide) inw_X1 wd_220 dX1_search_19 ?_
  refine j_callV (pc := 22) (As := [.int (0 : Int32), .int (1 : Int32), .int (I4 60 1)]) (st := []) C hX 60 (m_X1_extend hCO 20 _ _ _ _ _ _ h) (c_60 hCO).1 (c_60 hCO).2 rfl ok_X1_extend wd_918 wd_920 wd_39 ⟨by decide, by decide⟩ rfl rfl (Nat.le_of_ble_eq_true rfl) ⟨Nat.le_refl 0, Nat.le_refl 0⟩ dX1_search_22 (fun r V1 I6 J1 hp => ?_)
  obtain ⟨r5, rfl, rfl, rfl, h⟩ := hp
  show gJ X V 0 0 25 _ [.int r5] _ _
  obtain ⟨g7, h⟩ := h
  exact j_zret (pc := 25) C hR g7 (Nat.zero_le _) (Nat.zero_le _) dX1_search_25 ⟨_, rfl, rfl, rfl, h⟩
/-! TileRules$CornerSet.countRows(Z)I -/
abbrev rm_X1_countRows : Room := { frames := 82, cells := 0, slots := 0, locals := 1846 }
theorem ok_X1_countRows : gOk yX1_countRows cX1_countRows 2 (some .int) 1 := ⟨wd_913, wd_73, by decide +kernel⟩
def wp_X1_countRows (a1 : Int32) (I : gI) (Po : Int32 → gI → Prop) : Prop :=
  wp_X1_search a1 (-1 : Int32) I (fun r1 I2 => Po (I2 60 8) I2)
set_option maxRecDepth 100000 in
set_option maxHeartbeats 4000000 in
theorem m_X1_countRows {l : Launch} {D : va_G} {cy : Nat → ClassId} {V : gV} (hCO : gModCO V) {a1 : Int32} {I : gI} {J : gL} {Po : Int32 → gI → Prop} (h : wp_X1_countRows a1 I Po) : gMet l D cy yX1_countRows cX1_countRows 2 (some .int) rm_X1_countRows V [.ref (V.2.1 60), .int a1] I J (gPi V (fun x I' J' => J = J' ∧ Po x I')) := by
  refine gMet.of (by decide) (Nat.le_of_ble_eq_true rfl) (fun X hX C hR => ?_)
  have C : gC X cX1_countRows RX1 (some .int) 2 rm_X1_countRows := C
  show gJ X V 0 0 0 [(0, .ref (V.2.1 60)), (1, .int a1)] [] I J
  unfold wp_X1_countRows at h
  refine j_aload_n (pc := 0) C dX1_countRows_0 rfl 0 rfl ?_
  refine j_iload_n (pc := 1) C dX1_countRows_1 rfl 1 rfl ?_
  refine j_iconst (pc := 2) (v := (-1)) C dX1_countRows_2 (by decide) ?_
  refine j_callV (pc := 3) (As := [.int a1, .int (-1 : Int32)]) (st := []) C hX 60 (m_X1_search hCO  h) (c_60 hCO).1 (c_60 hCO).2 rfl ok_X1_search wd_914 wd_916 wd_38 ⟨by decide, by decide⟩ rfl rfl (Nat.le_of_ble_eq_true rfl) ⟨Nat.le_refl 0, Nat.le_refl 0⟩ dX1_countRows_3 (fun r V1 I2 J1 hp => ?_)
  obtain ⟨r1, rfl, rfl, rfl, h⟩ := hp
  show gJ X V 0 0 6 _ [.int r1] _ _
  refine j_pop (pc := 6) C dX1_countRows_6 rfl ?_
  refine j_aload_n (pc := 7) C dX1_countRows_7 rfl 0 rfl ?_
  refine j_getI (pc := 8) C 60 8 (c_60 hCO).1 (c_60 hCO).2 rfl rfl (by decide) inw_X1 wd_230 dX1_countRows_8 ?_
  exact j_iret (pc := 11) C hR (Nat.zero_le _) (Nat.zero_le _) dX1_countRows_11 ⟨_, rfl, rfl, rfl, h⟩
/-! TileRules$CornerSet.findRow(ZI)Z -/
abbrev rm_X1_findRow : Room := { frames := 82, cells := 0, slots := 0, locals := 1846 }
theorem ok_X1_findRow : gOk yX1_findRow cX1_findRow 3 (some .boolean) 2 := ⟨wd_953, wd_73, by decide +kernel⟩
def wp_X1_findRow (a1 : Int32) (a2 : Int32) (I : gI) (Po : Int32 → gI → Prop) : Prop :=
  wp_X1_search a1 a2 I (fun r1 I2 => (r1 = 0 ∨ r1 = 1) ∧ Po r1 I2)
set_option maxRecDepth 100000 in
set_option maxHeartbeats 4000000 in
theorem m_X1_findRow {l : Launch} {D : va_G} {cy : Nat → ClassId} {V : gV} (hCO : gModCO V) {a1 : Int32} {a2 : Int32} {I : gI} {J : gL} {Po : Int32 → gI → Prop} (h : wp_X1_findRow a1 a2 I Po) : gMet l D cy yX1_findRow cX1_findRow 3 (some .boolean) rm_X1_findRow V [.ref (V.2.1 60), .int a1, .int a2] I J (gPi V (fun x I' J' => J = J' ∧ Po x I')) := by
  refine gMet.of (by decide) (Nat.le_of_ble_eq_true rfl) (fun X hX C hR => ?_)
  have C : gC X cX1_findRow RX1 (some .boolean) 3 rm_X1_findRow := C
  show gJ X V 0 0 0 [(0, .ref (V.2.1 60)), (1, .int a1), (2, .int a2)] [] I J
  unfold wp_X1_findRow at h
  refine j_aload_n (pc := 0) C dX1_findRow_0 rfl 0 rfl ?_
  refine j_iload_n (pc := 1) C dX1_findRow_1 rfl 1 rfl ?_
  refine j_iload_n (pc := 2) C dX1_findRow_2 rfl 2 rfl ?_
  refine j_callV (pc := 3) (As := [.int a1, .int a2]) (st := []) C hX 60 (m_X1_search hCO  h) (c_60 hCO).1 (c_60 hCO).2 rfl ok_X1_search wd_914 wd_916 wd_38 ⟨by decide, by decide⟩ rfl rfl (Nat.le_of_ble_eq_true rfl) ⟨Nat.le_refl 0, Nat.le_refl 0⟩ dX1_findRow_3 (fun r V1 I2 J1 hp => ?_)
  obtain ⟨r1, rfl, rfl, rfl, h⟩ := hp
  show gJ X V 0 0 6 _ [.int r1] _ _
  obtain ⟨g3, h⟩ := h
  exact j_zret (pc := 6) C hR g3 (Nat.zero_le _) (Nat.zero_le _) dX1_findRow_6 ⟨_, rfl, rfl, rfl, h⟩
/-! TileRules$Jigsaw.pieceSize(I)I -/
abbrev rm_X4_pieceSize : Room := { frames := 1, cells := 0, slots := 0, locals := 20 }
theorem ok_X4_pieceSize : gOk yX4_pieceSize cX4_pieceSize 2 (some .int) 1 := ⟨wd_661, wd_71, by decide +kernel⟩
def wp_X4_pieceSize (a1 : Int32) (I : gI) (Po : Int32 → Prop) : Prop :=
  vp_in a1 6 ∧ wp_J6_bitCount_0f7a4 (I 21 (a1).toNatClampNeg) (fun r2 => Po r2)
set_option maxRecDepth 100000 in
set_option maxHeartbeats 4000000 in
theorem m_X4_pieceSize {l : Launch} {D : va_G} {cy : Nat → ClassId} {V : gV} (hJG : gModJG V) {a1 : Int32} {I : gI} {J : gL} {Po : Int32 → Prop} (h : wp_X4_pieceSize a1 I Po) : gMet l D cy yX4_pieceSize cX4_pieceSize 2 (some .int) rm_X4_pieceSize V [.ref (V.2.1 20), .int a1] I J (gPi V (fun x I' J' => I = I' ∧ J = J' ∧ Po x)) := by
  refine gMet.of (by decide) (Nat.le_of_ble_eq_true rfl) (fun X hX C hR => ?_)
  have C : gC X cX4_pieceSize RX4 (some .int) 2 rm_X4_pieceSize := C
  show gJ X V 0 0 0 [(0, .ref (V.2.1 20)), (1, .int a1)] [] I J
  unfold wp_X4_pieceSize at h
  refine j_aload_n (pc := 0) C dX4_pieceSize_0 rfl 0 rfl ?_
  refine j_getR (pc := 1) C 20 8 21 (c_20 hJG).1 (c_20 hJG).2 rfl rfl (by decide) inw_X4 wd_146 dX4_pieceSize_1 ?_
  refine j_iload_n (pc := 4) C dX4_pieceSize_4 rfl 1 rfl ?_
  obtain ⟨g1, h⟩ := h
  refine j_iald (pc := 5) C 21 (c_21 hJG).1 (c_21 hJG).2 g1 dX4_pieceSize_5 ?_
  refine j_callS (pc := 6) (As := [.int (I 21 (a1).toNatClampNeg)]) (st := []) C hX (m_J6_bitCount_0f7a4   h) ok_J6_bitCount_0f7a4 wd_662 wd_515 ⟨by decide, by decide⟩ rfl rfl (Nat.le_of_ble_eq_true rfl) ⟨Nat.le_refl 0, Nat.le_refl 0⟩ dX4_pieceSize_6 (fun r V1 I1 J1 hp => ?_)
  obtain ⟨r2, rfl, rfl, rfl, rfl, h⟩ := hp
  show gJ X V 0 0 9 _ [.int r2] _ _
  exact j_iret (pc := 9) C hR (Nat.zero_le _) (Nat.zero_le _) dX4_pieceSize_9 ⟨_, rfl, rfl, rfl, rfl, h⟩
/-! TileRules$Jigsaw.cellsFrom(III)I -/
abbrev rm_X4_cellsFrom : Room := { frames := 0, cells := 0, slots := 0, locals := 0 }
theorem ok_X4_cellsFrom : gOk yX4_cellsFrom cX4_cellsFrom 6 (some .int) 3 := ⟨wd_589, wd_71, by decide +kernel⟩
def w_X4_cellsFrom_6b  (Po : Int32 → Prop) (K6 : Int32 → Int32 → Prop) (v1 : Int32) (v2 : Int32) (v3 : Int32) (v4 : Int32) (v5 : Int32) (I : gI) : Prop :=
  (v1 ≤ v5 → Po v4) ∧ (¬ v1 ≤ v5 → vp_in v5 5 ∧ vp_in v5 5 ∧ ∀ n4 : Int32, n4 = (v4 ||| ((1 : Int32) <<< (((((I 20 1) * (v3 + (I 37 (v5).toNatClampNeg))) + v2) + (I 36 (v5).toNatClampNeg)) &&& 31))) → ∀ n5 : Int32, n5 = v5 + 1 → K6 n4 n5)
def w_X4_cellsFrom_6  (Po : Int32 → Prop)  (v1 : Int32) (v2 : Int32) (v3 : Int32) (v4 : Int32) (v5 : Int32) (I : gI) : Prop :=
  ∃ (Inv : Int32 → Int32 → Prop) (mu : Int32 → Int32 → Nat), Inv v4 v5 ∧ ∀ (v4 : Int32) (v5 : Int32), Inv v4 v5 → w_X4_cellsFrom_6b  Po  (fun u4 u5 => Inv u4 u5 ∧ mu u4 u5 < mu v4 v5) v1 v2 v3 v4 v5 I
def wp_X4_cellsFrom (a1 : Int32) (a2 : Int32) (a3 : Int32) (I : gI) (Po : Int32 → Prop) : Prop :=
  w_X4_cellsFrom_6 Po a1 a2 a3 (0 : Int32) (0 : Int32) I
set_option maxRecDepth 100000 in
set_option maxHeartbeats 4000000 in
theorem t_X4_cellsFrom_6b {X : gX} {l : Launch} {D : va_G} {cy : Nat → ClassId} {nm : String} {V : gV} (hJG : gModJG V) (C : gC X cX4_cellsFrom RX4 (some .int) 6 rm_X4_cellsFrom) (hX : gIs X l D cy nm) {I : gI} {J : gL} {Po : Int32 → Prop} (hR : gR X (gPi V (fun x I' J' => I = I' ∧ J = J' ∧ Po x))) {v1 : Int32} {v2 : Int32} {v3 : Int32} {v4 : Int32} {v5 : Int32} {K6 : Int32 → Int32 → Prop} (hK6 : ∀ (y4 : Int32) (y5 : Int32), K6 y4 y5 → gJ X V 0 0 6 [(0, .ref (V.2.1 20)), (1, .int v1), (2, .int v2), (3, .int v3), (4, .int y4), (5, .int y5)] [] I J) (h : w_X4_cellsFrom_6b Po K6 v1 v2 v3 v4 v5 I) : gJ X V 0 0 6 [(0, .ref (V.2.1 20)), (1, .int v1), (2, .int v2), (3, .int v3), (4, .int v4), (5, .int v5)] [] I J := by
  unfold w_X4_cellsFrom_6b at h
  refine j_iload (pc := 6) C dX4_cellsFrom_6 5 rfl ?_
  refine j_iload_n (pc := 8) C dX4_cellsFrom_8 rfl 1 rfl ?_
  refine j_icmp_ge (pc := 9) (tgt := 49) C dX4_cellsFrom_9 (by decide) (fun c1 => ?_) (fun c1 => ?_)
  · have h := h.1 c1
    refine j_iload (pc := 49) C dX4_cellsFrom_49 4 rfl ?_
    exact j_iret (pc := 51) C hR (Nat.zero_le _) (Nat.zero_le _) dX4_cellsFrom_51 ⟨_, rfl, rfl, rfl, rfl, h⟩
  · have h := h.2 c1
    refine j_iload (pc := 12) C dX4_cellsFrom_12 4 rfl ?_
    refine j_iconst (pc := 14) (v := 1) C dX4_cellsFrom_14 (by decide) ?_
    refine j_aload_n (pc := 15) C dX4_cellsFrom_15 rfl 0 rfl ?_
    refine j_getI (pc := 16) C 20 1 (c_20 hJG).1 (c_20 hJG).2 rfl rfl (by decide) inw_X4 wd_133 dX4_cellsFrom_16 ?_
    refine j_iload_n (pc := 19) C dX4_cellsFrom_19 rfl 3 rfl ?_
    refine j_aload_n (pc := 20) C dX4_cellsFrom_20 rfl 0 rfl ?_
    refine j_getR (pc := 21) C 20 12 37 (c_20 hJG).1 (c_20 hJG).2 rfl rfl (by decide) inw_X4 wd_150 dX4_cellsFrom_21 ?_
    refine j_iload (pc := 24) C dX4_cellsFrom_24 5 rfl ?_
    obtain ⟨g2, h⟩ := h
    refine j_iald (pc := 26) C 37 (c_37 hJG).1 (c_37 hJG).2 g2 dX4_cellsFrom_26 ?_
    refine j_iadd (pc := 27) C dX4_cellsFrom_27 ?_
    refine j_imul (pc := 28) C dX4_cellsFrom_28 ?_
    refine j_iload_n (pc := 29) C dX4_cellsFrom_29 rfl 2 rfl ?_
    refine j_iadd (pc := 30) C dX4_cellsFrom_30 ?_
    refine j_aload_n (pc := 31) C dX4_cellsFrom_31 rfl 0 rfl ?_
    refine j_getR (pc := 32) C 20 11 36 (c_20 hJG).1 (c_20 hJG).2 rfl rfl (by decide) inw_X4 wd_149 dX4_cellsFrom_32 ?_
    refine j_iload (pc := 35) C dX4_cellsFrom_35 5 rfl ?_
    obtain ⟨g3, h⟩ := h
    refine j_iald (pc := 37) C 36 (c_36 hJG).1 (c_36 hJG).2 g3 dX4_cellsFrom_37 ?_
    refine j_iadd (pc := 38) C dX4_cellsFrom_38 ?_
    refine j_ishl (pc := 39) C dX4_cellsFrom_39 ?_
    refine j_ior (pc := 40) C dX4_cellsFrom_40 ?_
    refine gJ.topi (fun n4 en4 => ?_)
    have h := h n4 en4
    refine j_istore (pc := 41) (lv' := [(4, .int n4), (0, .ref (V.2.1 20)), (1, .int v1), (2, .int v2), (3, .int v3), (5, .int v5)]) C dX4_cellsFrom_41 (by decide) rfl ?_
    obtain ⟨n5, en5⟩ : ∃ z : Int32, z = v5 + 1 := ⟨_, rfl⟩
    have h := h n5 en5
    refine j_iinc (pc := 43) (v := n5) (lv' := [(5, .int n5), (4, .int n4), (0, .ref (V.2.1 20)), (1, .int v1), (2, .int v2), (3, .int v3)]) C dX4_cellsFrom_43 5 rfl (by rw [en5]; rfl) (by decide) rfl ?_
    refine j_goto (pc := 46) (tgt := 6) C dX4_cellsFrom_46 (by decide) ?_
    refine gJ.sub [2, 3, 4, 5, 1, 0] rfl ?_
    exact hK6 _ _ h
set_option maxRecDepth 100000 in
set_option maxHeartbeats 4000000 in
theorem t_X4_cellsFrom_6 {X : gX} {l : Launch} {D : va_G} {cy : Nat → ClassId} {nm : String} {V : gV} (hJG : gModJG V) (C : gC X cX4_cellsFrom RX4 (some .int) 6 rm_X4_cellsFrom) (hX : gIs X l D cy nm) {I : gI} {J : gL} {Po : Int32 → Prop} (hR : gR X (gPi V (fun x I' J' => I = I' ∧ J = J' ∧ Po x))) {v1 : Int32} {v2 : Int32} {v3 : Int32} {v4 : Int32} {v5 : Int32} (h : w_X4_cellsFrom_6 Po v1 v2 v3 v4 v5 I) : gJ X V 0 0 6 [(0, .ref (V.2.1 20)), (1, .int v1), (2, .int v2), (3, .int v3), (4, .int v4), (5, .int v5)] [] I J := by
  unfold w_X4_cellsFrom_6 at h
  obtain ⟨Inv, mu, h0, hs⟩ := h
  have key : ∀ (n : Nat) (v4 : Int32) (v5 : Int32), Inv v4 v5 → mu v4 v5 < n → gJ X V 0 0 6 [(0, .ref (V.2.1 20)), (1, .int v1), (2, .int v2), (3, .int v3), (4, .int v4), (5, .int v5)] [] I J := by
    intro n
    induction n with
    | zero => intro v4 v5 hi hn; exact absurd hn (Nat.not_lt_zero _)
    | succ n ih =>
      intro v4 v5 hi hn
      exact t_X4_cellsFrom_6b hJG C hX hR   (fun u4 u5 hk => ih u4 u5 hk.1 (Nat.lt_of_lt_of_le hk.2 (Nat.le_of_lt_succ hn))) (hs v4 v5 hi)
  exact key _ v4 v5 h0 (Nat.lt_succ_self _)
set_option maxRecDepth 100000 in
set_option maxHeartbeats 4000000 in
theorem m_X4_cellsFrom {l : Launch} {D : va_G} {cy : Nat → ClassId} {V : gV} (hJG : gModJG V) {a1 : Int32} {a2 : Int32} {a3 : Int32} {I : gI} {J : gL} {Po : Int32 → Prop} (h : wp_X4_cellsFrom a1 a2 a3 I Po) : gMet l D cy yX4_cellsFrom cX4_cellsFrom 6 (some .int) rm_X4_cellsFrom V [.ref (V.2.1 20), .int a1, .int a2, .int a3] I J (gPi V (fun x I' J' => I = I' ∧ J = J' ∧ Po x)) := by
  refine gMet.of (by decide) (Nat.le_of_ble_eq_true rfl) (fun X hX C hR => ?_)
  have C : gC X cX4_cellsFrom RX4 (some .int) 6 rm_X4_cellsFrom := C
  show gJ X V 0 0 0 [(0, .ref (V.2.1 20)), (1, .int a1), (2, .int a2), (3, .int a3)] [] I J
  unfold wp_X4_cellsFrom at h
  refine j_iconst (pc := 0) (v := 0) C dX4_cellsFrom_0 (by decide) ?_
  refine j_istore (pc := 1) (lv' := [(4, .int (0 : Int32)), (0, .ref (V.2.1 20)), (1, .int a1), (2, .int a2), (3, .int a3)]) C dX4_cellsFrom_1 (by decide) rfl ?_
  refine j_iconst (pc := 3) (v := 0) C dX4_cellsFrom_3 (by decide) ?_
  refine j_istore (pc := 4) (lv' := [(5, .int (0 : Int32)), (4, .int (0 : Int32)), (0, .ref (V.2.1 20)), (1, .int a1), (2, .int a2), (3, .int a3)]) C dX4_cellsFrom_4 (by decide) rfl ?_
  refine gJ.sub [2, 3, 4, 5, 1, 0] rfl ?_
  exact t_X4_cellsFrom_6 hJG C hX hR   h
/-! TileRules$Jigsaw.listInOrder(II)V -/
abbrev rm_X4_listInOrder : Room := { frames := 1, cells := 0, slots := 0, locals := 21 }
theorem ok_X4_listInOrder : gOk yX4_listInOrder cX4_listInOrder 9 none 2 := ⟨wd_593, wd_71, by decide +kernel⟩
def w_X4_listInOrder_99b  (Po : gI → Prop) (K99 : Int32 → gI → Prop) (v1 : Int32) (v2 : Int32) (v3 : Int32) (v4 : Nat) (v7 : Int32) (v8 : Int32) (I : gI) : Prop :=
  (v8 ≤ v7 → vp_in v7 160 ∧ ∀ I15 : gI, I15 = gup I (23 + v4) (v7).toNatClampNeg v2 → vp_in v1 6 ∧ vp_in v3 20 ∧ vp_in v3 20 ∧ ∀ I19 : gI, I19 = gup I15 (30 + (v1).toNatClampNeg) (v3).toNatClampNeg ((I15 (30 + (v1).toNatClampNeg) (v3).toNatClampNeg) + (1 : Int32)) → Po I19) ∧ (¬ v8 ≤ v7 → vp_in (v8 - (1 : Int32)) 160 ∧ vp_in v8 160 ∧ ∀ I22 : gI, I22 = gup I (23 + v4) (v8).toNatClampNeg (I (23 + v4) ((v8 - (1 : Int32))).toNatClampNeg) → ∀ n23 : Int32, n23 = v8 + (-1) → K99 n23 I22)
def w_X4_listInOrder_99  (Po : gI → Prop)  (v1 : Int32) (v2 : Int32) (v3 : Int32) (v4 : Nat) (v7 : Int32) (v8 : Int32) (I : gI) : Prop :=
  ∃ (Inv : Int32 → gI → Prop) (mu : Int32 → gI → Nat), Inv v8 I ∧ ∀ (v8 : Int32) (I : gI), Inv v8 I → w_X4_listInOrder_99b  Po  (fun u8 I1 => Inv u8 I1 ∧ mu u8 I1 < mu v8 I) v1 v2 v3 v4 v7 v8 I
def w_X4_listInOrder_95  (Po : gI → Prop)  (v1 : Int32) (v2 : Int32) (v3 : Int32) (v4 : Nat) (v6 : Int32) (v7 : Int32) (I : gI) : Prop :=
  w_X4_listInOrder_99 Po v1 v2 v3 v4 v7 v6 I
def w_X4_listInOrder_78  (Po : gI → Prop)  (v1 : Int32) (v2 : Int32) (v3 : Int32) (v4 : Nat) (v6 : Int32) (v7 : Int32) (I : gI) : Prop :=
  (v6 ≤ v7 → w_X4_listInOrder_95 Po v1 v2 v3 v4 v6 v7 I) ∧ (¬ v6 ≤ v7 → vp_in v7 160 ∧ (¬ (I (23 + v4) (v7).toNatClampNeg) = v2 → w_X4_listInOrder_95 Po v1 v2 v3 v4 v6 v7 I) ∧ ((I (23 + v4) (v7).toNatClampNeg) = v2 → Po I))
def w_X4_listInOrder_56b  (Po : gI → Prop) (K56 : Int32 → Prop) (v1 : Int32) (v2 : Int32) (v3 : Int32) (v4 : Nat) (v6 : Int32) (v7 : Int32) (I : gI) : Prop :=
  (v6 ≤ v7 → w_X4_listInOrder_78 Po v1 v2 v3 v4 v6 v7 I) ∧ (¬ v6 ≤ v7 → vp_in v7 160 ∧ (v2 ≤ (I (23 + v4) (v7).toNatClampNeg) → w_X4_listInOrder_78 Po v1 v2 v3 v4 v6 v7 I) ∧ (¬ v2 ≤ (I (23 + v4) (v7).toNatClampNeg) → ∀ n28 : Int32, n28 = v7 + 1 → K56 n28))
def w_X4_listInOrder_56  (Po : gI → Prop)  (v1 : Int32) (v2 : Int32) (v3 : Int32) (v4 : Nat) (v6 : Int32) (v7 : Int32) (I : gI) : Prop :=
  ∃ (Inv : Int32 → Prop) (mu : Int32 → Nat), Inv v7 ∧ ∀ (v7 : Int32), Inv v7 → w_X4_listInOrder_56b  Po  (fun u7 => Inv u7 ∧ mu u7 < mu v7) v1 v2 v3 v4 v6 v7 I
def wp_X4_listInOrder (a1 : Int32) (a2 : Int32) (I : gI) (Po : gI → Prop) : Prop :=
  wp_J6_numberOfTrailingZeros_0f7a4 a2 (fun r1 => ((20 : Int32) ≤ r1 → Po I) ∧ (¬ (20 : Int32) ≤ r1 → vp_in a1 6 ∧ vp_in r1 20 ∧ ((I (30 + (a1).toNatClampNeg) (r1).toNatClampNeg) < (8 : Int32) → vp_in a1 6 ∧ ∀ n7 : Int32, n7 = (r1 * (8 : Int32)) → vp_in a1 6 ∧ vp_in r1 20 ∧ ∀ n10 : Int32, n10 = (n7 + (I (30 + (a1).toNatClampNeg) (r1).toNatClampNeg)) → w_X4_listInOrder_56 Po a1 a2 r1 ((a1).toNatClampNeg) n10 n7 I) ∧ (¬ (I (30 + (a1).toNatClampNeg) (r1).toNatClampNeg) < (8 : Int32) → Po I)))
set_option maxRecDepth 100000 in
set_option maxHeartbeats 4000000 in
theorem t_X4_listInOrder_99b {X : gX} {l : Launch} {D : va_G} {cy : Nat → ClassId} {nm : String} {V : gV} (hJG : gModJG V) (C : gC X cX4_listInOrder RX4 none 9 rm_X4_listInOrder) (hX : gIs X l D cy nm) {I : gI} {J : gL} {Po : gI → Prop} (hR : gR X (gPv V (fun I' J' => J = J' ∧ Po I'))) {v1 : Int32} {v2 : Int32} {v3 : Int32} {v4 : Nat} {v7 : Int32} {v8 : Int32} (hv4 : v4 < 6) {K99 : Int32 → gI → Prop} (hK99 : ∀ (y8 : Int32) (I1 : gI), K99 y8 I1 → gJ X V 0 0 99 [(0, .ref (V.2.1 20)), (1, .int v1), (2, .int v2), (3, .int v3), (4, .ref (V.2.1 (23 + v4))), (7, .int v7), (8, .int y8)] [] I1 J) (h : w_X4_listInOrder_99b Po K99 v1 v2 v3 v4 v7 v8 I) : gJ X V 0 0 99 [(0, .ref (V.2.1 20)), (1, .int v1), (2, .int v2), (3, .int v3), (4, .ref (V.2.1 (23 + v4))), (7, .int v7), (8, .int v8)] [] I J := by
  unfold w_X4_listInOrder_99b at h
  refine j_iload (pc := 99) C dX4_listInOrder_99 6 rfl ?_
  refine j_iload (pc := 101) C dX4_listInOrder_101 5 rfl ?_
  refine j_icmp_le (pc := 103) (tgt := 124) C dX4_listInOrder_103 (by decide) (fun c13 => ?_) (fun c13 => ?_)
  · have h := h.1 c13
    refine j_aload (pc := 124) C dX4_listInOrder_124 4 rfl ?_
    refine j_iload (pc := 126) C dX4_listInOrder_126 5 rfl ?_
    refine j_iload_n (pc := 128) C dX4_listInOrder_128 rfl 2 rfl ?_
    obtain ⟨g14, h⟩ := h
    refine j_iast (pc := 129) C (23 + v4) (f_23 hJG hv4).1 (f_23 hJG hv4).2 g14 dX4_listInOrder_129 ?_
    refine gJ.nmI (fun I15 eI15 => ?_)
    have h := h I15 eI15
    refine j_aload_n (pc := 130) C dX4_listInOrder_130 rfl 0 rfl ?_
    refine j_getR (pc := 131) C 20 10 29 (c_20 hJG).1 (c_20 hJG).2 rfl rfl (by decide) inw_X4 wd_148 dX4_listInOrder_131 ?_
    refine j_iload_n (pc := 134) C dX4_listInOrder_134 rfl 1 rfl ?_
    obtain ⟨g16, h⟩ := h
    refine j_aald (pc := 135) C 29 (30 + (v1).toNatClampNeg) (c_29 hJG).1 (c_29 hJG).2 g16 (gfam_at (vp_in_lt g16)) dX4_listInOrder_135 ?_
    refine j_iload_n (pc := 136) C dX4_listInOrder_136 rfl 3 rfl ?_
    refine j_dup2_11 (pc := 137) C dX4_listInOrder_137 rfl rfl ?_
    obtain ⟨g17, h⟩ := h
    refine j_iald (pc := 138) C (30 + (v1).toNatClampNeg) (f_30 hJG (vp_in_lt g16)).1 (f_30 hJG (vp_in_lt g16)).2 g17 dX4_listInOrder_138 ?_
    refine j_iconst (pc := 139) (v := 1) C dX4_listInOrder_139 (by decide) ?_
    refine j_iadd (pc := 140) C dX4_listInOrder_140 ?_
    obtain ⟨g18, h⟩ := h
    refine j_iast (pc := 141) C (30 + (v1).toNatClampNeg) (f_30 hJG (vp_in_lt g16)).1 (f_30 hJG (vp_in_lt g16)).2 g18 dX4_listInOrder_141 ?_
    refine gJ.nmI (fun I19 eI19 => ?_)
    have h := h I19 eI19
    exact j_vret (pc := 142) C hR (Nat.zero_le _) (Nat.zero_le _) dX4_listInOrder_142 ⟨rfl, rfl, rfl, h⟩
  · have h := h.2 c13
    refine j_aload (pc := 106) C dX4_listInOrder_106 4 rfl ?_
    refine j_iload (pc := 108) C dX4_listInOrder_108 6 rfl ?_
    refine j_aload (pc := 110) C dX4_listInOrder_110 4 rfl ?_
    refine j_iload (pc := 112) C dX4_listInOrder_112 6 rfl ?_
    refine j_iconst (pc := 114) (v := 1) C dX4_listInOrder_114 (by decide) ?_
    refine j_isub (pc := 115) C dX4_listInOrder_115 ?_
    obtain ⟨g20, h⟩ := h
    refine j_iald (pc := 116) C (23 + v4) (f_23 hJG hv4).1 (f_23 hJG hv4).2 g20 dX4_listInOrder_116 ?_
    obtain ⟨g21, h⟩ := h
    refine j_iast (pc := 117) C (23 + v4) (f_23 hJG hv4).1 (f_23 hJG hv4).2 g21 dX4_listInOrder_117 ?_
    refine gJ.nmI (fun I22 eI22 => ?_)
    have h := h I22 eI22
    obtain ⟨n23, en23⟩ : ∃ z : Int32, z = v8 + (-1) := ⟨_, rfl⟩
    have h := h n23 en23
    refine j_iinc (pc := 118) (v := n23) (lv' := [(8, .int n23), (0, .ref (V.2.1 20)), (1, .int v1), (2, .int v2), (3, .int v3), (4, .ref (V.2.1 (23 + v4))), (7, .int v7)]) C dX4_listInOrder_118 6 rfl (by rw [en23]; rfl) (by decide) rfl ?_
    refine j_goto (pc := 121) (tgt := 99) C dX4_listInOrder_121 (by decide) ?_
    refine gJ.sub [1, 2, 3, 4, 5, 6, 0] rfl ?_
    exact hK99 _ _ h
set_option maxRecDepth 100000 in
set_option maxHeartbeats 4000000 in
theorem t_X4_listInOrder_99 {X : gX} {l : Launch} {D : va_G} {cy : Nat → ClassId} {nm : String} {V : gV} (hJG : gModJG V) (C : gC X cX4_listInOrder RX4 none 9 rm_X4_listInOrder) (hX : gIs X l D cy nm) {I : gI} {J : gL} {Po : gI → Prop} (hR : gR X (gPv V (fun I' J' => J = J' ∧ Po I'))) {v1 : Int32} {v2 : Int32} {v3 : Int32} {v4 : Nat} {v7 : Int32} {v8 : Int32} (hv4 : v4 < 6) (h : w_X4_listInOrder_99 Po v1 v2 v3 v4 v7 v8 I) : gJ X V 0 0 99 [(0, .ref (V.2.1 20)), (1, .int v1), (2, .int v2), (3, .int v3), (4, .ref (V.2.1 (23 + v4))), (7, .int v7), (8, .int v8)] [] I J := by
  unfold w_X4_listInOrder_99 at h
  obtain ⟨Inv, mu, h0, hs⟩ := h
  have key : ∀ (n : Nat) (v8 : Int32) (I : gI), Inv v8 I → mu v8 I < n → gJ X V 0 0 99 [(0, .ref (V.2.1 20)), (1, .int v1), (2, .int v2), (3, .int v3), (4, .ref (V.2.1 (23 + v4))), (7, .int v7), (8, .int v8)] [] I J := by
    intro n
    induction n with
    | zero => intro v8 I hi hn; exact absurd hn (Nat.not_lt_zero _)
    | succ n ih =>
      intro v8 I hi hn
      exact t_X4_listInOrder_99b hJG C hX hR hv4  (fun u8 I1 hk => ih u8 I1 hk.1 (Nat.lt_of_lt_of_le hk.2 (Nat.le_of_lt_succ hn))) (hs v8 I hi)
  exact key _ v8 I h0 (Nat.lt_succ_self _)
set_option maxRecDepth 100000 in
set_option maxHeartbeats 4000000 in
theorem t_X4_listInOrder_95 {X : gX} {l : Launch} {D : va_G} {cy : Nat → ClassId} {nm : String} {V : gV} (hJG : gModJG V) (C : gC X cX4_listInOrder RX4 none 9 rm_X4_listInOrder) (hX : gIs X l D cy nm) {I : gI} {J : gL} {Po : gI → Prop} (hR : gR X (gPv V (fun I' J' => J = J' ∧ Po I'))) {v1 : Int32} {v2 : Int32} {v3 : Int32} {v4 : Nat} {v6 : Int32} {v7 : Int32} (hv4 : v4 < 6) (h : w_X4_listInOrder_95 Po v1 v2 v3 v4 v6 v7 I) : gJ X V 0 0 95 [(0, .ref (V.2.1 20)), (1, .int v1), (2, .int v2), (3, .int v3), (4, .ref (V.2.1 (23 + v4))), (6, .int v6), (7, .int v7)] [] I J := by
  unfold w_X4_listInOrder_95 at h
  refine j_iload (pc := 95) C dX4_listInOrder_95 5 rfl ?_
  refine j_istore (pc := 97) (lv' := [(8, .int v6), (0, .ref (V.2.1 20)), (1, .int v1), (2, .int v2), (3, .int v3), (4, .ref (V.2.1 (23 + v4))), (6, .int v6), (7, .int v7)]) C dX4_listInOrder_97 (by decide) rfl ?_
  refine gJ.sub [1, 2, 3, 4, 5, 7, 0] rfl ?_
  exact t_X4_listInOrder_99 hJG C hX hR hv4  h
set_option maxRecDepth 100000 in
set_option maxHeartbeats 4000000 in
theorem t_X4_listInOrder_78 {X : gX} {l : Launch} {D : va_G} {cy : Nat → ClassId} {nm : String} {V : gV} (hJG : gModJG V) (C : gC X cX4_listInOrder RX4 none 9 rm_X4_listInOrder) (hX : gIs X l D cy nm) {I : gI} {J : gL} {Po : gI → Prop} (hR : gR X (gPv V (fun I' J' => J = J' ∧ Po I'))) {v1 : Int32} {v2 : Int32} {v3 : Int32} {v4 : Nat} {v6 : Int32} {v7 : Int32} (hv4 : v4 < 6) (h : w_X4_listInOrder_78 Po v1 v2 v3 v4 v6 v7 I) : gJ X V 0 0 78 [(0, .ref (V.2.1 20)), (1, .int v1), (2, .int v2), (3, .int v3), (4, .ref (V.2.1 (23 + v4))), (6, .int v6), (7, .int v7)] [] I J := by
  unfold w_X4_listInOrder_78 at h
  refine j_iload (pc := 78) C dX4_listInOrder_78 6 rfl ?_
  refine j_iload (pc := 80) C dX4_listInOrder_80 5 rfl ?_
  refine j_icmp_ge (pc := 82) (tgt := 95) C dX4_listInOrder_82 (by decide) (fun c12 => ?_) (fun c12 => ?_)
  · have h := h.1 c12
    refine gJ.sub [0, 1, 2, 3, 4, 5, 6] rfl ?_
    exact t_X4_listInOrder_95 hJG C hX hR hv4  h
  · have h := h.2 c12
    refine j_aload (pc := 85) C dX4_listInOrder_85 4 rfl ?_
    refine j_iload (pc := 87) C dX4_listInOrder_87 6 rfl ?_
    obtain ⟨g24, h⟩ := h
    refine j_iald (pc := 89) C (23 + v4) (f_23 hJG hv4).1 (f_23 hJG hv4).2 g24 dX4_listInOrder_89 ?_
    refine j_iload_n (pc := 90) C dX4_listInOrder_90 rfl 2 rfl ?_
    refine j_icmp_ne (pc := 91) (tgt := 95) C dX4_listInOrder_91 (by decide) (fun c25 => ?_) (fun c25 => ?_)
    · have h := h.1 c25
      refine gJ.sub [0, 1, 2, 3, 4, 5, 6] rfl ?_
      exact t_X4_listInOrder_95 hJG C hX hR hv4  h
    · have h := h.2 c25
      exact j_vret (pc := 94) C hR (Nat.zero_le _) (Nat.zero_le _) dX4_listInOrder_94 ⟨rfl, rfl, rfl, h⟩
set_option maxRecDepth 100000 in
set_option maxHeartbeats 4000000 in
theorem t_X4_listInOrder_56b {X : gX} {l : Launch} {D : va_G} {cy : Nat → ClassId} {nm : String} {V : gV} (hJG : gModJG V) (C : gC X cX4_listInOrder RX4 none 9 rm_X4_listInOrder) (hX : gIs X l D cy nm) {I : gI} {J : gL} {Po : gI → Prop} (hR : gR X (gPv V (fun I' J' => J = J' ∧ Po I'))) {v1 : Int32} {v2 : Int32} {v3 : Int32} {v4 : Nat} {v6 : Int32} {v7 : Int32} (hv4 : v4 < 6) {K56 : Int32 → Prop} (hK56 : ∀ (y7 : Int32), K56 y7 → gJ X V 0 0 56 [(0, .ref (V.2.1 20)), (1, .int v1), (2, .int v2), (3, .int v3), (4, .ref (V.2.1 (23 + v4))), (6, .int v6), (7, .int y7)] [] I J) (h : w_X4_listInOrder_56b Po K56 v1 v2 v3 v4 v6 v7 I) : gJ X V 0 0 56 [(0, .ref (V.2.1 20)), (1, .int v1), (2, .int v2), (3, .int v3), (4, .ref (V.2.1 (23 + v4))), (6, .int v6), (7, .int v7)] [] I J := by
  unfold w_X4_listInOrder_56b at h
  refine j_iload (pc := 56) C dX4_listInOrder_56 6 rfl ?_
  refine j_iload (pc := 58) C dX4_listInOrder_58 5 rfl ?_
  refine j_icmp_ge (pc := 60) (tgt := 78) C dX4_listInOrder_60 (by decide) (fun c11 => ?_) (fun c11 => ?_)
  · have h := h.1 c11
    refine gJ.sub [0, 1, 2, 3, 4, 5, 6] rfl ?_
    exact t_X4_listInOrder_78 hJG C hX hR hv4  h
  · have h := h.2 c11
    refine j_aload (pc := 63) C dX4_listInOrder_63 4 rfl ?_
    refine j_iload (pc := 65) C dX4_listInOrder_65 6 rfl ?_
    obtain ⟨g26, h⟩ := h
    refine j_iald (pc := 67) C (23 + v4) (f_23 hJG hv4).1 (f_23 hJG hv4).2 g26 dX4_listInOrder_67 ?_
    refine j_iload_n (pc := 68) C dX4_listInOrder_68 rfl 2 rfl ?_
    refine j_icmp_ge (pc := 69) (tgt := 78) C dX4_listInOrder_69 (by decide) (fun c27 => ?_) (fun c27 => ?_)
    · have h := h.1 c27
      refine gJ.sub [0, 1, 2, 3, 4, 5, 6] rfl ?_
      exact t_X4_listInOrder_78 hJG C hX hR hv4  h
    · have h := h.2 c27
      obtain ⟨n28, en28⟩ : ∃ z : Int32, z = v7 + 1 := ⟨_, rfl⟩
      have h := h n28 en28
      refine j_iinc (pc := 72) (v := n28) (lv' := [(7, .int n28), (0, .ref (V.2.1 20)), (1, .int v1), (2, .int v2), (3, .int v3), (4, .ref (V.2.1 (23 + v4))), (6, .int v6)]) C dX4_listInOrder_72 6 rfl (by rw [en28]; rfl) (by decide) rfl ?_
      refine j_goto (pc := 75) (tgt := 56) C dX4_listInOrder_75 (by decide) ?_
      refine gJ.sub [1, 2, 3, 4, 5, 6, 0] rfl ?_
      exact hK56 _ h
set_option maxRecDepth 100000 in
set_option maxHeartbeats 4000000 in
theorem t_X4_listInOrder_56 {X : gX} {l : Launch} {D : va_G} {cy : Nat → ClassId} {nm : String} {V : gV} (hJG : gModJG V) (C : gC X cX4_listInOrder RX4 none 9 rm_X4_listInOrder) (hX : gIs X l D cy nm) {I : gI} {J : gL} {Po : gI → Prop} (hR : gR X (gPv V (fun I' J' => J = J' ∧ Po I'))) {v1 : Int32} {v2 : Int32} {v3 : Int32} {v4 : Nat} {v6 : Int32} {v7 : Int32} (hv4 : v4 < 6) (h : w_X4_listInOrder_56 Po v1 v2 v3 v4 v6 v7 I) : gJ X V 0 0 56 [(0, .ref (V.2.1 20)), (1, .int v1), (2, .int v2), (3, .int v3), (4, .ref (V.2.1 (23 + v4))), (6, .int v6), (7, .int v7)] [] I J := by
  unfold w_X4_listInOrder_56 at h
  obtain ⟨Inv, mu, h0, hs⟩ := h
  have key : ∀ (n : Nat) (v7 : Int32), Inv v7 → mu v7 < n → gJ X V 0 0 56 [(0, .ref (V.2.1 20)), (1, .int v1), (2, .int v2), (3, .int v3), (4, .ref (V.2.1 (23 + v4))), (6, .int v6), (7, .int v7)] [] I J := by
    intro n
    induction n with
    | zero => intro v7 hi hn; exact absurd hn (Nat.not_lt_zero _)
    | succ n ih =>
      intro v7 hi hn
      exact t_X4_listInOrder_56b hJG C hX hR hv4  (fun u7 hk => ih u7 hk.1 (Nat.lt_of_lt_of_le hk.2 (Nat.le_of_lt_succ hn))) (hs v7 hi)
  exact key _ v7 h0 (Nat.lt_succ_self _)
set_option maxRecDepth 100000 in
set_option maxHeartbeats 4000000 in
theorem m_X4_listInOrder {l : Launch} {D : va_G} {cy : Nat → ClassId} {V : gV} (hJG : gModJG V) {a1 : Int32} {a2 : Int32} {I : gI} {J : gL} {Po : gI → Prop} (h : wp_X4_listInOrder a1 a2 I Po) : gMet l D cy yX4_listInOrder cX4_listInOrder 9 none rm_X4_listInOrder V [.ref (V.2.1 20), .int a1, .int a2] I J (gPv V (fun I' J' => J = J' ∧ Po I')) := by
  refine gMet.of (by decide) (Nat.le_of_ble_eq_true rfl) (fun X hX C hR => ?_)
  have C : gC X cX4_listInOrder RX4 none 9 rm_X4_listInOrder := C
  show gJ X V 0 0 0 [(0, .ref (V.2.1 20)), (1, .int a1), (2, .int a2)] [] I J
  unfold wp_X4_listInOrder at h
  refine j_iload_n (pc := 0) C dX4_listInOrder_0 rfl 2 rfl ?_
  refine j_callS (pc := 1) (As := [.int a2]) (st := []) C hX (m_J6_numberOfTrailingZeros_0f7a4   h) ok_J6_numberOfTrailingZeros_0f7a4 wd_594 wd_595 ⟨by decide, by decide⟩ rfl rfl (Nat.le_of_ble_eq_true rfl) ⟨Nat.le_refl 0, Nat.le_refl 0⟩ dX4_listInOrder_1 (fun r V1 I1 J1 hp => ?_)
  obtain ⟨r1, rfl, rfl, rfl, rfl, h⟩ := hp
  show gJ X V 0 0 4 _ [.int r1] _ _
  refine j_istore_n (pc := 4) (lv' := [(3, .int r1), (0, .ref (V.2.1 20)), (1, .int a1), (2, .int a2)]) C dX4_listInOrder_4 rfl (by decide) rfl ?_
  refine j_iload_n (pc := 5) C dX4_listInOrder_5 rfl 0 rfl ?_
  refine j_bipush (pc := 6) (v := 20) C dX4_listInOrder_6 (by decide) ?_
  refine j_icmp_ge (pc := 8) (tgt := 24) C dX4_listInOrder_8 (by decide) (fun c2 => ?_) (fun c2 => ?_)
  · have h := h.1 c2
    exact j_vret (pc := 24) C hR (Nat.zero_le _) (Nat.zero_le _) dX4_listInOrder_24 ⟨rfl, rfl, rfl, h⟩
  · have h := h.2 c2
    refine j_aload_n (pc := 11) C dX4_listInOrder_11 rfl 1 rfl ?_
    refine j_getR (pc := 12) C 20 10 29 (c_20 hJG).1 (c_20 hJG).2 rfl rfl (by decide) inw_X4 wd_148 dX4_listInOrder_12 ?_
    refine j_iload_n (pc := 15) C dX4_listInOrder_15 rfl 2 rfl ?_
    obtain ⟨g3, h⟩ := h
    refine j_aald (pc := 16) C 29 (30 + (a1).toNatClampNeg) (c_29 hJG).1 (c_29 hJG).2 g3 (gfam_at (vp_in_lt g3)) dX4_listInOrder_16 ?_
    refine j_iload_n (pc := 17) C dX4_listInOrder_17 rfl 0 rfl ?_
    obtain ⟨g4, h⟩ := h
    refine j_iald (pc := 18) C (30 + (a1).toNatClampNeg) (f_30 hJG (vp_in_lt g3)).1 (f_30 hJG (vp_in_lt g3)).2 g4 dX4_listInOrder_18 ?_
    refine j_bipush (pc := 19) (v := 8) C dX4_listInOrder_19 (by decide) ?_
    refine j_icmp_lt (pc := 21) (tgt := 25) C dX4_listInOrder_21 (by decide) (fun c5 => ?_) (fun c5 => ?_)
    · have h := h.1 c5
      refine j_aload_n (pc := 25) C dX4_listInOrder_25 rfl 1 rfl ?_
      refine j_getR (pc := 26) C 20 9 22 (c_20 hJG).1 (c_20 hJG).2 rfl rfl (by decide) inw_X4 wd_147 dX4_listInOrder_26 ?_
      refine j_iload_n (pc := 29) C dX4_listInOrder_29 rfl 2 rfl ?_
      obtain ⟨g6, h⟩ := h
      refine j_aald (pc := 30) C 22 (23 + (a1).toNatClampNeg) (c_22 hJG).1 (c_22 hJG).2 g6 (gfam_at (vp_in_lt g6)) dX4_listInOrder_30 ?_
      refine j_astore (pc := 31) (lv' := [(4, .ref (V.2.1 (23 + (a1).toNatClampNeg))), (3, .int r1), (0, .ref (V.2.1 20)), (1, .int a1), (2, .int a2)]) C dX4_listInOrder_31 (by decide) rfl ?_
      refine j_iload_n (pc := 33) C dX4_listInOrder_33 rfl 1 rfl ?_
      refine j_bipush (pc := 34) (v := 8) C dX4_listInOrder_34 (by decide) ?_
      refine j_imul (pc := 36) C dX4_listInOrder_36 ?_
      refine gJ.topi (fun n7 en7 => ?_)
      have h := h n7 en7
      refine j_istore (pc := 37) (lv' := [(5, .int n7), (4, .ref (V.2.1 (23 + (a1).toNatClampNeg))), (3, .int r1), (0, .ref (V.2.1 20)), (1, .int a1), (2, .int a2)]) C dX4_listInOrder_37 (by decide) rfl ?_
      refine j_iload (pc := 39) C dX4_listInOrder_39 0 rfl ?_
      refine j_aload_n (pc := 41) C dX4_listInOrder_41 rfl 3 rfl ?_
      refine j_getR (pc := 42) C 20 10 29 (c_20 hJG).1 (c_20 hJG).2 rfl rfl (by decide) inw_X4 wd_148 dX4_listInOrder_42 ?_
      refine j_iload_n (pc := 45) C dX4_listInOrder_45 rfl 4 rfl ?_
      obtain ⟨g8, h⟩ := h
      refine j_aald (pc := 46) C 29 (30 + (a1).toNatClampNeg) (c_29 hJG).1 (c_29 hJG).2 g8 (gfam_at (vp_in_lt g8)) dX4_listInOrder_46 ?_
      refine j_iload_n (pc := 47) C dX4_listInOrder_47 rfl 2 rfl ?_
      obtain ⟨g9, h⟩ := h
      refine j_iald (pc := 48) C (30 + (a1).toNatClampNeg) (f_30 hJG (vp_in_lt g8)).1 (f_30 hJG (vp_in_lt g8)).2 g9 dX4_listInOrder_48 ?_
      refine j_iadd (pc := 49) C dX4_listInOrder_49 ?_
      refine gJ.topi (fun n10 en10 => ?_)
      have h := h n10 en10
      refine j_istore (pc := 50) (lv' := [(6, .int n10), (5, .int n7), (4, .ref (V.2.1 (23 + (a1).toNatClampNeg))), (3, .int r1), (0, .ref (V.2.1 20)), (1, .int a1), (2, .int a2)]) C dX4_listInOrder_50 (by decide) rfl ?_
      refine j_iload (pc := 52) C dX4_listInOrder_52 1 rfl ?_
      refine j_istore (pc := 54) (lv' := [(7, .int n7), (6, .int n10), (5, .int n7), (4, .ref (V.2.1 (23 + (a1).toNatClampNeg))), (3, .int r1), (0, .ref (V.2.1 20)), (1, .int a1), (2, .int a2)]) C dX4_listInOrder_54 (by decide) rfl ?_
      refine gJ.sub [5, 6, 7, 4, 3, 1, 0] rfl ?_
      exact t_X4_listInOrder_56 hJG C hX hR (vp_in_lt g6)  h
    · have h := h.2 c5
      exact j_vret (pc := 24) C hR (Nat.zero_le _) (Nat.zero_le _) dX4_listInOrder_24 ⟨rfl, rfl, rfl, h⟩
/-! TileRules$Jigsaw.spreadCells(IZI)I -/
abbrev rm_X4_spreadCells : Room := { frames := 1, cells := 0, slots := 0, locals := 21 }
theorem ok_X4_spreadCells : gOk yX4_spreadCells cX4_spreadCells 13 (some .int) 3 := ⟨wd_581, wd_71, by decide +kernel⟩
def w_X4_spreadCells_143b  (Po : Int32 → gI → Prop) (K143 : Int32 → gI → Prop) (v5 : Int32) (v6 : Int32) (v7 : Int32) (v8 : Int32) (I : gI) : Prop :=
  (v5 ≤ v8 → Po v5 I) ∧ (¬ v5 ≤ v8 → vp_in v8 5 ∧ vp_in v8 5 ∧ ∀ I5 : gI, I5 = gup I 36 (v8).toNatClampNeg ((I 36 (v8).toNatClampNeg) - v6) → vp_in v8 5 ∧ vp_in v8 5 ∧ ∀ I8 : gI, I8 = gup I5 37 (v8).toNatClampNeg ((I5 37 (v8).toNatClampNeg) - v7) → ∀ n9 : Int32, n9 = v8 + 1 → K143 n9 I8)
def w_X4_spreadCells_143  (Po : Int32 → gI → Prop)  (v5 : Int32) (v6 : Int32) (v7 : Int32) (v8 : Int32) (I : gI) : Prop :=
  ∃ (Inv : Int32 → gI → Prop) (mu : Int32 → gI → Nat), Inv v8 I ∧ ∀ (v8 : Int32) (I : gI), Inv v8 I → w_X4_spreadCells_143b  Po  (fun u8 I1 => Inv u8 I1 ∧ mu u8 I1 < mu v8 I) v5 v6 v7 v8 I
def w_X4_spreadCells_140  (Po : Int32 → gI → Prop)  (v5 : Int32) (v6 : Int32) (v7 : Int32) (I : gI) : Prop :=
  w_X4_spreadCells_143 Po v5 v6 v7 (0 : Int32) I
def w_X4_spreadCells_134  (Po : Int32 → gI → Prop) (K17 : Int32 → Int32 → Int32 → Int32 → gI → Prop) (v1 : Int32) (v2 : Int32) (v3 : Int32) (v4 : Int32) (v5 : Int32) (v6 : Int32) (v7 : Int32) (v8 : Int32) (I : gI) : Prop :=
  ∀ n12 : Int32, n12 = v8 + 1 → K17 v5 v6 v7 n12 I
def w_X4_spreadCells_68b  (Po : Int32 → gI → Prop) (K17 : Int32 → Int32 → Int32 → Int32 → gI → Prop) (K68 : Int32 → Int32 → Int32 → Prop) (v1 : Int32) (v2 : Int32) (v3 : Int32) (v4 : Int32) (v5 : Int32) (v6 : Int32) (v7 : Int32) (v8 : Int32) (v9 : Int32) (v10 : Int32) (v11 : Int32) (I : gI) : Prop :=
  (v3 ≤ v11 → vp_in v5 5 ∧ ∀ I19 : gI, I19 = gup I 36 (v5).toNatClampNeg v9 → vp_in v5 5 ∧ ∀ I21 : gI, I21 = gup I19 37 (v5).toNatClampNeg v10 → ∀ n22 : Int32, n22 = v5 + 1 → ∀ n23 : Int32, n23 = (if v9 < v6 then v9 else v6) → ∀ n24 : Int32, n24 = (if v10 < v7 then v10 else v7) → w_X4_spreadCells_134 Po K17 v1 v2 v3 v4 n22 n23 n24 v8 I21) ∧ (¬ v3 ≤ v11 → ∀ n25 : Int32, n25 = (v4 - v10) → ∀ n26 : Int32, n26 = v11 + 1 → K68 n25 v9 n26)
def w_X4_spreadCells_68  (Po : Int32 → gI → Prop) (K17 : Int32 → Int32 → Int32 → Int32 → gI → Prop) (v1 : Int32) (v2 : Int32) (v3 : Int32) (v4 : Int32) (v5 : Int32) (v6 : Int32) (v7 : Int32) (v8 : Int32) (v9 : Int32) (v10 : Int32) (v11 : Int32) (I : gI) : Prop :=
  ∃ (Inv : Int32 → Int32 → Int32 → Prop) (mu : Int32 → Int32 → Int32 → Nat), Inv v9 v10 v11 ∧ ∀ (v9 : Int32) (v10 : Int32) (v11 : Int32), Inv v9 v10 v11 → w_X4_spreadCells_68b  Po K17 (fun u9 u10 u11 => Inv u9 u10 u11 ∧ mu u9 u10 u11 < mu v9 v10 v11) v1 v2 v3 v4 v5 v6 v7 v8 v9 v10 v11 I
def w_X4_spreadCells_57  (Po : Int32 → gI → Prop) (K17 : Int32 → Int32 → Int32 → Int32 → gI → Prop) (v1 : Int32) (v2 : Int32) (v3 : Int32) (v4 : Int32) (v5 : Int32) (v6 : Int32) (v7 : Int32) (v8 : Int32) (s0 : Int32) (I : gI) : Prop :=
  ¬ (5 : Int32) = 0 ∧ ∀ n16 : Int32, n16 = (v8 / (5 : Int32)) → w_X4_spreadCells_68 Po K17 v1 v2 v3 v4 v5 v6 v7 v8 s0 n16 (0 : Int32) I
def w_X4_spreadCells_17b  (Po : Int32 → gI → Prop) (K17 : Int32 → Int32 → Int32 → Int32 → gI → Prop) (v1 : Int32) (v2 : Int32) (v3 : Int32) (v4 : Int32) (v5 : Int32) (v6 : Int32) (v7 : Int32) (v8 : Int32) (I : gI) : Prop :=
  ((25 : Int32) ≤ v8 → w_X4_spreadCells_140 Po v5 v6 v7 I) ∧ (¬ (25 : Int32) ≤ v8 → ((5 : Int32) ≤ v5 → w_X4_spreadCells_140 Po v5 v6 v7 I) ∧ (¬ (5 : Int32) ≤ v5 → (((v1 >>> (v8 &&& 31)) &&& (1 : Int32)) = 0 → w_X4_spreadCells_134 Po K17 v1 v2 v3 v4 v5 v6 v7 v8 I) ∧ (¬ ((v1 >>> (v8 &&& 31)) &&& (1 : Int32)) = 0 → (v2 = 0 → ¬ (5 : Int32) = 0 ∧ w_X4_spreadCells_57 Po K17 v1 v2 v3 v4 v5 v6 v7 v8 (v8 - v8 / (5 : Int32) * (5 : Int32)) I) ∧ (¬ v2 = 0 → ¬ (5 : Int32) = 0 ∧ w_X4_spreadCells_57 Po K17 v1 v2 v3 v4 v5 v6 v7 v8 (v4 - (v8 - v8 / (5 : Int32) * (5 : Int32))) I))))
def w_X4_spreadCells_17  (Po : Int32 → gI → Prop)  (v1 : Int32) (v2 : Int32) (v3 : Int32) (v4 : Int32) (v5 : Int32) (v6 : Int32) (v7 : Int32) (v8 : Int32) (I : gI) : Prop :=
  ∃ (Inv : Int32 → Int32 → Int32 → Int32 → gI → Prop) (mu : Int32 → Int32 → Int32 → Int32 → gI → Nat), Inv v5 v6 v7 v8 I ∧ ∀ (v5 : Int32) (v6 : Int32) (v7 : Int32) (v8 : Int32) (I : gI), Inv v5 v6 v7 v8 I → w_X4_spreadCells_17b  Po  (fun u5 u6 u7 u8 I1 => Inv u5 u6 u7 u8 I1 ∧ mu u5 u6 u7 u8 I1 < mu v5 v6 v7 v8 I) v1 v2 v3 v4 v5 v6 v7 v8 I
def wp_X4_spreadCells (a1 : Int32) (a2 : Int32) (a3 : Int32) (I : gI) (Po : Int32 → gI → Prop) : Prop :=
  w_X4_spreadCells_17 Po a1 a2 a3 (4 : Int32) (0 : Int32) (4 : Int32) (4 : Int32) (0 : Int32) I
set_option maxRecDepth 100000 in
set_option maxHeartbeats 4000000 in
theorem t_X4_spreadCells_143b {X : gX} {l : Launch} {D : va_G} {cy : Nat → ClassId} {nm : String} {V : gV} (hJG : gModJG V) (C : gC X cX4_spreadCells RX4 (some .int) 13 rm_X4_spreadCells) (hX : gIs X l D cy nm) {I : gI} {J : gL} {Po : Int32 → gI → Prop} (hR : gR X (gPi V (fun x I' J' => J = J' ∧ Po x I'))) {v5 : Int32} {v6 : Int32} {v7 : Int32} {v8 : Int32} {K143 : Int32 → gI → Prop} (hK143 : ∀ (y8 : Int32) (I1 : gI), K143 y8 I1 → gJ X V 0 0 143 [(0, .ref (V.2.1 20)), (5, .int v5), (6, .int v6), (7, .int v7), (8, .int y8)] [] I1 J) (h : w_X4_spreadCells_143b Po K143 v5 v6 v7 v8 I) : gJ X V 0 0 143 [(0, .ref (V.2.1 20)), (5, .int v5), (6, .int v6), (7, .int v7), (8, .int v8)] [] I J := by
  unfold w_X4_spreadCells_143b at h
  refine j_iload (pc := 143) C dX4_spreadCells_143 4 rfl ?_
  refine j_iload (pc := 145) C dX4_spreadCells_145 1 rfl ?_
  refine j_icmp_ge (pc := 147) (tgt := 180) C dX4_spreadCells_147 (by decide) (fun c2 => ?_) (fun c2 => ?_)
  · have h := h.1 c2
    refine j_iload (pc := 180) C dX4_spreadCells_180 1 rfl ?_
    exact j_iret (pc := 182) C hR (Nat.zero_le _) (Nat.zero_le _) dX4_spreadCells_182 ⟨_, rfl, rfl, rfl, h⟩
  · have h := h.2 c2
    refine j_aload_n (pc := 150) C dX4_spreadCells_150 rfl 0 rfl ?_
    refine j_getR (pc := 151) C 20 11 36 (c_20 hJG).1 (c_20 hJG).2 rfl rfl (by decide) inw_X4 wd_149 dX4_spreadCells_151 ?_
    refine j_iload (pc := 154) C dX4_spreadCells_154 4 rfl ?_
    refine j_dup2_11 (pc := 156) C dX4_spreadCells_156 rfl rfl ?_
    obtain ⟨g3, h⟩ := h
    refine j_iald (pc := 157) C 36 (c_36 hJG).1 (c_36 hJG).2 g3 dX4_spreadCells_157 ?_
    refine j_iload (pc := 158) C dX4_spreadCells_158 2 rfl ?_
    refine j_isub (pc := 160) C dX4_spreadCells_160 ?_
    obtain ⟨g4, h⟩ := h
    refine j_iast (pc := 161) C 36 (c_36 hJG).1 (c_36 hJG).2 g4 dX4_spreadCells_161 ?_
    refine gJ.nmI (fun I5 eI5 => ?_)
    have h := h I5 eI5
    refine j_aload_n (pc := 162) C dX4_spreadCells_162 rfl 0 rfl ?_
    refine j_getR (pc := 163) C 20 12 37 (c_20 hJG).1 (c_20 hJG).2 rfl rfl (by decide) inw_X4 wd_150 dX4_spreadCells_163 ?_
    refine j_iload (pc := 166) C dX4_spreadCells_166 4 rfl ?_
    refine j_dup2_11 (pc := 168) C dX4_spreadCells_168 rfl rfl ?_
    obtain ⟨g6, h⟩ := h
    refine j_iald (pc := 169) C 37 (c_37 hJG).1 (c_37 hJG).2 g6 dX4_spreadCells_169 ?_
    refine j_iload (pc := 170) C dX4_spreadCells_170 3 rfl ?_
    refine j_isub (pc := 172) C dX4_spreadCells_172 ?_
    obtain ⟨g7, h⟩ := h
    refine j_iast (pc := 173) C 37 (c_37 hJG).1 (c_37 hJG).2 g7 dX4_spreadCells_173 ?_
    refine gJ.nmI (fun I8 eI8 => ?_)
    have h := h I8 eI8
    obtain ⟨n9, en9⟩ : ∃ z : Int32, z = v8 + 1 := ⟨_, rfl⟩
    have h := h n9 en9
    refine j_iinc (pc := 174) (v := n9) (lv' := [(8, .int n9), (0, .ref (V.2.1 20)), (5, .int v5), (6, .int v6), (7, .int v7)]) C dX4_spreadCells_174 4 rfl (by rw [en9]; rfl) (by decide) rfl ?_
    refine j_goto (pc := 177) (tgt := 143) C dX4_spreadCells_177 (by decide) ?_
    refine gJ.sub [1, 2, 3, 4, 0] rfl ?_
    exact hK143 _ _ h
set_option maxRecDepth 100000 in
set_option maxHeartbeats 4000000 in
theorem t_X4_spreadCells_143 {X : gX} {l : Launch} {D : va_G} {cy : Nat → ClassId} {nm : String} {V : gV} (hJG : gModJG V) (C : gC X cX4_spreadCells RX4 (some .int) 13 rm_X4_spreadCells) (hX : gIs X l D cy nm) {I : gI} {J : gL} {Po : Int32 → gI → Prop} (hR : gR X (gPi V (fun x I' J' => J = J' ∧ Po x I'))) {v5 : Int32} {v6 : Int32} {v7 : Int32} {v8 : Int32} (h : w_X4_spreadCells_143 Po v5 v6 v7 v8 I) : gJ X V 0 0 143 [(0, .ref (V.2.1 20)), (5, .int v5), (6, .int v6), (7, .int v7), (8, .int v8)] [] I J := by
  unfold w_X4_spreadCells_143 at h
  obtain ⟨Inv, mu, h0, hs⟩ := h
  have key : ∀ (n : Nat) (v8 : Int32) (I : gI), Inv v8 I → mu v8 I < n → gJ X V 0 0 143 [(0, .ref (V.2.1 20)), (5, .int v5), (6, .int v6), (7, .int v7), (8, .int v8)] [] I J := by
    intro n
    induction n with
    | zero => intro v8 I hi hn; exact absurd hn (Nat.not_lt_zero _)
    | succ n ih =>
      intro v8 I hi hn
      exact t_X4_spreadCells_143b hJG C hX hR   (fun u8 I1 hk => ih u8 I1 hk.1 (Nat.lt_of_lt_of_le hk.2 (Nat.le_of_lt_succ hn))) (hs v8 I hi)
  exact key _ v8 I h0 (Nat.lt_succ_self _)
set_option maxRecDepth 100000 in
set_option maxHeartbeats 4000000 in
theorem t_X4_spreadCells_140 {X : gX} {l : Launch} {D : va_G} {cy : Nat → ClassId} {nm : String} {V : gV} (hJG : gModJG V) (C : gC X cX4_spreadCells RX4 (some .int) 13 rm_X4_spreadCells) (hX : gIs X l D cy nm) {I : gI} {J : gL} {Po : Int32 → gI → Prop} (hR : gR X (gPi V (fun x I' J' => J = J' ∧ Po x I'))) {v5 : Int32} {v6 : Int32} {v7 : Int32} (h : w_X4_spreadCells_140 Po v5 v6 v7 I) : gJ X V 0 0 140 [(0, .ref (V.2.1 20)), (5, .int v5), (6, .int v6), (7, .int v7)] [] I J := by
  unfold w_X4_spreadCells_140 at h
  refine j_iconst (pc := 140) (v := 0) C dX4_spreadCells_140 (by decide) ?_
  refine j_istore (pc := 141) (lv' := [(8, .int (0 : Int32)), (0, .ref (V.2.1 20)), (5, .int v5), (6, .int v6), (7, .int v7)]) C dX4_spreadCells_141 (by decide) rfl ?_
  refine gJ.sub [1, 2, 3, 4, 0] rfl ?_
  exact t_X4_spreadCells_143 hJG C hX hR   h
set_option maxRecDepth 100000 in
set_option maxHeartbeats 4000000 in
theorem t_X4_spreadCells_134 {X : gX} {l : Launch} {D : va_G} {cy : Nat → ClassId} {nm : String} {V : gV} (hJG : gModJG V) (C : gC X cX4_spreadCells RX4 (some .int) 13 rm_X4_spreadCells) (hX : gIs X l D cy nm) {I : gI} {J : gL} {Po : Int32 → gI → Prop} (hR : gR X (gPi V (fun x I' J' => J = J' ∧ Po x I'))) {v1 : Int32} {v2 : Int32} {v3 : Int32} {v4 : Int32} {v5 : Int32} {v6 : Int32} {v7 : Int32} {v8 : Int32} {K17 : Int32 → Int32 → Int32 → Int32 → gI → Prop} (hK17 : ∀ (y5 : Int32) (y6 : Int32) (y7 : Int32) (y8 : Int32) (I1 : gI), K17 y5 y6 y7 y8 I1 → gJ X V 0 0 17 [(0, .ref (V.2.1 20)), (1, .int v1), (2, .int v2), (3, .int v3), (4, .int v4), (5, .int y5), (6, .int y6), (7, .int y7), (8, .int y8)] [] I1 J) (h : w_X4_spreadCells_134 Po K17 v1 v2 v3 v4 v5 v6 v7 v8 I) : gJ X V 0 0 134 [(0, .ref (V.2.1 20)), (1, .int v1), (2, .int v2), (3, .int v3), (4, .int v4), (5, .int v5), (6, .int v6), (7, .int v7), (8, .int v8)] [] I J := by
  unfold w_X4_spreadCells_134 at h
  obtain ⟨n12, en12⟩ : ∃ z : Int32, z = v8 + 1 := ⟨_, rfl⟩
  have h := h n12 en12
  refine j_iinc (pc := 134) (v := n12) (lv' := [(8, .int n12), (0, .ref (V.2.1 20)), (1, .int v1), (2, .int v2), (3, .int v3), (4, .int v4), (5, .int v5), (6, .int v6), (7, .int v7)]) C dX4_spreadCells_134 8 rfl (by rw [en12]; rfl) (by decide) rfl ?_
  refine j_goto (pc := 137) (tgt := 17) C dX4_spreadCells_137 (by decide) ?_
  refine gJ.sub [1, 2, 3, 4, 5, 6, 7, 8, 0] rfl ?_
  exact hK17 _ _ _ _ _ h
set_option maxRecDepth 100000 in
set_option maxHeartbeats 4000000 in
theorem t_X4_spreadCells_68b {X : gX} {l : Launch} {D : va_G} {cy : Nat → ClassId} {nm : String} {V : gV} (hJG : gModJG V) (C : gC X cX4_spreadCells RX4 (some .int) 13 rm_X4_spreadCells) (hX : gIs X l D cy nm) {I : gI} {J : gL} {Po : Int32 → gI → Prop} (hR : gR X (gPi V (fun x I' J' => J = J' ∧ Po x I'))) {v1 : Int32} {v2 : Int32} {v3 : Int32} {v4 : Int32} {v5 : Int32} {v6 : Int32} {v7 : Int32} {v8 : Int32} {v9 : Int32} {v10 : Int32} {v11 : Int32} {K17 : Int32 → Int32 → Int32 → Int32 → gI → Prop} {K68 : Int32 → Int32 → Int32 → Prop} (hK17 : ∀ (y5 : Int32) (y6 : Int32) (y7 : Int32) (y8 : Int32) (I1 : gI), K17 y5 y6 y7 y8 I1 → gJ X V 0 0 17 [(0, .ref (V.2.1 20)), (1, .int v1), (2, .int v2), (3, .int v3), (4, .int v4), (5, .int y5), (6, .int y6), (7, .int y7), (8, .int y8)] [] I1 J) (hK68 : ∀ (y9 : Int32) (y10 : Int32) (y11 : Int32), K68 y9 y10 y11 → gJ X V 0 0 68 [(0, .ref (V.2.1 20)), (1, .int v1), (2, .int v2), (3, .int v3), (4, .int v4), (5, .int v5), (6, .int v6), (7, .int v7), (8, .int v8), (9, .int y9), (10, .int y10), (11, .int y11)] [] I J) (h : w_X4_spreadCells_68b Po K17 K68 v1 v2 v3 v4 v5 v6 v7 v8 v9 v10 v11 I) : gJ X V 0 0 68 [(0, .ref (V.2.1 20)), (1, .int v1), (2, .int v2), (3, .int v3), (4, .int v4), (5, .int v5), (6, .int v6), (7, .int v7), (8, .int v8), (9, .int v9), (10, .int v10), (11, .int v11)] [] I J := by
  unfold w_X4_spreadCells_68b at h
  refine j_iload (pc := 68) C dX4_spreadCells_68 11 rfl ?_
  refine j_iload_n (pc := 70) C dX4_spreadCells_70 rfl 3 rfl ?_
  refine j_icmp_ge (pc := 71) (tgt := 95) C dX4_spreadCells_71 (by decide) (fun c17 => ?_) (fun c17 => ?_)
  · have h := h.1 c17
    refine j_aload_n (pc := 95) C dX4_spreadCells_95 rfl 0 rfl ?_
    refine j_getR (pc := 96) C 20 11 36 (c_20 hJG).1 (c_20 hJG).2 rfl rfl (by decide) inw_X4 wd_149 dX4_spreadCells_96 ?_
    refine j_iload (pc := 99) C dX4_spreadCells_99 5 rfl ?_
    refine j_iload (pc := 101) C dX4_spreadCells_101 9 rfl ?_
    obtain ⟨g18, h⟩ := h
    refine j_iast (pc := 103) C 36 (c_36 hJG).1 (c_36 hJG).2 g18 dX4_spreadCells_103 ?_
    refine gJ.nmI (fun I19 eI19 => ?_)
    have h := h I19 eI19
    refine j_aload_n (pc := 104) C dX4_spreadCells_104 rfl 0 rfl ?_
    refine j_getR (pc := 105) C 20 12 37 (c_20 hJG).1 (c_20 hJG).2 rfl rfl (by decide) inw_X4 wd_150 dX4_spreadCells_105 ?_
    refine j_iload (pc := 108) C dX4_spreadCells_108 5 rfl ?_
    refine j_iload (pc := 110) C dX4_spreadCells_110 10 rfl ?_
    obtain ⟨g20, h⟩ := h
    refine j_iast (pc := 112) C 37 (c_37 hJG).1 (c_37 hJG).2 g20 dX4_spreadCells_112 ?_
    refine gJ.nmI (fun I21 eI21 => ?_)
    have h := h I21 eI21
    obtain ⟨n22, en22⟩ : ∃ z : Int32, z = v5 + 1 := ⟨_, rfl⟩
    have h := h n22 en22
    refine j_iinc (pc := 113) (v := n22) (lv' := [(5, .int n22), (0, .ref (V.2.1 20)), (1, .int v1), (2, .int v2), (3, .int v3), (4, .int v4), (6, .int v6), (7, .int v7), (8, .int v8), (9, .int v9), (10, .int v10), (11, .int v11)]) C dX4_spreadCells_113 5 rfl (by rw [en22]; rfl) (by decide) rfl ?_
    refine j_iload (pc := 116) C dX4_spreadCells_116 6 rfl ?_
    refine j_iload (pc := 118) C dX4_spreadCells_118 9 rfl ?_
    refine j_mmin (pc := 120) (st := []) C wd_582 wd_482 wd_79 wd_483 (by decide) (Nat.le_of_ble_eq_true rfl) (Nat.zero_le _) (Nat.zero_le _) dX4_spreadCells_120 ?_
    refine gJ.topi (fun n23 en23 => ?_)
    have h := h n23 en23
    refine j_istore (pc := 123) (lv' := [(6, .int n23), (5, .int n22), (0, .ref (V.2.1 20)), (1, .int v1), (2, .int v2), (3, .int v3), (4, .int v4), (7, .int v7), (8, .int v8), (9, .int v9), (10, .int v10), (11, .int v11)]) C dX4_spreadCells_123 (by decide) rfl ?_
    refine j_iload (pc := 125) C dX4_spreadCells_125 7 rfl ?_
    refine j_iload (pc := 127) C dX4_spreadCells_127 10 rfl ?_
    refine j_mmin (pc := 129) (st := []) C wd_582 wd_482 wd_79 wd_483 (by decide) (Nat.le_of_ble_eq_true rfl) (Nat.zero_le _) (Nat.zero_le _) dX4_spreadCells_129 ?_
    refine gJ.topi (fun n24 en24 => ?_)
    have h := h n24 en24
    refine j_istore (pc := 132) (lv' := [(7, .int n24), (6, .int n23), (5, .int n22), (0, .ref (V.2.1 20)), (1, .int v1), (2, .int v2), (3, .int v3), (4, .int v4), (8, .int v8), (9, .int v9), (10, .int v10), (11, .int v11)]) C dX4_spreadCells_132 (by decide) rfl ?_
    refine gJ.sub [3, 4, 5, 6, 7, 2, 1, 0, 8] rfl ?_
    exact t_X4_spreadCells_134 hJG C hX hR  hK17 h
  · have h := h.2 c17
    refine j_iload (pc := 74) C dX4_spreadCells_74 4 rfl ?_
    refine j_iload (pc := 76) C dX4_spreadCells_76 10 rfl ?_
    refine j_isub (pc := 78) C dX4_spreadCells_78 ?_
    refine gJ.topi (fun n25 en25 => ?_)
    have h := h n25 en25
    refine j_istore (pc := 79) (lv' := [(12, .int n25), (0, .ref (V.2.1 20)), (1, .int v1), (2, .int v2), (3, .int v3), (4, .int v4), (5, .int v5), (6, .int v6), (7, .int v7), (8, .int v8), (9, .int v9), (10, .int v10), (11, .int v11)]) C dX4_spreadCells_79 (by decide) rfl ?_
    refine j_iload (pc := 81) C dX4_spreadCells_81 10 rfl ?_
    refine j_istore (pc := 83) (lv' := [(10, .int v9), (12, .int n25), (0, .ref (V.2.1 20)), (1, .int v1), (2, .int v2), (3, .int v3), (4, .int v4), (5, .int v5), (6, .int v6), (7, .int v7), (8, .int v8), (9, .int v9), (11, .int v11)]) C dX4_spreadCells_83 (by decide) rfl ?_
    refine j_iload (pc := 85) C dX4_spreadCells_85 1 rfl ?_
    refine j_istore (pc := 87) (lv' := [(9, .int n25), (10, .int v9), (12, .int n25), (0, .ref (V.2.1 20)), (1, .int v1), (2, .int v2), (3, .int v3), (4, .int v4), (5, .int v5), (6, .int v6), (7, .int v7), (8, .int v8), (11, .int v11)]) C dX4_spreadCells_87 (by decide) rfl ?_
    obtain ⟨n26, en26⟩ : ∃ z : Int32, z = v11 + 1 := ⟨_, rfl⟩
    have h := h n26 en26
    refine j_iinc (pc := 89) (v := n26) (lv' := [(11, .int n26), (9, .int n25), (10, .int v9), (12, .int n25), (0, .ref (V.2.1 20)), (1, .int v1), (2, .int v2), (3, .int v3), (4, .int v4), (5, .int v5), (6, .int v6), (7, .int v7), (8, .int v8)]) C dX4_spreadCells_89 12 rfl (by rw [en26]; rfl) (by decide) rfl ?_
    refine j_goto (pc := 92) (tgt := 68) C dX4_spreadCells_92 (by decide) ?_
    refine gJ.sub [4, 5, 6, 7, 8, 9, 10, 11, 12, 1, 2, 0] rfl ?_
    exact hK68 _ _ _ h
set_option maxRecDepth 100000 in
set_option maxHeartbeats 4000000 in
theorem t_X4_spreadCells_68 {X : gX} {l : Launch} {D : va_G} {cy : Nat → ClassId} {nm : String} {V : gV} (hJG : gModJG V) (C : gC X cX4_spreadCells RX4 (some .int) 13 rm_X4_spreadCells) (hX : gIs X l D cy nm) {I : gI} {J : gL} {Po : Int32 → gI → Prop} (hR : gR X (gPi V (fun x I' J' => J = J' ∧ Po x I'))) {v1 : Int32} {v2 : Int32} {v3 : Int32} {v4 : Int32} {v5 : Int32} {v6 : Int32} {v7 : Int32} {v8 : Int32} {v9 : Int32} {v10 : Int32} {v11 : Int32} {K17 : Int32 → Int32 → Int32 → Int32 → gI → Prop} (hK17 : ∀ (y5 : Int32) (y6 : Int32) (y7 : Int32) (y8 : Int32) (I1 : gI), K17 y5 y6 y7 y8 I1 → gJ X V 0 0 17 [(0, .ref (V.2.1 20)), (1, .int v1), (2, .int v2), (3, .int v3), (4, .int v4), (5, .int y5), (6, .int y6), (7, .int y7), (8, .int y8)] [] I1 J) (h : w_X4_spreadCells_68 Po K17 v1 v2 v3 v4 v5 v6 v7 v8 v9 v10 v11 I) : gJ X V 0 0 68 [(0, .ref (V.2.1 20)), (1, .int v1), (2, .int v2), (3, .int v3), (4, .int v4), (5, .int v5), (6, .int v6), (7, .int v7), (8, .int v8), (9, .int v9), (10, .int v10), (11, .int v11)] [] I J := by
  unfold w_X4_spreadCells_68 at h
  obtain ⟨Inv, mu, h0, hs⟩ := h
  have key : ∀ (n : Nat) (v9 : Int32) (v10 : Int32) (v11 : Int32), Inv v9 v10 v11 → mu v9 v10 v11 < n → gJ X V 0 0 68 [(0, .ref (V.2.1 20)), (1, .int v1), (2, .int v2), (3, .int v3), (4, .int v4), (5, .int v5), (6, .int v6), (7, .int v7), (8, .int v8), (9, .int v9), (10, .int v10), (11, .int v11)] [] I J := by
    intro n
    induction n with
    | zero => intro v9 v10 v11 hi hn; exact absurd hn (Nat.not_lt_zero _)
    | succ n ih =>
      intro v9 v10 v11 hi hn
      exact t_X4_spreadCells_68b hJG C hX hR  hK17 (fun u9 u10 u11 hk => ih u9 u10 u11 hk.1 (Nat.lt_of_lt_of_le hk.2 (Nat.le_of_lt_succ hn))) (hs v9 v10 v11 hi)
  exact key _ v9 v10 v11 h0 (Nat.lt_succ_self _)
set_option maxRecDepth 100000 in
set_option maxHeartbeats 4000000 in
theorem t_X4_spreadCells_57 {X : gX} {l : Launch} {D : va_G} {cy : Nat → ClassId} {nm : String} {V : gV} (hJG : gModJG V) (C : gC X cX4_spreadCells RX4 (some .int) 13 rm_X4_spreadCells) (hX : gIs X l D cy nm) {I : gI} {J : gL} {Po : Int32 → gI → Prop} (hR : gR X (gPi V (fun x I' J' => J = J' ∧ Po x I'))) {v1 : Int32} {v2 : Int32} {v3 : Int32} {v4 : Int32} {v5 : Int32} {v6 : Int32} {v7 : Int32} {v8 : Int32} {s0 : Int32} {K17 : Int32 → Int32 → Int32 → Int32 → gI → Prop} (hK17 : ∀ (y5 : Int32) (y6 : Int32) (y7 : Int32) (y8 : Int32) (I1 : gI), K17 y5 y6 y7 y8 I1 → gJ X V 0 0 17 [(0, .ref (V.2.1 20)), (1, .int v1), (2, .int v2), (3, .int v3), (4, .int v4), (5, .int y5), (6, .int y6), (7, .int y7), (8, .int y8)] [] I1 J) (h : w_X4_spreadCells_57 Po K17 v1 v2 v3 v4 v5 v6 v7 v8 s0 I) : gJ X V 0 0 57 [(0, .ref (V.2.1 20)), (1, .int v1), (2, .int v2), (3, .int v3), (4, .int v4), (5, .int v5), (6, .int v6), (7, .int v7), (8, .int v8)] [.int s0] I J := by
  unfold w_X4_spreadCells_57 at h
  refine j_istore (pc := 57) (lv' := [(9, .int s0), (0, .ref (V.2.1 20)), (1, .int v1), (2, .int v2), (3, .int v3), (4, .int v4), (5, .int v5), (6, .int v6), (7, .int v7), (8, .int v8)]) C dX4_spreadCells_57 (by decide) rfl ?_
  refine j_iload (pc := 59) C dX4_spreadCells_59 9 rfl ?_
  refine j_iconst (pc := 61) (v := 5) C dX4_spreadCells_61 (by decide) ?_
  obtain ⟨g15, h⟩ := h
  refine j_idiv (pc := 62) C dX4_spreadCells_62 g15 ?_
  refine gJ.topi (fun n16 en16 => ?_)
  have h := h n16 en16
  refine j_istore (pc := 63) (lv' := [(10, .int n16), (9, .int s0), (0, .ref (V.2.1 20)), (1, .int v1), (2, .int v2), (3, .int v3), (4, .int v4), (5, .int v5), (6, .int v6), (7, .int v7), (8, .int v8)]) C dX4_spreadCells_63 (by decide) rfl ?_
  refine j_iconst (pc := 65) (v := 0) C dX4_spreadCells_65 (by decide) ?_
  refine j_istore (pc := 66) (lv' := [(11, .int (0 : Int32)), (10, .int n16), (9, .int s0), (0, .ref (V.2.1 20)), (1, .int v1), (2, .int v2), (3, .int v3), (4, .int v4), (5, .int v5), (6, .int v6), (7, .int v7), (8, .int v8)]) C dX4_spreadCells_66 (by decide) rfl ?_
  refine gJ.sub [3, 4, 5, 6, 7, 8, 9, 10, 11, 2, 1, 0] rfl ?_
  exact t_X4_spreadCells_68 hJG C hX hR  hK17 h
set_option maxRecDepth 100000 in
set_option maxHeartbeats 4000000 in
theorem t_X4_spreadCells_17b {X : gX} {l : Launch} {D : va_G} {cy : Nat → ClassId} {nm : String} {V : gV} (hJG : gModJG V) (C : gC X cX4_spreadCells RX4 (some .int) 13 rm_X4_spreadCells) (hX : gIs X l D cy nm) {I : gI} {J : gL} {Po : Int32 → gI → Prop} (hR : gR X (gPi V (fun x I' J' => J = J' ∧ Po x I'))) {v1 : Int32} {v2 : Int32} {v3 : Int32} {v4 : Int32} {v5 : Int32} {v6 : Int32} {v7 : Int32} {v8 : Int32} {K17 : Int32 → Int32 → Int32 → Int32 → gI → Prop} (hK17 : ∀ (y5 : Int32) (y6 : Int32) (y7 : Int32) (y8 : Int32) (I1 : gI), K17 y5 y6 y7 y8 I1 → gJ X V 0 0 17 [(0, .ref (V.2.1 20)), (1, .int v1), (2, .int v2), (3, .int v3), (4, .int v4), (5, .int y5), (6, .int y6), (7, .int y7), (8, .int y8)] [] I1 J) (h : w_X4_spreadCells_17b Po K17 v1 v2 v3 v4 v5 v6 v7 v8 I) : gJ X V 0 0 17 [(0, .ref (V.2.1 20)), (1, .int v1), (2, .int v2), (3, .int v3), (4, .int v4), (5, .int v5), (6, .int v6), (7, .int v7), (8, .int v8)] [] I J := by
  unfold w_X4_spreadCells_17b at h
  refine j_iload (pc := 17) C dX4_spreadCells_17 8 rfl ?_
  refine j_bipush (pc := 19) (v := 25) C dX4_spreadCells_19 (by decide) ?_
  refine j_icmp_ge (pc := 21) (tgt := 140) C dX4_spreadCells_21 (by decide) (fun c1 => ?_) (fun c1 => ?_)
  · have h := h.1 c1
    refine gJ.sub [0, 5, 6, 7] rfl ?_
    exact t_X4_spreadCells_140 hJG C hX hR   h
  · have h := h.2 c1
    refine j_iload (pc := 24) C dX4_spreadCells_24 5 rfl ?_
    refine j_iconst (pc := 26) (v := 5) C dX4_spreadCells_26 (by decide) ?_
    refine j_icmp_ge (pc := 27) (tgt := 140) C dX4_spreadCells_27 (by decide) (fun c10 => ?_) (fun c10 => ?_)
    · have h := h.1 c10
      refine gJ.sub [0, 5, 6, 7] rfl ?_
      exact t_X4_spreadCells_140 hJG C hX hR   h
    · have h := h.2 c10
      refine j_iload_n (pc := 30) C dX4_spreadCells_30 rfl 1 rfl ?_
      refine j_iload (pc := 31) C dX4_spreadCells_31 8 rfl ?_
      refine j_ishr (pc := 33) C dX4_spreadCells_33 ?_
      refine j_iconst (pc := 34) (v := 1) C dX4_spreadCells_34 (by decide) ?_
      refine j_iand (pc := 35) C dX4_spreadCells_35 ?_
      refine j_if_eq (pc := 36) (tgt := 134) C dX4_spreadCells_36 (by decide) (fun c11 => ?_) (fun c11 => ?_)
      · have h := h.1 c11
        refine gJ.sub [0, 1, 2, 3, 4, 5, 6, 7, 8] rfl ?_
        exact t_X4_spreadCells_134 hJG C hX hR  hK17 h
      · have h := h.2 c11
        refine j_iload_n (pc := 39) C dX4_spreadCells_39 rfl 2 rfl ?_
        refine j_if_eq (pc := 40) (tgt := 53) C dX4_spreadCells_40 (by decide) (fun c13 => ?_) (fun c13 => ?_)
        · have h := h.1 c13
          refine j_iload (pc := 53) C dX4_spreadCells_53 8 rfl ?_
          refine j_iconst (pc := 55) (v := 5) C dX4_spreadCells_55 (by decide) ?_
          obtain ⟨g14, h⟩ := h
          refine j_irem (pc := 56) C dX4_spreadCells_56 g14 ?_
          refine gJ.sub [0, 1, 2, 3, 4, 5, 6, 7, 8] rfl ?_
          exact t_X4_spreadCells_57 hJG C hX hR  hK17 h
        · have h := h.2 c13
          refine j_iload (pc := 43) C dX4_spreadCells_43 4 rfl ?_
          refine j_iload (pc := 45) C dX4_spreadCells_45 8 rfl ?_
          refine j_iconst (pc := 47) (v := 5) C dX4_spreadCells_47 (by decide) ?_
          obtain ⟨g27, h⟩ := h
          refine j_irem (pc := 48) C dX4_spreadCells_48 g27 ?_
          refine j_isub (pc := 49) C dX4_spreadCells_49 ?_
          refine j_goto (pc := 50) (tgt := 57) C dX4_spreadCells_50 (by decide) ?_
          refine gJ.sub [0, 1, 2, 3, 4, 5, 6, 7, 8] rfl ?_
          exact t_X4_spreadCells_57 hJG C hX hR  hK17 h
set_option maxRecDepth 100000 in
set_option maxHeartbeats 4000000 in
theorem t_X4_spreadCells_17 {X : gX} {l : Launch} {D : va_G} {cy : Nat → ClassId} {nm : String} {V : gV} (hJG : gModJG V) (C : gC X cX4_spreadCells RX4 (some .int) 13 rm_X4_spreadCells) (hX : gIs X l D cy nm) {I : gI} {J : gL} {Po : Int32 → gI → Prop} (hR : gR X (gPi V (fun x I' J' => J = J' ∧ Po x I'))) {v1 : Int32} {v2 : Int32} {v3 : Int32} {v4 : Int32} {v5 : Int32} {v6 : Int32} {v7 : Int32} {v8 : Int32} (h : w_X4_spreadCells_17 Po v1 v2 v3 v4 v5 v6 v7 v8 I) : gJ X V 0 0 17 [(0, .ref (V.2.1 20)), (1, .int v1), (2, .int v2), (3, .int v3), (4, .int v4), (5, .int v5), (6, .int v6), (7, .int v7), (8, .int v8)] [] I J := by
  unfold w_X4_spreadCells_17 at h
  obtain ⟨Inv, mu, h0, hs⟩ := h
  have key : ∀ (n : Nat) (v5 : Int32) (v6 : Int32) (v7 : Int32) (v8 : Int32) (I : gI), Inv v5 v6 v7 v8 I → mu v5 v6 v7 v8 I < n → gJ X V 0 0 17 [(0, .ref (V.2.1 20)), (1, .int v1), (2, .int v2), (3, .int v3), (4, .int v4), (5, .int v5), (6, .int v6), (7, .int v7), (8, .int v8)] [] I J := by
    intro n
    induction n with
    | zero => intro v5 v6 v7 v8 I hi hn; exact absurd hn (Nat.not_lt_zero _)
    | succ n ih =>
      intro v5 v6 v7 v8 I hi hn
      exact t_X4_spreadCells_17b hJG C hX hR   (fun u5 u6 u7 u8 I1 hk => ih u5 u6 u7 u8 I1 hk.1 (Nat.lt_of_lt_of_le hk.2 (Nat.le_of_lt_succ hn))) (hs v5 v6 v7 v8 I hi)
  exact key _ v5 v6 v7 v8 I h0 (Nat.lt_succ_self _)
set_option maxRecDepth 100000 in
set_option maxHeartbeats 4000000 in
theorem m_X4_spreadCells {l : Launch} {D : va_G} {cy : Nat → ClassId} {V : gV} (hJG : gModJG V) {a1 : Int32} {a2 : Int32} {a3 : Int32} {I : gI} {J : gL} {Po : Int32 → gI → Prop} (h : wp_X4_spreadCells a1 a2 a3 I Po) : gMet l D cy yX4_spreadCells cX4_spreadCells 13 (some .int) rm_X4_spreadCells V [.ref (V.2.1 20), .int a1, .int a2, .int a3] I J (gPi V (fun x I' J' => J = J' ∧ Po x I')) := by
  refine gMet.of (by decide) (Nat.le_of_ble_eq_true rfl) (fun X hX C hR => ?_)
  have C : gC X cX4_spreadCells RX4 (some .int) 13 rm_X4_spreadCells := C
  show gJ X V 0 0 0 [(0, .ref (V.2.1 20)), (1, .int a1), (2, .int a2), (3, .int a3)] [] I J
  unfold wp_X4_spreadCells at h
  refine j_iconst (pc := 0) (v := 4) C dX4_spreadCells_0 (by decide) ?_
  refine j_istore (pc := 1) (lv' := [(4, .int (4 : Int32)), (0, .ref (V.2.1 20)), (1, .int a1), (2, .int a2), (3, .int a3)]) C dX4_spreadCells_1 (by decide) rfl ?_
  refine j_iconst (pc := 3) (v := 0) C dX4_spreadCells_3 (by decide) ?_
  refine j_istore (pc := 4) (lv' := [(5, .int (0 : Int32)), (4, .int (4 : Int32)), (0, .ref (V.2.1 20)), (1, .int a1), (2, .int a2), (3, .int a3)]) C dX4_spreadCells_4 (by decide) rfl ?_
  refine j_iload (pc := 6) C dX4_spreadCells_6 1 rfl ?_
  refine j_istore (pc := 8) (lv' := [(6, .int (4 : Int32)), (5, .int (0 : Int32)), (4, .int (4 : Int32)), (0, .ref (V.2.1 20)), (1, .int a1), (2, .int a2), (3, .int a3)]) C dX4_spreadCells_8 (by decide) rfl ?_
  refine j_iload (pc := 10) C dX4_spreadCells_10 2 rfl ?_
  refine j_istore (pc := 12) (lv' := [(7, .int (4 : Int32)), (6, .int (4 : Int32)), (5, .int (0 : Int32)), (4, .int (4 : Int32)), (0, .ref (V.2.1 20)), (1, .int a1), (2, .int a2), (3, .int a3)]) C dX4_spreadCells_12 (by decide) rfl ?_
  refine j_iconst (pc := 14) (v := 0) C dX4_spreadCells_14 (by decide) ?_
  refine j_istore (pc := 15) (lv' := [(8, .int (0 : Int32)), (7, .int (4 : Int32)), (6, .int (4 : Int32)), (5, .int (0 : Int32)), (4, .int (4 : Int32)), (0, .ref (V.2.1 20)), (1, .int a1), (2, .int a2), (3, .int a3)]) C dX4_spreadCells_15 (by decide) rfl ?_
  refine gJ.sub [5, 6, 7, 8, 4, 3, 2, 1, 0] rfl ?_
  exact t_X4_spreadCells_17 hJG C hX hR   h
/-! TileRules$Jigsaw.listWay(IZI)V -/
abbrev rm_X4_listWay : Room := { frames := 2, cells := 0, slots := 0, locals := 53 }
theorem ok_X4_listWay : gOk yX4_listWay cX4_listWay 10 none 3 := ⟨wd_577, wd_71, by decide +kernel⟩
def w_X4_listWay_123  (Po : gI → Prop) (K67 : Int32 → gI → Prop) (K82 : Int32 → gI → Prop) (v1 : Int32) (v4 : Int32) (v5 : Int32) (v6 : Int32) (v7 : Int32) (v8 : Int32) (I : gI) : Prop :=
  ∀ n10 : Int32, n10 = v8 + 1 → K82 n10 I
def w_X4_listWay_82b  (Po : gI → Prop) (K67 : Int32 → gI → Prop) (K82 : Int32 → gI → Prop) (v1 : Int32) (v4 : Int32) (v5 : Int32) (v6 : Int32) (v7 : Int32) (v8 : Int32) (I : gI) : Prop :=
  ((I 20 1) ≤ (v8 + v5) → ∀ n7 : Int32, n7 = v7 + 1 → K67 n7 I) ∧ (¬ (I 20 1) ≤ (v8 + v5) → wp_X4_cellsFrom v4 v8 v7 I (fun r8 => (¬ (r8 &&& (I 20 3)) = 0 → w_X4_listWay_123 Po K67 K82 v1 v4 v5 v6 v7 v8 I) ∧ ((r8 &&& (I 20 3)) = 0 → wp_X4_listInOrder v1 r8 I (fun I11 => w_X4_listWay_123 Po K67 K82 v1 v4 v5 v6 v7 v8 I11))))
def w_X4_listWay_82  (Po : gI → Prop) (K67 : Int32 → gI → Prop) (v1 : Int32) (v4 : Int32) (v5 : Int32) (v6 : Int32) (v7 : Int32) (v8 : Int32) (I : gI) : Prop :=
  ∃ (Inv : Int32 → gI → Prop) (mu : Int32 → gI → Nat), Inv v8 I ∧ ∀ (v8 : Int32) (I : gI), Inv v8 I → w_X4_listWay_82b  Po K67 (fun u8 I1 => Inv u8 I1 ∧ mu u8 I1 < mu v8 I) v1 v4 v5 v6 v7 v8 I
def w_X4_listWay_67b  (Po : gI → Prop) (K67 : Int32 → gI → Prop) (v1 : Int32) (v4 : Int32) (v5 : Int32) (v6 : Int32) (v7 : Int32) (I : gI) : Prop :=
  ((I 20 2) ≤ (v7 + v6) → Po I) ∧ (¬ (I 20 2) ≤ (v7 + v6) → w_X4_listWay_82 Po K67 v1 v4 v5 v6 v7 (0 : Int32) I)
def w_X4_listWay_67  (Po : gI → Prop)  (v1 : Int32) (v4 : Int32) (v5 : Int32) (v6 : Int32) (v7 : Int32) (I : gI) : Prop :=
  ∃ (Inv : Int32 → gI → Prop) (mu : Int32 → gI → Nat), Inv v7 I ∧ ∀ (v7 : Int32) (I : gI), Inv v7 I → w_X4_listWay_67b  Po  (fun u7 I1 => Inv u7 I1 ∧ mu u7 I1 < mu v7 I) v1 v4 v5 v6 v7 I
def w_X4_listWay_23b  (Po : gI → Prop) (K23 : Int32 → Int32 → Int32 → Prop) (v1 : Int32) (v4 : Int32) (v5 : Int32) (v6 : Int32) (v7 : Int32) (I : gI) : Prop :=
  (v4 ≤ v7 → w_X4_listWay_67 Po v1 v4 v5 v6 (0 : Int32) I) ∧ (¬ v4 ≤ v7 → vp_in v7 5 ∧ ∀ n13 : Int32, n13 = (if v5 < (I 36 (v7).toNatClampNeg) then (I 36 (v7).toNatClampNeg) else v5) → vp_in v7 5 ∧ ∀ n15 : Int32, n15 = (if v6 < (I 37 (v7).toNatClampNeg) then (I 37 (v7).toNatClampNeg) else v6) → ∀ n16 : Int32, n16 = v7 + 1 → K23 n13 n15 n16)
def w_X4_listWay_23  (Po : gI → Prop)  (v1 : Int32) (v4 : Int32) (v5 : Int32) (v6 : Int32) (v7 : Int32) (I : gI) : Prop :=
  ∃ (Inv : Int32 → Int32 → Int32 → Prop) (mu : Int32 → Int32 → Int32 → Nat), Inv v5 v6 v7 ∧ ∀ (v5 : Int32) (v6 : Int32) (v7 : Int32), Inv v5 v6 v7 → w_X4_listWay_23b  Po  (fun u5 u6 u7 => Inv u5 u6 u7 ∧ mu u5 u6 u7 < mu v5 v6 v7) v1 v4 v5 v6 v7 I
def wp_X4_listWay (a1 : Int32) (a2 : Int32) (a3 : Int32) (I : gI) (Po : gI → Prop) : Prop :=
  vp_in a1 6 ∧ wp_X4_spreadCells (I 21 (a1).toNatClampNeg) a2 a3 I (fun r2 I3 => w_X4_listWay_23 Po a1 r2 (0 : Int32) (0 : Int32) (0 : Int32) I3)
set_option maxRecDepth 100000 in
set_option maxHeartbeats 4000000 in
theorem t_X4_listWay_123 {X : gX} {l : Launch} {D : va_G} {cy : Nat → ClassId} {nm : String} {V : gV} (hJG : gModJG V) (C : gC X cX4_listWay RX4 none 10 rm_X4_listWay) (hX : gIs X l D cy nm) {I : gI} {J : gL} {Po : gI → Prop} (hR : gR X (gPv V (fun I' J' => J = J' ∧ Po I'))) {v1 : Int32} {v4 : Int32} {v5 : Int32} {v6 : Int32} {v7 : Int32} {v8 : Int32} {K67 : Int32 → gI → Prop} {K82 : Int32 → gI → Prop} (hK67 : ∀ (y7 : Int32) (I1 : gI), K67 y7 I1 → gJ X V 0 0 67 [(0, .ref (V.2.1 20)), (1, .int v1), (4, .int v4), (5, .int v5), (6, .int v6), (7, .int y7)] [] I1 J) (hK82 : ∀ (y8 : Int32) (I1 : gI), K82 y8 I1 → gJ X V 0 0 82 [(0, .ref (V.2.1 20)), (1, .int v1), (4, .int v4), (5, .int v5), (6, .int v6), (7, .int v7), (8, .int y8)] [] I1 J) (h : w_X4_listWay_123 Po K67 K82 v1 v4 v5 v6 v7 v8 I) : gJ X V 0 0 123 [(0, .ref (V.2.1 20)), (1, .int v1), (4, .int v4), (5, .int v5), (6, .int v6), (7, .int v7), (8, .int v8)] [] I J := by
  unfold w_X4_listWay_123 at h
  obtain ⟨n10, en10⟩ : ∃ z : Int32, z = v8 + 1 := ⟨_, rfl⟩
  have h := h n10 en10
  refine j_iinc (pc := 123) (v := n10) (lv' := [(8, .int n10), (0, .ref (V.2.1 20)), (1, .int v1), (4, .int v4), (5, .int v5), (6, .int v6), (7, .int v7)]) C dX4_listWay_123 6 rfl (by rw [en10]; rfl) (by decide) rfl ?_
  refine j_goto (pc := 126) (tgt := 82) C dX4_listWay_126 (by decide) ?_
  refine gJ.sub [1, 2, 3, 4, 5, 6, 0] rfl ?_
  exact hK82 _ _ h
set_option maxRecDepth 100000 in
set_option maxHeartbeats 4000000 in
theorem t_X4_listWay_82b {X : gX} {l : Launch} {D : va_G} {cy : Nat → ClassId} {nm : String} {V : gV} (hJG : gModJG V) (C : gC X cX4_listWay RX4 none 10 rm_X4_listWay) (hX : gIs X l D cy nm) {I : gI} {J : gL} {Po : gI → Prop} (hR : gR X (gPv V (fun I' J' => J = J' ∧ Po I'))) {v1 : Int32} {v4 : Int32} {v5 : Int32} {v6 : Int32} {v7 : Int32} {v8 : Int32} {K67 : Int32 → gI → Prop} {K82 : Int32 → gI → Prop} (hK67 : ∀ (y7 : Int32) (I1 : gI), K67 y7 I1 → gJ X V 0 0 67 [(0, .ref (V.2.1 20)), (1, .int v1), (4, .int v4), (5, .int v5), (6, .int v6), (7, .int y7)] [] I1 J) (hK82 : ∀ (y8 : Int32) (I1 : gI), K82 y8 I1 → gJ X V 0 0 82 [(0, .ref (V.2.1 20)), (1, .int v1), (4, .int v4), (5, .int v5), (6, .int v6), (7, .int v7), (8, .int y8)] [] I1 J) (h : w_X4_listWay_82b Po K67 K82 v1 v4 v5 v6 v7 v8 I) : gJ X V 0 0 82 [(0, .ref (V.2.1 20)), (1, .int v1), (4, .int v4), (5, .int v5), (6, .int v6), (7, .int v7), (8, .int v8)] [] I J := by
  unfold w_X4_listWay_82b at h
  refine j_iload (pc := 82) C dX4_listWay_82 6 rfl ?_
  refine j_iload (pc := 84) C dX4_listWay_84 3 rfl ?_
  refine j_iadd (pc := 86) C dX4_listWay_86 ?_
  refine j_aload_n (pc := 87) C dX4_listWay_87 rfl 0 rfl ?_
  refine j_getI (pc := 88) C 20 1 (c_20 hJG).1 (c_20 hJG).2 rfl rfl (by decide) inw_X4 wd_133 dX4_listWay_88 ?_
  refine j_icmp_ge (pc := 91) (tgt := 129) C dX4_listWay_91 (by decide) (fun c6 => ?_) (fun c6 => ?_)
  · have h := h.1 c6
    obtain ⟨n7, en7⟩ : ∃ z : Int32, z = v7 + 1 := ⟨_, rfl⟩
    have h := h n7 en7
    refine j_iinc (pc := 129) (v := n7) (lv' := [(7, .int n7), (0, .ref (V.2.1 20)), (1, .int v1), (4, .int v4), (5, .int v5), (6, .int v6), (8, .int v8)]) C dX4_listWay_129 5 rfl (by rw [en7]; rfl) (by decide) rfl ?_
    refine j_goto (pc := 132) (tgt := 67) C dX4_listWay_132 (by decide) ?_
    refine gJ.sub [1, 2, 3, 4, 5, 0] rfl ?_
    exact hK67 _ _ h
  · have h := h.2 c6
    refine j_aload_n (pc := 94) C dX4_listWay_94 rfl 0 rfl ?_
    refine j_iload (pc := 95) C dX4_listWay_95 2 rfl ?_
    refine j_iload (pc := 97) C dX4_listWay_97 6 rfl ?_
    refine j_iload (pc := 99) C dX4_listWay_99 5 rfl ?_
    refine j_callV (pc := 101) (As := [.int v4, .int v8, .int v7]) (st := []) C hX 20 (m_X4_cellsFrom hJG  h) (c_20 hJG).1 (c_20 hJG).2 rfl ok_X4_cellsFrom wd_586 wd_588 wd_16 ⟨by decide, by decide⟩ rfl rfl (Nat.le_of_ble_eq_true rfl) ⟨Nat.le_refl 0, Nat.le_refl 0⟩ dX4_listWay_101 (fun r V1 I1 J1 hp => ?_)
    obtain ⟨r8, rfl, rfl, rfl, rfl, h⟩ := hp
    show gJ X V 0 0 104 _ [.int r8] _ _
    refine j_istore (pc := 104) (lv' := [(9, .int r8), (0, .ref (V.2.1 20)), (1, .int v1), (4, .int v4), (5, .int v5), (6, .int v6), (7, .int v7), (8, .int v8)]) C dX4_listWay_104 (by decide) rfl ?_
    refine j_iload (pc := 106) C dX4_listWay_106 0 rfl ?_
    refine j_aload_n (pc := 108) C dX4_listWay_108 rfl 1 rfl ?_
    refine j_getI (pc := 109) C 20 3 (c_20 hJG).1 (c_20 hJG).2 rfl rfl (by decide) inw_X4 wd_139 dX4_listWay_109 ?_
    refine j_iand (pc := 112) C dX4_listWay_112 ?_
    refine j_if_ne (pc := 113) (tgt := 123) C dX4_listWay_113 (by decide) (fun c9 => ?_) (fun c9 => ?_)
    · have h := h.1 c9
      refine gJ.sub [1, 2, 3, 4, 5, 6, 7] rfl ?_
      exact t_X4_listWay_123 hJG C hX hR  hK67 hK82 h
    · have h := h.2 c9
      refine j_aload_n (pc := 116) C dX4_listWay_116 rfl 1 rfl ?_
      refine j_iload_n (pc := 117) C dX4_listWay_117 rfl 2 rfl ?_
      refine j_iload (pc := 118) C dX4_listWay_118 0 rfl ?_
      refine j_callV (pc := 120) (As := [.int v1, .int r8]) (st := []) C hX 20 (m_X4_listInOrder hJG  h) (c_20 hJG).1 (c_20 hJG).2 rfl ok_X4_listInOrder wd_590 wd_592 wd_17 ⟨by decide, by decide⟩ rfl rfl (Nat.le_of_ble_eq_true rfl) ⟨Nat.le_refl 0, Nat.le_refl 0⟩ dX4_listWay_120 (fun r V1 I11 J1 hp => ?_)
      obtain ⟨rfl, rfl, rfl, h⟩ := hp
      show gJ X V 0 0 123 _ [] _ _
      refine gJ.sub [1, 2, 3, 4, 5, 6, 7] rfl ?_
      exact t_X4_listWay_123 hJG C hX hR  hK67 hK82 h
set_option maxRecDepth 100000 in
set_option maxHeartbeats 4000000 in
theorem t_X4_listWay_82 {X : gX} {l : Launch} {D : va_G} {cy : Nat → ClassId} {nm : String} {V : gV} (hJG : gModJG V) (C : gC X cX4_listWay RX4 none 10 rm_X4_listWay) (hX : gIs X l D cy nm) {I : gI} {J : gL} {Po : gI → Prop} (hR : gR X (gPv V (fun I' J' => J = J' ∧ Po I'))) {v1 : Int32} {v4 : Int32} {v5 : Int32} {v6 : Int32} {v7 : Int32} {v8 : Int32} {K67 : Int32 → gI → Prop} (hK67 : ∀ (y7 : Int32) (I1 : gI), K67 y7 I1 → gJ X V 0 0 67 [(0, .ref (V.2.1 20)), (1, .int v1), (4, .int v4), (5, .int v5), (6, .int v6), (7, .int y7)] [] I1 J) (h : w_X4_listWay_82 Po K67 v1 v4 v5 v6 v7 v8 I) : gJ X V 0 0 82 [(0, .ref (V.2.1 20)), (1, .int v1), (4, .int v4), (5, .int v5), (6, .int v6), (7, .int v7), (8, .int v8)] [] I J := by
  unfold w_X4_listWay_82 at h
  obtain ⟨Inv, mu, h0, hs⟩ := h
  have key : ∀ (n : Nat) (v8 : Int32) (I : gI), Inv v8 I → mu v8 I < n → gJ X V 0 0 82 [(0, .ref (V.2.1 20)), (1, .int v1), (4, .int v4), (5, .int v5), (6, .int v6), (7, .int v7), (8, .int v8)] [] I J := by
    intro n
    induction n with
    | zero => intro v8 I hi hn; exact absurd hn (Nat.not_lt_zero _)
    | succ n ih =>
      intro v8 I hi hn
      exact t_X4_listWay_82b hJG C hX hR  hK67 (fun u8 I1 hk => ih u8 I1 hk.1 (Nat.lt_of_lt_of_le hk.2 (Nat.le_of_lt_succ hn))) (hs v8 I hi)
  exact key _ v8 I h0 (Nat.lt_succ_self _)
set_option maxRecDepth 100000 in
set_option maxHeartbeats 4000000 in
theorem t_X4_listWay_67b {X : gX} {l : Launch} {D : va_G} {cy : Nat → ClassId} {nm : String} {V : gV} (hJG : gModJG V) (C : gC X cX4_listWay RX4 none 10 rm_X4_listWay) (hX : gIs X l D cy nm) {I : gI} {J : gL} {Po : gI → Prop} (hR : gR X (gPv V (fun I' J' => J = J' ∧ Po I'))) {v1 : Int32} {v4 : Int32} {v5 : Int32} {v6 : Int32} {v7 : Int32} {K67 : Int32 → gI → Prop} (hK67 : ∀ (y7 : Int32) (I1 : gI), K67 y7 I1 → gJ X V 0 0 67 [(0, .ref (V.2.1 20)), (1, .int v1), (4, .int v4), (5, .int v5), (6, .int v6), (7, .int y7)] [] I1 J) (h : w_X4_listWay_67b Po K67 v1 v4 v5 v6 v7 I) : gJ X V 0 0 67 [(0, .ref (V.2.1 20)), (1, .int v1), (4, .int v4), (5, .int v5), (6, .int v6), (7, .int v7)] [] I J := by
  unfold w_X4_listWay_67b at h
  refine j_iload (pc := 67) C dX4_listWay_67 5 rfl ?_
  refine j_iload (pc := 69) C dX4_listWay_69 4 rfl ?_
  refine j_iadd (pc := 71) C dX4_listWay_71 ?_
  refine j_aload_n (pc := 72) C dX4_listWay_72 rfl 0 rfl ?_
  refine j_getI (pc := 73) C 20 2 (c_20 hJG).1 (c_20 hJG).2 rfl rfl (by decide) inw_X4 wd_136 dX4_listWay_73 ?_
  refine j_icmp_ge (pc := 76) (tgt := 135) C dX4_listWay_76 (by decide) (fun c5 => ?_) (fun c5 => ?_)
  · have h := h.1 c5
    exact j_vret (pc := 135) C hR (Nat.zero_le _) (Nat.zero_le _) dX4_listWay_135 ⟨rfl, rfl, rfl, h⟩
  · have h := h.2 c5
    refine j_iconst (pc := 79) (v := 0) C dX4_listWay_79 (by decide) ?_
    refine j_istore (pc := 80) (lv' := [(8, .int (0 : Int32)), (0, .ref (V.2.1 20)), (1, .int v1), (4, .int v4), (5, .int v5), (6, .int v6), (7, .int v7)]) C dX4_listWay_80 (by decide) rfl ?_
    refine gJ.sub [1, 2, 3, 4, 5, 6, 0] rfl ?_
    exact t_X4_listWay_82 hJG C hX hR  hK67 h
set_option maxRecDepth 100000 in
set_option maxHeartbeats 4000000 in
theorem t_X4_listWay_67 {X : gX} {l : Launch} {D : va_G} {cy : Nat → ClassId} {nm : String} {V : gV} (hJG : gModJG V) (C : gC X cX4_listWay RX4 none 10 rm_X4_listWay) (hX : gIs X l D cy nm) {I : gI} {J : gL} {Po : gI → Prop} (hR : gR X (gPv V (fun I' J' => J = J' ∧ Po I'))) {v1 : Int32} {v4 : Int32} {v5 : Int32} {v6 : Int32} {v7 : Int32} (h : w_X4_listWay_67 Po v1 v4 v5 v6 v7 I) : gJ X V 0 0 67 [(0, .ref (V.2.1 20)), (1, .int v1), (4, .int v4), (5, .int v5), (6, .int v6), (7, .int v7)] [] I J := by
  unfold w_X4_listWay_67 at h
  obtain ⟨Inv, mu, h0, hs⟩ := h
  have key : ∀ (n : Nat) (v7 : Int32) (I : gI), Inv v7 I → mu v7 I < n → gJ X V 0 0 67 [(0, .ref (V.2.1 20)), (1, .int v1), (4, .int v4), (5, .int v5), (6, .int v6), (7, .int v7)] [] I J := by
    intro n
    induction n with
    | zero => intro v7 I hi hn; exact absurd hn (Nat.not_lt_zero _)
    | succ n ih =>
      intro v7 I hi hn
      exact t_X4_listWay_67b hJG C hX hR   (fun u7 I1 hk => ih u7 I1 hk.1 (Nat.lt_of_lt_of_le hk.2 (Nat.le_of_lt_succ hn))) (hs v7 I hi)
  exact key _ v7 I h0 (Nat.lt_succ_self _)
set_option maxRecDepth 100000 in
set_option maxHeartbeats 4000000 in
theorem t_X4_listWay_23b {X : gX} {l : Launch} {D : va_G} {cy : Nat → ClassId} {nm : String} {V : gV} (hJG : gModJG V) (C : gC X cX4_listWay RX4 none 10 rm_X4_listWay) (hX : gIs X l D cy nm) {I : gI} {J : gL} {Po : gI → Prop} (hR : gR X (gPv V (fun I' J' => J = J' ∧ Po I'))) {v1 : Int32} {v4 : Int32} {v5 : Int32} {v6 : Int32} {v7 : Int32} {K23 : Int32 → Int32 → Int32 → Prop} (hK23 : ∀ (y5 : Int32) (y6 : Int32) (y7 : Int32), K23 y5 y6 y7 → gJ X V 0 0 23 [(0, .ref (V.2.1 20)), (1, .int v1), (4, .int v4), (5, .int y5), (6, .int y6), (7, .int y7)] [] I J) (h : w_X4_listWay_23b Po K23 v1 v4 v5 v6 v7 I) : gJ X V 0 0 23 [(0, .ref (V.2.1 20)), (1, .int v1), (4, .int v4), (5, .int v5), (6, .int v6), (7, .int v7)] [] I J := by
  unfold w_X4_listWay_23b at h
  refine j_iload (pc := 23) C dX4_listWay_23 5 rfl ?_
  refine j_iload (pc := 25) C dX4_listWay_25 2 rfl ?_
  refine j_icmp_ge (pc := 27) (tgt := 64) C dX4_listWay_27 (by decide) (fun c4 => ?_) (fun c4 => ?_)
  · have h := h.1 c4
    refine j_iconst (pc := 64) (v := 0) C dX4_listWay_64 (by decide) ?_
    refine j_istore (pc := 65) (lv' := [(7, .int (0 : Int32)), (0, .ref (V.2.1 20)), (1, .int v1), (4, .int v4), (5, .int v5), (6, .int v6)]) C dX4_listWay_65 (by decide) rfl ?_
    refine gJ.sub [1, 2, 3, 4, 5, 0] rfl ?_
    exact t_X4_listWay_67 hJG C hX hR   h
  · have h := h.2 c4
    refine j_iload (pc := 30) C dX4_listWay_30 3 rfl ?_
    refine j_aload_n (pc := 32) C dX4_listWay_32 rfl 0 rfl ?_
    refine j_getR (pc := 33) C 20 11 36 (c_20 hJG).1 (c_20 hJG).2 rfl rfl (by decide) inw_X4 wd_149 dX4_listWay_33 ?_
    refine j_iload (pc := 36) C dX4_listWay_36 5 rfl ?_
    obtain ⟨g12, h⟩ := h
    refine j_iald (pc := 38) C 36 (c_36 hJG).1 (c_36 hJG).2 g12 dX4_listWay_38 ?_
    refine j_mmax (pc := 39) (st := []) C wd_583 wd_584 wd_79 wd_585 (by decide) (Nat.le_of_ble_eq_true rfl) (Nat.zero_le _) (Nat.zero_le _) dX4_listWay_39 ?_
    refine gJ.topi (fun n13 en13 => ?_)
    have h := h n13 en13
    refine j_istore (pc := 42) (lv' := [(5, .int n13), (0, .ref (V.2.1 20)), (1, .int v1), (4, .int v4), (6, .int v6), (7, .int v7)]) C dX4_listWay_42 (by decide) rfl ?_
    refine j_iload (pc := 44) C dX4_listWay_44 4 rfl ?_
    refine j_aload_n (pc := 46) C dX4_listWay_46 rfl 1 rfl ?_
    refine j_getR (pc := 47) C 20 12 37 (c_20 hJG).1 (c_20 hJG).2 rfl rfl (by decide) inw_X4 wd_150 dX4_listWay_47 ?_
    refine j_iload (pc := 50) C dX4_listWay_50 5 rfl ?_
    obtain ⟨g14, h⟩ := h
    refine j_iald (pc := 52) C 37 (c_37 hJG).1 (c_37 hJG).2 g14 dX4_listWay_52 ?_
    refine j_mmax (pc := 53) (st := []) C wd_583 wd_584 wd_79 wd_585 (by decide) (Nat.le_of_ble_eq_true rfl) (Nat.zero_le _) (Nat.zero_le _) dX4_listWay_53 ?_
    refine gJ.topi (fun n15 en15 => ?_)
    have h := h n15 en15
    refine j_istore (pc := 56) (lv' := [(6, .int n15), (5, .int n13), (0, .ref (V.2.1 20)), (1, .int v1), (4, .int v4), (7, .int v7)]) C dX4_listWay_56 (by decide) rfl ?_
    obtain ⟨n16, en16⟩ : ∃ z : Int32, z = v7 + 1 := ⟨_, rfl⟩
    have h := h n16 en16
    refine j_iinc (pc := 58) (v := n16) (lv' := [(7, .int n16), (6, .int n15), (5, .int n13), (0, .ref (V.2.1 20)), (1, .int v1), (4, .int v4)]) C dX4_listWay_58 5 rfl (by rw [en16]; rfl) (by decide) rfl ?_
    refine j_goto (pc := 61) (tgt := 23) C dX4_listWay_61 (by decide) ?_
    refine gJ.sub [3, 4, 5, 2, 1, 0] rfl ?_
    exact hK23 _ _ _ h
set_option maxRecDepth 100000 in
set_option maxHeartbeats 4000000 in
theorem t_X4_listWay_23 {X : gX} {l : Launch} {D : va_G} {cy : Nat → ClassId} {nm : String} {V : gV} (hJG : gModJG V) (C : gC X cX4_listWay RX4 none 10 rm_X4_listWay) (hX : gIs X l D cy nm) {I : gI} {J : gL} {Po : gI → Prop} (hR : gR X (gPv V (fun I' J' => J = J' ∧ Po I'))) {v1 : Int32} {v4 : Int32} {v5 : Int32} {v6 : Int32} {v7 : Int32} (h : w_X4_listWay_23 Po v1 v4 v5 v6 v7 I) : gJ X V 0 0 23 [(0, .ref (V.2.1 20)), (1, .int v1), (4, .int v4), (5, .int v5), (6, .int v6), (7, .int v7)] [] I J := by
  unfold w_X4_listWay_23 at h
  obtain ⟨Inv, mu, h0, hs⟩ := h
  have key : ∀ (n : Nat) (v5 : Int32) (v6 : Int32) (v7 : Int32), Inv v5 v6 v7 → mu v5 v6 v7 < n → gJ X V 0 0 23 [(0, .ref (V.2.1 20)), (1, .int v1), (4, .int v4), (5, .int v5), (6, .int v6), (7, .int v7)] [] I J := by
    intro n
    induction n with
    | zero => intro v5 v6 v7 hi hn; exact absurd hn (Nat.not_lt_zero _)
    | succ n ih =>
      intro v5 v6 v7 hi hn
      exact t_X4_listWay_23b hJG C hX hR   (fun u5 u6 u7 hk => ih u5 u6 u7 hk.1 (Nat.lt_of_lt_of_le hk.2 (Nat.le_of_lt_succ hn))) (hs v5 v6 v7 hi)
  exact key _ v5 v6 v7 h0 (Nat.lt_succ_self _)
set_option maxRecDepth 100000 in
set_option maxHeartbeats 4000000 in
theorem m_X4_listWay {l : Launch} {D : va_G} {cy : Nat → ClassId} {V : gV} (hJG : gModJG V) {a1 : Int32} {a2 : Int32} {a3 : Int32} {I : gI} {J : gL} {Po : gI → Prop} (h : wp_X4_listWay a1 a2 a3 I Po) : gMet l D cy yX4_listWay cX4_listWay 10 none rm_X4_listWay V [.ref (V.2.1 20), .int a1, .int a2, .int a3] I J (gPv V (fun I' J' => J = J' ∧ Po I')) := by
  refine gMet.of (by decide) (Nat.le_of_ble_eq_true rfl) (fun X hX C hR => ?_)
  have C : gC X cX4_listWay RX4 none 10 rm_X4_listWay := C
  show gJ X V 0 0 0 [(0, .ref (V.2.1 20)), (1, .int a1), (2, .int a2), (3, .int a3)] [] I J
  unfold wp_X4_listWay at h
  refine j_aload_n (pc := 0) C dX4_listWay_0 rfl 0 rfl ?_
  refine j_aload_n (pc := 1) C dX4_listWay_1 rfl 0 rfl ?_
  refine j_getR (pc := 2) C 20 8 21 (c_20 hJG).1 (c_20 hJG).2 rfl rfl (by decide) inw_X4 wd_146 dX4_listWay_2 ?_
  refine j_iload_n (pc := 5) C dX4_listWay_5 rfl 1 rfl ?_
  obtain ⟨g1, h⟩ := h
  refine j_iald (pc := 6) C 21 (c_21 hJG).1 (c_21 hJG).2 g1 dX4_listWay_6 ?_
  refine j_iload_n (pc := 7) C dX4_listWay_7 rfl 2 rfl ?_
  refine j_iload_n (pc := 8) C dX4_listWay_8 rfl 3 rfl ?_
  refine j_callV (pc := 9) (As := [.int (I 21 (a1).toNatClampNeg), .int a2, .int a3]) (st := []) C hX 20 (m_X4_spreadCells hJG  h) (c_20 hJG).1 (c_20 hJG).2 rfl ok_X4_spreadCells wd_578 wd_580 wd_15 ⟨by decide, by decide⟩ rfl rfl (Nat.le_of_ble_eq_true rfl) ⟨Nat.le_refl 0, Nat.le_refl 0⟩ dX4_listWay_9 (fun r V1 I3 J1 hp => ?_)
  obtain ⟨r2, rfl, rfl, rfl, h⟩ := hp
  show gJ X V 0 0 12 _ [.int r2] _ _
  refine j_istore (pc := 12) (lv' := [(4, .int r2), (0, .ref (V.2.1 20)), (1, .int a1), (2, .int a2), (3, .int a3)]) C dX4_listWay_12 (by decide) rfl ?_
  refine j_iconst (pc := 14) (v := 0) C dX4_listWay_14 (by decide) ?_
  refine j_istore (pc := 15) (lv' := [(5, .int (0 : Int32)), (4, .int r2), (0, .ref (V.2.1 20)), (1, .int a1), (2, .int a2), (3, .int a3)]) C dX4_listWay_15 (by decide) rfl ?_
  refine j_iconst (pc := 17) (v := 0) C dX4_listWay_17 (by decide) ?_
  refine j_istore (pc := 18) (lv' := [(6, .int (0 : Int32)), (5, .int (0 : Int32)), (4, .int r2), (0, .ref (V.2.1 20)), (1, .int a1), (2, .int a2), (3, .int a3)]) C dX4_listWay_18 (by decide) rfl ?_
  refine j_iconst (pc := 20) (v := 0) C dX4_listWay_20 (by decide) ?_
  refine j_istore (pc := 21) (lv' := [(7, .int (0 : Int32)), (6, .int (0 : Int32)), (5, .int (0 : Int32)), (4, .int r2), (0, .ref (V.2.1 20)), (1, .int a1), (2, .int a2), (3, .int a3)]) C dX4_listWay_21 (by decide) rfl ?_
  refine gJ.sub [4, 5, 3, 2, 1, 0] rfl ?_
  exact t_X4_listWay_23 hJG C hX hR   h
/-! TileRules$Jigsaw.listPlacements()V -/
abbrev rm_X4_listPlacements : Room := { frames := 3, cells := 0, slots := 0, locals := 82 }
theorem ok_X4_listPlacements : gOk yX4_listPlacements cX4_listPlacements 3 none 0 := ⟨wd_572, wd_71, by decide +kernel⟩
def w_X4_listPlacements_79  (Po : gI → Prop) (K22 : Int32 → gI → Prop) (K42 : Int32 → gI → Prop) (v1 : Int32) (v2 : Int32) (I : gI) : Prop :=
  ∀ n11 : Int32, n11 = v2 + 1 → K42 n11 I
def w_X4_listPlacements_55  (Po : gI → Prop) (K22 : Int32 → gI → Prop) (K42 : Int32 → gI → Prop) (v1 : Int32) (v2 : Int32) (s0 : Int32) (s1 : Int32) (I : gI) : Prop :=
  (s0 ≤ s1 → ∀ n8 : Int32, n8 = v1 + 1 → K22 n8 I) ∧ (¬ s0 ≤ s1 → wp_X4_listWay v1 (0 : Int32) v2 I (fun I9 => ((I9 20 6) = 0 → w_X4_listPlacements_79 Po K22 K42 v1 v2 I9) ∧ (¬ (I9 20 6) = 0 → wp_X4_listWay v1 (1 : Int32) v2 I9 (fun I12 => w_X4_listPlacements_79 Po K22 K42 v1 v2 I12))))
def w_X4_listPlacements_42b  (Po : gI → Prop) (K22 : Int32 → gI → Prop) (K42 : Int32 → gI → Prop) (v1 : Int32) (v2 : Int32) (I : gI) : Prop :=
  ((I 20 5) = 0 → w_X4_listPlacements_55 Po K22 K42 v1 v2 (1 : Int32) v2 I) ∧ (¬ (I 20 5) = 0 → w_X4_listPlacements_55 Po K22 K42 v1 v2 (4 : Int32) v2 I)
def w_X4_listPlacements_42  (Po : gI → Prop) (K22 : Int32 → gI → Prop) (v1 : Int32) (v2 : Int32) (I : gI) : Prop :=
  ∃ (Inv : Int32 → gI → Prop) (mu : Int32 → gI → Nat), Inv v2 I ∧ ∀ (v2 : Int32) (I : gI), Inv v2 I → w_X4_listPlacements_42b  Po K22 (fun u2 I1 => Inv u2 I1 ∧ mu u2 I1 < mu v2 I) v1 v2 I
def w_X4_listPlacements_22b  (Po : gI → Prop) (K22 : Int32 → gI → Prop) (v1 : Int32) (I : gI) : Prop :=
  ((I 20 0) ≤ v1 → Po I) ∧ (¬ (I 20 0) ≤ v1 → vp_in v1 6 ∧ wp_J7_fill_53178 (30 + (v1).toNatClampNeg) 20 (0 : Int32) I (fun I5 => w_X4_listPlacements_42 Po K22 v1 (0 : Int32) I5))
def w_X4_listPlacements_22  (Po : gI → Prop)  (v1 : Int32) (I : gI) : Prop :=
  ∃ (Inv : Int32 → gI → Prop) (mu : Int32 → gI → Nat), Inv v1 I ∧ ∀ (v1 : Int32) (I : gI), Inv v1 I → w_X4_listPlacements_22b  Po  (fun u1 I1 => Inv u1 I1 ∧ mu u1 I1 < mu v1 I) v1 I
def wp_X4_listPlacements (I : gI) (Po : gI → Prop) : Prop :=
  (¬ (I 20 7) = (I 20 4) → ∀ I2 : gI, I2 = gup I 20 7 (I 20 4) → w_X4_listPlacements_22 Po (0 : Int32) I2) ∧ ((I 20 7) = (I 20 4) → Po I)
set_option maxRecDepth 100000 in
set_option maxHeartbeats 4000000 in
theorem t_X4_listPlacements_79 {X : gX} {l : Launch} {D : va_G} {cy : Nat → ClassId} {nm : String} {V : gV} (hJG : gModJG V) (C : gC X cX4_listPlacements RX4 none 3 rm_X4_listPlacements) (hX : gIs X l D cy nm) {I : gI} {J : gL} {Po : gI → Prop} (hR : gR X (gPv V (fun I' J' => J = J' ∧ Po I'))) {v1 : Int32} {v2 : Int32} {K22 : Int32 → gI → Prop} {K42 : Int32 → gI → Prop} (hK22 : ∀ (y1 : Int32) (I1 : gI), K22 y1 I1 → gJ X V 0 0 22 [(0, .ref (V.2.1 20)), (1, .int y1)] [] I1 J) (hK42 : ∀ (y2 : Int32) (I1 : gI), K42 y2 I1 → gJ X V 0 0 42 [(0, .ref (V.2.1 20)), (1, .int v1), (2, .int y2)] [] I1 J) (h : w_X4_listPlacements_79 Po K22 K42 v1 v2 I) : gJ X V 0 0 79 [(0, .ref (V.2.1 20)), (1, .int v1), (2, .int v2)] [] I J := by
  unfold w_X4_listPlacements_79 at h
  obtain ⟨n11, en11⟩ : ∃ z : Int32, z = v2 + 1 := ⟨_, rfl⟩
  have h := h n11 en11
  refine j_iinc (pc := 79) (v := n11) (lv' := [(2, .int n11), (0, .ref (V.2.1 20)), (1, .int v1)]) C dX4_listPlacements_79 2 rfl (by rw [en11]; rfl) (by decide) rfl ?_
  refine j_goto (pc := 82) (tgt := 42) C dX4_listPlacements_82 (by decide) ?_
  refine gJ.sub [1, 2, 0] rfl ?_
  exact hK42 _ _ h
set_option maxRecDepth 100000 in
set_option maxHeartbeats 4000000 in
theorem t_X4_listPlacements_55 {X : gX} {l : Launch} {D : va_G} {cy : Nat → ClassId} {nm : String} {V : gV} (hJG : gModJG V) (C : gC X cX4_listPlacements RX4 none 3 rm_X4_listPlacements) (hX : gIs X l D cy nm) {I : gI} {J : gL} {Po : gI → Prop} (hR : gR X (gPv V (fun I' J' => J = J' ∧ Po I'))) {v1 : Int32} {v2 : Int32} {s0 : Int32} {s1 : Int32} {K22 : Int32 → gI → Prop} {K42 : Int32 → gI → Prop} (hK22 : ∀ (y1 : Int32) (I1 : gI), K22 y1 I1 → gJ X V 0 0 22 [(0, .ref (V.2.1 20)), (1, .int y1)] [] I1 J) (hK42 : ∀ (y2 : Int32) (I1 : gI), K42 y2 I1 → gJ X V 0 0 42 [(0, .ref (V.2.1 20)), (1, .int v1), (2, .int y2)] [] I1 J) (h : w_X4_listPlacements_55 Po K22 K42 v1 v2 s0 s1 I) : gJ X V 0 0 55 [(0, .ref (V.2.1 20)), (1, .int v1), (2, .int v2)] [.int s0, .int s1] I J := by
  unfold w_X4_listPlacements_55 at h
  refine j_icmp_ge (pc := 55) (tgt := 85) C dX4_listPlacements_55 (by decide) (fun c7 => ?_) (fun c7 => ?_)
  · have h := h.1 c7
    obtain ⟨n8, en8⟩ : ∃ z : Int32, z = v1 + 1 := ⟨_, rfl⟩
    have h := h n8 en8
    refine j_iinc (pc := 85) (v := n8) (lv' := [(1, .int n8), (0, .ref (V.2.1 20)), (2, .int v2)]) C dX4_listPlacements_85 1 rfl (by rw [en8]; rfl) (by decide) rfl ?_
    refine j_goto (pc := 88) (tgt := 22) C dX4_listPlacements_88 (by decide) ?_
    refine gJ.sub [1, 0] rfl ?_
    exact hK22 _ _ h
  · have h := h.2 c7
    refine j_aload_n (pc := 58) C dX4_listPlacements_58 rfl 0 rfl ?_
    refine j_iload_n (pc := 59) C dX4_listPlacements_59 rfl 1 rfl ?_
    refine j_iconst (pc := 60) (v := 0) C dX4_listPlacements_60 (by decide) ?_
    refine j_iload_n (pc := 61) C dX4_listPlacements_61 rfl 2 rfl ?_
    refine j_callV (pc := 62) (As := [.int v1, .int (0 : Int32), .int v2]) (st := []) C hX 20 (m_X4_listWay hJG  h) (c_20 hJG).1 (c_20 hJG).2 rfl ok_X4_listWay wd_574 wd_576 wd_14 ⟨by decide, by decide⟩ rfl rfl (Nat.le_of_ble_eq_true rfl) ⟨Nat.le_refl 0, Nat.le_refl 0⟩ dX4_listPlacements_62 (fun r V1 I9 J1 hp => ?_)
    obtain ⟨rfl, rfl, rfl, h⟩ := hp
    show gJ X V 0 0 65 _ [] _ _
    refine j_aload_n (pc := 65) C dX4_listPlacements_65 rfl 0 rfl ?_
    refine j_getI (pc := 66) C 20 6 (c_20 hJG).1 (c_20 hJG).2 rfl rfl (by decide) inw_X4 wd_144 dX4_listPlacements_66 ?_
    refine j_if_eq (pc := 69) (tgt := 79) C dX4_listPlacements_69 (by decide) (fun c10 => ?_) (fun c10 => ?_)
    · have h := h.1 c10
      refine gJ.sub [0, 1, 2] rfl ?_
      exact t_X4_listPlacements_79 hJG C hX hR  hK22 hK42 h
    · have h := h.2 c10
      refine j_aload_n (pc := 72) C dX4_listPlacements_72 rfl 0 rfl ?_
      refine j_iload_n (pc := 73) C dX4_listPlacements_73 rfl 1 rfl ?_
      refine j_iconst (pc := 74) (v := 1) C dX4_listPlacements_74 (by decide) ?_
      refine j_iload_n (pc := 75) C dX4_listPlacements_75 rfl 2 rfl ?_
      refine j_callV (pc := 76) (As := [.int v1, .int (1 : Int32), .int v2]) (st := []) C hX 20 (m_X4_listWay hJG  h) (c_20 hJG).1 (c_20 hJG).2 rfl ok_X4_listWay wd_574 wd_576 wd_14 ⟨by decide, by decide⟩ rfl rfl (Nat.le_of_ble_eq_true rfl) ⟨Nat.le_refl 0, Nat.le_refl 0⟩ dX4_listPlacements_76 (fun r V1 I12 J1 hp => ?_)
      obtain ⟨rfl, rfl, rfl, h⟩ := hp
      show gJ X V 0 0 79 _ [] _ _
      refine gJ.sub [0, 1, 2] rfl ?_
      exact t_X4_listPlacements_79 hJG C hX hR  hK22 hK42 h
set_option maxRecDepth 100000 in
set_option maxHeartbeats 4000000 in
theorem t_X4_listPlacements_42b {X : gX} {l : Launch} {D : va_G} {cy : Nat → ClassId} {nm : String} {V : gV} (hJG : gModJG V) (C : gC X cX4_listPlacements RX4 none 3 rm_X4_listPlacements) (hX : gIs X l D cy nm) {I : gI} {J : gL} {Po : gI → Prop} (hR : gR X (gPv V (fun I' J' => J = J' ∧ Po I'))) {v1 : Int32} {v2 : Int32} {K22 : Int32 → gI → Prop} {K42 : Int32 → gI → Prop} (hK22 : ∀ (y1 : Int32) (I1 : gI), K22 y1 I1 → gJ X V 0 0 22 [(0, .ref (V.2.1 20)), (1, .int y1)] [] I1 J) (hK42 : ∀ (y2 : Int32) (I1 : gI), K42 y2 I1 → gJ X V 0 0 42 [(0, .ref (V.2.1 20)), (1, .int v1), (2, .int y2)] [] I1 J) (h : w_X4_listPlacements_42b Po K22 K42 v1 v2 I) : gJ X V 0 0 42 [(0, .ref (V.2.1 20)), (1, .int v1), (2, .int v2)] [] I J := by
  unfold w_X4_listPlacements_42b at h
  refine j_iload_n (pc := 42) C dX4_listPlacements_42 rfl 2 rfl ?_
  refine j_aload_n (pc := 43) C dX4_listPlacements_43 rfl 0 rfl ?_
  refine j_getI (pc := 44) C 20 5 (c_20 hJG).1 (c_20 hJG).2 rfl rfl (by decide) inw_X4 wd_143 dX4_listPlacements_44 ?_
  refine j_if_eq (pc := 47) (tgt := 54) C dX4_listPlacements_47 (by decide) (fun c6 => ?_) (fun c6 => ?_)
  · have h := h.1 c6
    refine j_iconst (pc := 54) (v := 1) C dX4_listPlacements_54 (by decide) ?_
    refine gJ.sub [0, 1, 2] rfl ?_
    exact t_X4_listPlacements_55 hJG C hX hR  hK22 hK42 h
  · have h := h.2 c6
    refine j_iconst (pc := 50) (v := 4) C dX4_listPlacements_50 (by decide) ?_
    refine j_goto (pc := 51) (tgt := 55) C dX4_listPlacements_51 (by decide) ?_
    refine gJ.sub [0, 1, 2] rfl ?_
    exact t_X4_listPlacements_55 hJG C hX hR  hK22 hK42 h
set_option maxRecDepth 100000 in
set_option maxHeartbeats 4000000 in
theorem t_X4_listPlacements_42 {X : gX} {l : Launch} {D : va_G} {cy : Nat → ClassId} {nm : String} {V : gV} (hJG : gModJG V) (C : gC X cX4_listPlacements RX4 none 3 rm_X4_listPlacements) (hX : gIs X l D cy nm) {I : gI} {J : gL} {Po : gI → Prop} (hR : gR X (gPv V (fun I' J' => J = J' ∧ Po I'))) {v1 : Int32} {v2 : Int32} {K22 : Int32 → gI → Prop} (hK22 : ∀ (y1 : Int32) (I1 : gI), K22 y1 I1 → gJ X V 0 0 22 [(0, .ref (V.2.1 20)), (1, .int y1)] [] I1 J) (h : w_X4_listPlacements_42 Po K22 v1 v2 I) : gJ X V 0 0 42 [(0, .ref (V.2.1 20)), (1, .int v1), (2, .int v2)] [] I J := by
  unfold w_X4_listPlacements_42 at h
  obtain ⟨Inv, mu, h0, hs⟩ := h
  have key : ∀ (n : Nat) (v2 : Int32) (I : gI), Inv v2 I → mu v2 I < n → gJ X V 0 0 42 [(0, .ref (V.2.1 20)), (1, .int v1), (2, .int v2)] [] I J := by
    intro n
    induction n with
    | zero => intro v2 I hi hn; exact absurd hn (Nat.not_lt_zero _)
    | succ n ih =>
      intro v2 I hi hn
      exact t_X4_listPlacements_42b hJG C hX hR  hK22 (fun u2 I1 hk => ih u2 I1 hk.1 (Nat.lt_of_lt_of_le hk.2 (Nat.le_of_lt_succ hn))) (hs v2 I hi)
  exact key _ v2 I h0 (Nat.lt_succ_self _)
set_option maxRecDepth 100000 in
set_option maxHeartbeats 4000000 in
theorem t_X4_listPlacements_22b {X : gX} {l : Launch} {D : va_G} {cy : Nat → ClassId} {nm : String} {V : gV} (hJG : gModJG V) (C : gC X cX4_listPlacements RX4 none 3 rm_X4_listPlacements) (hX : gIs X l D cy nm) {I : gI} {J : gL} {Po : gI → Prop} (hR : gR X (gPv V (fun I' J' => J = J' ∧ Po I'))) {v1 : Int32} {K22 : Int32 → gI → Prop} (hK22 : ∀ (y1 : Int32) (I1 : gI), K22 y1 I1 → gJ X V 0 0 22 [(0, .ref (V.2.1 20)), (1, .int y1)] [] I1 J) (h : w_X4_listPlacements_22b Po K22 v1 I) : gJ X V 0 0 22 [(0, .ref (V.2.1 20)), (1, .int v1)] [] I J := by
  unfold w_X4_listPlacements_22b at h
  refine j_iload_n (pc := 22) C dX4_listPlacements_22 rfl 1 rfl ?_
  refine j_aload_n (pc := 23) C dX4_listPlacements_23 rfl 0 rfl ?_
  refine j_getI (pc := 24) C 20 0 (c_20 hJG).1 (c_20 hJG).2 rfl rfl (by decide) inw_X4 wd_130 dX4_listPlacements_24 ?_
  refine j_icmp_ge (pc := 27) (tgt := 91) C dX4_listPlacements_27 (by decide) (fun c3 => ?_) (fun c3 => ?_)
  · have h := h.1 c3
    exact j_vret (pc := 91) C hR (Nat.zero_le _) (Nat.zero_le _) dX4_listPlacements_91 ⟨rfl, rfl, rfl, h⟩
  · have h := h.2 c3
    refine j_aload_n (pc := 30) C dX4_listPlacements_30 rfl 0 rfl ?_
    refine j_getR (pc := 31) C 20 10 29 (c_20 hJG).1 (c_20 hJG).2 rfl rfl (by decide) inw_X4 wd_148 dX4_listPlacements_31 ?_
    refine j_iload_n (pc := 34) C dX4_listPlacements_34 rfl 1 rfl ?_
    obtain ⟨g4, h⟩ := h
    refine j_aald (pc := 35) C 29 (30 + (v1).toNatClampNeg) (c_29 hJG).1 (c_29 hJG).2 g4 (gfam_at (vp_in_lt g4)) dX4_listPlacements_35 ?_
    refine j_iconst (pc := 36) (v := 0) C dX4_listPlacements_36 (by decide) ?_
    refine j_callS (pc := 37) (As := [.ref (V.2.1 (30 + (v1).toNatClampNeg)), .int (0 : Int32)]) (st := []) C hX (m_J7_fill_53178  (f_30 hJG (vp_in_lt g4)).1 (f_30 hJG (vp_in_lt g4)).2 h) ok_J7_fill_53178 wd_573 wd_406 ⟨by decide, by decide⟩ rfl rfl (Nat.le_of_ble_eq_true rfl) ⟨Nat.le_refl 0, Nat.le_refl 0⟩ dX4_listPlacements_37 (fun r V1 I5 J1 hp => ?_)
    obtain ⟨rfl, rfl, rfl, h⟩ := hp
    show gJ X V 0 0 40 _ [] _ _
    refine j_iconst (pc := 40) (v := 0) C dX4_listPlacements_40 (by decide) ?_
    refine j_istore_n (pc := 41) (lv' := [(2, .int (0 : Int32)), (0, .ref (V.2.1 20)), (1, .int v1)]) C dX4_listPlacements_41 rfl (by decide) rfl ?_
    refine gJ.sub [1, 2, 0] rfl ?_
    exact t_X4_listPlacements_42 hJG C hX hR  hK22 h
set_option maxRecDepth 100000 in
set_option maxHeartbeats 4000000 in
theorem t_X4_listPlacements_22 {X : gX} {l : Launch} {D : va_G} {cy : Nat → ClassId} {nm : String} {V : gV} (hJG : gModJG V) (C : gC X cX4_listPlacements RX4 none 3 rm_X4_listPlacements) (hX : gIs X l D cy nm) {I : gI} {J : gL} {Po : gI → Prop} (hR : gR X (gPv V (fun I' J' => J = J' ∧ Po I'))) {v1 : Int32} (h : w_X4_listPlacements_22 Po v1 I) : gJ X V 0 0 22 [(0, .ref (V.2.1 20)), (1, .int v1)] [] I J := by
  unfold w_X4_listPlacements_22 at h
  obtain ⟨Inv, mu, h0, hs⟩ := h
  have key : ∀ (n : Nat) (v1 : Int32) (I : gI), Inv v1 I → mu v1 I < n → gJ X V 0 0 22 [(0, .ref (V.2.1 20)), (1, .int v1)] [] I J := by
    intro n
    induction n with
    | zero => intro v1 I hi hn; exact absurd hn (Nat.not_lt_zero _)
    | succ n ih =>
      intro v1 I hi hn
      exact t_X4_listPlacements_22b hJG C hX hR   (fun u1 I1 hk => ih u1 I1 hk.1 (Nat.lt_of_lt_of_le hk.2 (Nat.le_of_lt_succ hn))) (hs v1 I hi)
  exact key _ v1 I h0 (Nat.lt_succ_self _)
set_option maxRecDepth 100000 in
set_option maxHeartbeats 4000000 in
theorem m_X4_listPlacements {l : Launch} {D : va_G} {cy : Nat → ClassId} {V : gV} (hJG : gModJG V) {I : gI} {J : gL} {Po : gI → Prop} (h : wp_X4_listPlacements I Po) : gMet l D cy yX4_listPlacements cX4_listPlacements 3 none rm_X4_listPlacements V [.ref (V.2.1 20)] I J (gPv V (fun I' J' => J = J' ∧ Po I')) := by
  refine gMet.of (by decide) (Nat.le_of_ble_eq_true rfl) (fun X hX C hR => ?_)
  have C : gC X cX4_listPlacements RX4 none 3 rm_X4_listPlacements := C
  show gJ X V 0 0 0 [(0, .ref (V.2.1 20))] [] I J
  unfold wp_X4_listPlacements at h
  refine j_aload_n (pc := 0) C dX4_listPlacements_0 rfl 0 rfl ?_
  refine j_getI (pc := 1) C 20 7 (c_20 hJG).1 (c_20 hJG).2 rfl rfl (by decide) inw_X4 wd_145 dX4_listPlacements_1 ?_
  refine j_aload_n (pc := 4) C dX4_listPlacements_4 rfl 0 rfl ?_
  refine j_getI (pc := 5) C 20 4 (c_20 hJG).1 (c_20 hJG).2 rfl rfl (by decide) inw_X4 wd_141 dX4_listPlacements_5 ?_
  refine j_icmp_ne (pc := 8) (tgt := 12) C dX4_listPlacements_8 (by decide) (fun c1 => ?_) (fun c1 => ?_)
  · have h := h.1 c1
    refine j_aload_n (pc := 12) C dX4_listPlacements_12 rfl 0 rfl ?_
    refine j_aload_n (pc := 13) C dX4_listPlacements_13 rfl 0 rfl ?_
    refine j_getI (pc := 14) C 20 4 (c_20 hJG).1 (c_20 hJG).2 rfl rfl (by decide) inw_X4 wd_141 dX4_listPlacements_14 ?_
    refine j_putI (pc := 17) (ft := .int) C tyX4 tyX4_ok nmX4 20 7 (c_20 hJG).1 (c_20 hJG).2 rfl rfl (by decide) inw_X4 wd_145 rfl (by decide +kernel) rfl rfl dX4_listPlacements_17 ?_
    refine gJ.nmI (fun I2 eI2 => ?_)
    have h := h I2 eI2
    refine j_iconst (pc := 20) (v := 0) C dX4_listPlacements_20 (by decide) ?_
    refine j_istore_n (pc := 21) (lv' := [(1, .int (0 : Int32)), (0, .ref (V.2.1 20))]) C dX4_listPlacements_21 rfl (by decide) rfl ?_
    refine gJ.sub [1, 0] rfl ?_
    exact t_X4_listPlacements_22 hJG C hX hR   h
  · have h := h.2 c1
    exact j_vret (pc := 11) C hR (Nat.zero_le _) (Nat.zero_le _) dX4_listPlacements_11 ⟨rfl, rfl, rfl, h⟩
/-! TileRules$Jigsaw.countPlacementsFrom(II)I -/
abbrev rm_X4_countPlacementsFrom : Room := { frames := 0, cells := 0, slots := 0, locals := 0 }
theorem ok_X4_countPlacementsFrom : gOk yX4_countPlacementsFrom cX4_countPlacementsFrom 3 (some .int) 2 := ⟨wd_686, wd_71, by decide +kernel⟩
def wp_X4_countPlacementsFrom (a1 : Int32) (a2 : Int32) (I : gI) (Po : Int32 → Prop) : Prop :=
  vp_in a1 6 ∧ vp_in a2 20 ∧ Po (I (30 + (a1).toNatClampNeg) (a2).toNatClampNeg)
set_option maxRecDepth 100000 in
set_option maxHeartbeats 4000000 in
theorem m_X4_countPlacementsFrom {l : Launch} {D : va_G} {cy : Nat → ClassId} {V : gV} (hJG : gModJG V) {a1 : Int32} {a2 : Int32} {I : gI} {J : gL} {Po : Int32 → Prop} (h : wp_X4_countPlacementsFrom a1 a2 I Po) : gMet l D cy yX4_countPlacementsFrom cX4_countPlacementsFrom 3 (some .int) rm_X4_countPlacementsFrom V [.ref (V.2.1 20), .int a1, .int a2] I J (gPi V (fun x I' J' => I = I' ∧ J = J' ∧ Po x)) := by
  refine gMet.of (by decide) (Nat.le_of_ble_eq_true rfl) (fun X hX C hR => ?_)
  have C : gC X cX4_countPlacementsFrom RX4 (some .int) 3 rm_X4_countPlacementsFrom := C
  show gJ X V 0 0 0 [(0, .ref (V.2.1 20)), (1, .int a1), (2, .int a2)] [] I J
  unfold wp_X4_countPlacementsFrom at h
  refine j_aload_n (pc := 0) C dX4_countPlacementsFrom_0 rfl 0 rfl ?_
  refine j_getR (pc := 1) C 20 10 29 (c_20 hJG).1 (c_20 hJG).2 rfl rfl (by decide) inw_X4 wd_148 dX4_countPlacementsFrom_1 ?_
  refine j_iload_n (pc := 4) C dX4_countPlacementsFrom_4 rfl 1 rfl ?_
  obtain ⟨g1, h⟩ := h
  refine j_aald (pc := 5) C 29 (30 + (a1).toNatClampNeg) (c_29 hJG).1 (c_29 hJG).2 g1 (gfam_at (vp_in_lt g1)) dX4_countPlacementsFrom_5 ?_
  refine j_iload_n (pc := 6) C dX4_countPlacementsFrom_6 rfl 2 rfl ?_
  obtain ⟨g2, h⟩ := h
  refine j_iald (pc := 7) C (30 + (a1).toNatClampNeg) (f_30 hJG (vp_in_lt g1)).1 (f_30 hJG (vp_in_lt g1)).2 g2 dX4_countPlacementsFrom_7 ?_
  exact j_iret (pc := 8) C hR (Nat.zero_le _) (Nat.zero_le _) dX4_countPlacementsFrom_8 ⟨_, rfl, rfl, rfl, rfl, h⟩
/-! TileRules$Jigsaw.placementFrom(III)I -/
abbrev rm_X4_placementFrom : Room := { frames := 0, cells := 0, slots := 0, locals := 0 }
theorem ok_X4_placementFrom : gOk yX4_placementFrom cX4_placementFrom 4 (some .int) 3 := ⟨wd_690, wd_71, by decide +kernel⟩
def wp_X4_placementFrom (a1 : Int32) (a2 : Int32) (a3 : Int32) (I : gI) (Po : Int32 → Prop) : Prop :=
  vp_in a1 6 ∧ vp_in ((a2 * (8 : Int32)) + a3) 160 ∧ Po (I (23 + (a1).toNatClampNeg) (((a2 * (8 : Int32)) + a3)).toNatClampNeg)
set_option maxRecDepth 100000 in
set_option maxHeartbeats 4000000 in
theorem m_X4_placementFrom {l : Launch} {D : va_G} {cy : Nat → ClassId} {V : gV} (hJG : gModJG V) {a1 : Int32} {a2 : Int32} {a3 : Int32} {I : gI} {J : gL} {Po : Int32 → Prop} (h : wp_X4_placementFrom a1 a2 a3 I Po) : gMet l D cy yX4_placementFrom cX4_placementFrom 4 (some .int) rm_X4_placementFrom V [.ref (V.2.1 20), .int a1, .int a2, .int a3] I J (gPi V (fun x I' J' => I = I' ∧ J = J' ∧ Po x)) := by
  refine gMet.of (by decide) (Nat.le_of_ble_eq_true rfl) (fun X hX C hR => ?_)
  have C : gC X cX4_placementFrom RX4 (some .int) 4 rm_X4_placementFrom := C
  show gJ X V 0 0 0 [(0, .ref (V.2.1 20)), (1, .int a1), (2, .int a2), (3, .int a3)] [] I J
  unfold wp_X4_placementFrom at h
  refine j_aload_n (pc := 0) C dX4_placementFrom_0 rfl 0 rfl ?_
  refine j_getR (pc := 1) C 20 9 22 (c_20 hJG).1 (c_20 hJG).2 rfl rfl (by decide) inw_X4 wd_147 dX4_placementFrom_1 ?_
  refine j_iload_n (pc := 4) C dX4_placementFrom_4 rfl 1 rfl ?_
  obtain ⟨g1, h⟩ := h
  refine j_aald (pc := 5) C 22 (23 + (a1).toNatClampNeg) (c_22 hJG).1 (c_22 hJG).2 g1 (gfam_at (vp_in_lt g1)) dX4_placementFrom_5 ?_
  refine j_iload_n (pc := 6) C dX4_placementFrom_6 rfl 2 rfl ?_
  refine j_bipush (pc := 7) (v := 8) C dX4_placementFrom_7 (by decide) ?_
  refine j_imul (pc := 9) C dX4_placementFrom_9 ?_
  refine j_iload_n (pc := 10) C dX4_placementFrom_10 rfl 3 rfl ?_
  refine j_iadd (pc := 11) C dX4_placementFrom_11 ?_
  obtain ⟨g2, h⟩ := h
  refine j_iald (pc := 12) C (23 + (a1).toNatClampNeg) (f_23 hJG (vp_in_lt g1)).1 (f_23 hJG (vp_in_lt g1)).2 g2 dX4_placementFrom_12 ?_
  exact j_iret (pc := 13) C hR (Nat.zero_le _) (Nat.zero_le _) dX4_placementFrom_13 ⟨_, rfl, rfl, rfl, rfl, h⟩
/-! TileRules$Jigsaw.neighbours(I)I -/
abbrev rm_X4_neighbours : Room := { frames := 0, cells := 0, slots := 0, locals := 0 }
theorem ok_X4_neighbours : gOk yX4_neighbours cX4_neighbours 3 (some .int) 1 := ⟨wd_528, wd_71, by decide +kernel⟩
def w_X4_neighbours_41  (Po : Int32 → Prop)  (v0 : Int32) (v1 : Int32) (s0 : Int32) (s1 : Int32) : Prop :=
  ∀ n7 : Int32, n7 = (s1 ||| s0) → ((4 : Int32) ≤ v1 → ∀ n9 : Int32, n9 = (n7 ||| (0 : Int32)) → Po n9) ∧ (¬ (4 : Int32) ≤ v1 → ∀ n10 : Int32, n10 = (n7 ||| ((1 : Int32) <<< ((v0 + (1 : Int32)) &&& 31))) → Po n10)
def w_X4_neighbours_25  (Po : Int32 → Prop)  (v0 : Int32) (v1 : Int32) (s0 : Int32) (s1 : Int32) : Prop :=
  ∀ n5 : Int32, n5 = (s1 ||| s0) → (v1 ≤ 0 → w_X4_neighbours_41 Po v0 v1 (0 : Int32) n5) ∧ (¬ v1 ≤ 0 → w_X4_neighbours_41 Po v0 v1 ((1 : Int32) <<< ((v0 - (1 : Int32)) &&& 31)) n5)
def wp_X4_neighbours (a0 : Int32) (Po : Int32 → Prop) : Prop :=
  ¬ (5 : Int32) = 0 ∧ ∀ n2 : Int32, n2 = (a0 - a0 / (5 : Int32) * (5 : Int32)) → ∀ n3 : Int32, n3 = ((1 : Int32) <<< ((a0 + (5 : Int32)) &&& 31)) → (a0 < (5 : Int32) → w_X4_neighbours_25 Po a0 n2 (0 : Int32) n3) ∧ (¬ a0 < (5 : Int32) → w_X4_neighbours_25 Po a0 n2 ((1 : Int32) <<< ((a0 - (5 : Int32)) &&& 31)) n3)
set_option maxRecDepth 100000 in
set_option maxHeartbeats 4000000 in
theorem t_X4_neighbours_41 {X : gX} {l : Launch} {D : va_G} {cy : Nat → ClassId} {nm : String} {V : gV} (C : gC X cX4_neighbours RX4 (some .int) 3 rm_X4_neighbours) (hX : gIs X l D cy nm) {I : gI} {J : gL} {Po : Int32 → Prop} (hR : gR X (gPi V (fun x I' J' => I = I' ∧ J = J' ∧ Po x))) {v0 : Int32} {v1 : Int32} {s0 : Int32} {s1 : Int32} (h : w_X4_neighbours_41 Po v0 v1 s0 s1) : gJ X V 0 0 41 [(0, .int v0), (1, .int v1)] [.int s0, .int s1] I J := by
  unfold w_X4_neighbours_41 at h
  refine j_ior (pc := 41) C dX4_neighbours_41 ?_
  refine gJ.topi (fun n7 en7 => ?_)
  have h := h n7 en7
  refine j_istore_n (pc := 42) (lv' := [(2, .int n7), (0, .int v0), (1, .int v1)]) C dX4_neighbours_42 rfl (by decide) rfl ?_
  refine j_iload_n (pc := 43) C dX4_neighbours_43 rfl 0 rfl ?_
  refine j_iload_n (pc := 44) C dX4_neighbours_44 rfl 2 rfl ?_
  refine j_iconst (pc := 45) (v := 4) C dX4_neighbours_45 (by decide) ?_
  refine j_icmp_ge (pc := 46) (tgt := 57) C dX4_neighbours_46 (by decide) (fun c8 => ?_) (fun c8 => ?_)
  · have h := h.1 c8
    refine j_iconst (pc := 57) (v := 0) C dX4_neighbours_57 (by decide) ?_
    refine j_ior (pc := 58) C dX4_neighbours_58 ?_
    refine gJ.topi (fun n9 en9 => ?_)
    have h := h n9 en9
    refine j_istore_n (pc := 59) (lv' := [(2, .int n9), (0, .int v0), (1, .int v1)]) C dX4_neighbours_59 rfl (by decide) rfl ?_
    refine j_iload_n (pc := 60) C dX4_neighbours_60 rfl 0 rfl ?_
    exact j_iret (pc := 61) C hR (Nat.zero_le _) (Nat.zero_le _) dX4_neighbours_61 ⟨_, rfl, rfl, rfl, rfl, h⟩
  · have h := h.2 c8
    refine j_iconst (pc := 49) (v := 1) C dX4_neighbours_49 (by decide) ?_
    refine j_iload_n (pc := 50) C dX4_neighbours_50 rfl 1 rfl ?_
    refine j_iconst (pc := 51) (v := 1) C dX4_neighbours_51 (by decide) ?_
    refine j_iadd (pc := 52) C dX4_neighbours_52 ?_
    refine j_ishl (pc := 53) C dX4_neighbours_53 ?_
    refine j_goto (pc := 54) (tgt := 58) C dX4_neighbours_54 (by decide) ?_
    refine j_ior (pc := 58) C dX4_neighbours_58 ?_
    refine gJ.topi (fun n10 en10 => ?_)
    have h := h n10 en10
    refine j_istore_n (pc := 59) (lv' := [(2, .int n10), (0, .int v0), (1, .int v1)]) C dX4_neighbours_59 rfl (by decide) rfl ?_
    refine j_iload_n (pc := 60) C dX4_neighbours_60 rfl 0 rfl ?_
    exact j_iret (pc := 61) C hR (Nat.zero_le _) (Nat.zero_le _) dX4_neighbours_61 ⟨_, rfl, rfl, rfl, rfl, h⟩
set_option maxRecDepth 100000 in
set_option maxHeartbeats 4000000 in
theorem t_X4_neighbours_25 {X : gX} {l : Launch} {D : va_G} {cy : Nat → ClassId} {nm : String} {V : gV} (C : gC X cX4_neighbours RX4 (some .int) 3 rm_X4_neighbours) (hX : gIs X l D cy nm) {I : gI} {J : gL} {Po : Int32 → Prop} (hR : gR X (gPi V (fun x I' J' => I = I' ∧ J = J' ∧ Po x))) {v0 : Int32} {v1 : Int32} {s0 : Int32} {s1 : Int32} (h : w_X4_neighbours_25 Po v0 v1 s0 s1) : gJ X V 0 0 25 [(0, .int v0), (1, .int v1)] [.int s0, .int s1] I J := by
  unfold w_X4_neighbours_25 at h
  refine j_ior (pc := 25) C dX4_neighbours_25 ?_
  refine gJ.topi (fun n5 en5 => ?_)
  have h := h n5 en5
  refine j_istore_n (pc := 26) (lv' := [(2, .int n5), (0, .int v0), (1, .int v1)]) C dX4_neighbours_26 rfl (by decide) rfl ?_
  refine j_iload_n (pc := 27) C dX4_neighbours_27 rfl 0 rfl ?_
  refine j_iload_n (pc := 28) C dX4_neighbours_28 rfl 2 rfl ?_
  refine j_if_le (pc := 29) (tgt := 40) C dX4_neighbours_29 (by decide) (fun c6 => ?_) (fun c6 => ?_)
  · have h := h.1 c6
    refine j_iconst (pc := 40) (v := 0) C dX4_neighbours_40 (by decide) ?_
    refine gJ.sub [1, 2] rfl ?_
    exact t_X4_neighbours_41  C hX hR   h
  · have h := h.2 c6
    refine j_iconst (pc := 32) (v := 1) C dX4_neighbours_32 (by decide) ?_
    refine j_iload_n (pc := 33) C dX4_neighbours_33 rfl 1 rfl ?_
    refine j_iconst (pc := 34) (v := 1) C dX4_neighbours_34 (by decide) ?_
    refine j_isub (pc := 35) C dX4_neighbours_35 ?_
    refine j_ishl (pc := 36) C dX4_neighbours_36 ?_
    refine j_goto (pc := 37) (tgt := 41) C dX4_neighbours_37 (by decide) ?_
    refine gJ.sub [1, 2] rfl ?_
    exact t_X4_neighbours_41  C hX hR   h
set_option maxRecDepth 100000 in
set_option maxHeartbeats 4000000 in
theorem m_X4_neighbours {l : Launch} {D : va_G} {cy : Nat → ClassId} {V : gV} {a0 : Int32} {I : gI} {J : gL} {Po : Int32 → Prop} (h : wp_X4_neighbours a0 Po) : gMet l D cy yX4_neighbours cX4_neighbours 3 (some .int) rm_X4_neighbours V [.int a0] I J (gPi V (fun x I' J' => I = I' ∧ J = J' ∧ Po x)) := by
  refine gMet.of (by decide) (Nat.le_of_ble_eq_true rfl) (fun X hX C hR => ?_)
  have C : gC X cX4_neighbours RX4 (some .int) 3 rm_X4_neighbours := C
  show gJ X V 0 0 0 [(0, .int a0)] [] I J
  unfold wp_X4_neighbours at h
  refine j_iload_n (pc := 0) C dX4_neighbours_0 rfl 0 rfl ?_
  refine j_iconst (pc := 1) (v := 5) C dX4_neighbours_1 (by decide) ?_
  obtain ⟨g1, h⟩ := h
  refine j_irem (pc := 2) C dX4_neighbours_2 g1 ?_
  refine gJ.topi (fun n2 en2 => ?_)
  have h := h n2 en2
  refine j_istore_n (pc := 3) (lv' := [(1, .int n2), (0, .int a0)]) C dX4_neighbours_3 rfl (by decide) rfl ?_
  refine j_iconst (pc := 4) (v := 1) C dX4_neighbours_4 (by decide) ?_
  refine j_iload_n (pc := 5) C dX4_neighbours_5 rfl 1 rfl ?_
  refine j_iconst (pc := 6) (v := 5) C dX4_neighbours_6 (by decide) ?_
  refine j_iadd (pc := 7) C dX4_neighbours_7 ?_
  refine j_ishl (pc := 8) C dX4_neighbours_8 ?_
  refine gJ.topi (fun n3 en3 => ?_)
  have h := h n3 en3
  refine j_istore_n (pc := 9) (lv' := [(2, .int n3), (1, .int n2), (0, .int a0)]) C dX4_neighbours_9 rfl (by decide) rfl ?_
  refine j_iload_n (pc := 10) C dX4_neighbours_10 rfl 0 rfl ?_
  refine j_iload_n (pc := 11) C dX4_neighbours_11 rfl 2 rfl ?_
  refine j_iconst (pc := 12) (v := 5) C dX4_neighbours_12 (by decide) ?_
  refine j_icmp_lt (pc := 13) (tgt := 24) C dX4_neighbours_13 (by decide) (fun c4 => ?_) (fun c4 => ?_)
  · have h := h.1 c4
    refine j_iconst (pc := 24) (v := 0) C dX4_neighbours_24 (by decide) ?_
    refine gJ.sub [2, 1] rfl ?_
    exact t_X4_neighbours_25  C hX hR   h
  · have h := h.2 c4
    refine j_iconst (pc := 16) (v := 1) C dX4_neighbours_16 (by decide) ?_
    refine j_iload_n (pc := 17) C dX4_neighbours_17 rfl 2 rfl ?_
    refine j_iconst (pc := 18) (v := 5) C dX4_neighbours_18 (by decide) ?_
    refine j_isub (pc := 19) C dX4_neighbours_19 ?_
    refine j_ishl (pc := 20) C dX4_neighbours_20 ?_
    refine j_goto (pc := 21) (tgt := 25) C dX4_neighbours_21 (by decide) ?_
    refine gJ.sub [2, 1] rfl ?_
    exact t_X4_neighbours_25  C hX hR   h
/-! TileRules$Jigsaw.hangsTogether(I)Z -/
abbrev rm_X4_hangsTogether : Room := { frames := 1, cells := 0, slots := 0, locals := 22 }
theorem ok_X4_hangsTogether : gOk yX4_hangsTogether cX4_hangsTogether 4 (some .boolean) 1 := ⟨wd_522, wd_71, by decide +kernel⟩
def w_X4_hangsTogether_37  (Po : Int32 → Prop) (K7 : Int32 → Int32 → Prop) (K14 : Int32 → Int32 → Prop) (v0 : Int32) (v1 : Int32) (v2 : Int32) (v3 : Int32) : Prop :=
  ∀ n7 : Int32, n7 = v3 + 1 → K14 v1 n7
def w_X4_hangsTogether_14b  (Po : Int32 → Prop) (K7 : Int32 → Int32 → Prop) (K14 : Int32 → Int32 → Prop) (v0 : Int32) (v1 : Int32) (v2 : Int32) (v3 : Int32) : Prop :=
  ((25 : Int32) ≤ v3 → ∀ n5 : Int32, n5 = v2 + 1 → K7 v1 n5) ∧ (¬ (25 : Int32) ≤ v3 → (((v1 >>> (v3 &&& 31)) &&& (1 : Int32)) = 0 → w_X4_hangsTogether_37 Po K7 K14 v0 v1 v2 v3) ∧ (¬ ((v1 >>> (v3 &&& 31)) &&& (1 : Int32)) = 0 → wp_X4_neighbours v3 (fun r8 => ∀ n9 : Int32, n9 = (v1 ||| (r8 &&& v0)) → w_X4_hangsTogether_37 Po K7 K14 v0 n9 v2 v3)))
def w_X4_hangsTogether_14  (Po : Int32 → Prop) (K7 : Int32 → Int32 → Prop) (v0 : Int32) (v1 : Int32) (v2 : Int32) (v3 : Int32) : Prop :=
  ∃ (Inv : Int32 → Int32 → Prop) (mu : Int32 → Int32 → Nat), Inv v1 v3 ∧ ∀ (v1 : Int32) (v3 : Int32), Inv v1 v3 → w_X4_hangsTogether_14b  Po K7 (fun u1 u3 => Inv u1 u3 ∧ mu u1 u3 < mu v1 v3) v0 v1 v2 v3
def w_X4_hangsTogether_7b  (Po : Int32 → Prop) (K7 : Int32 → Int32 → Prop) (v0 : Int32) (v1 : Int32) (v2 : Int32) : Prop :=
  ((5 : Int32) ≤ v2 → (¬ v1 = v0 → Po (0 : Int32)) ∧ (v1 = v0 → Po (1 : Int32))) ∧ (¬ (5 : Int32) ≤ v2 → w_X4_hangsTogether_14 Po K7 v0 v1 v2 (0 : Int32))
def w_X4_hangsTogether_7  (Po : Int32 → Prop)  (v0 : Int32) (v1 : Int32) (v2 : Int32) : Prop :=
  ∃ (Inv : Int32 → Int32 → Prop) (mu : Int32 → Int32 → Nat), Inv v1 v2 ∧ ∀ (v1 : Int32) (v2 : Int32), Inv v1 v2 → w_X4_hangsTogether_7b  Po  (fun u1 u2 => Inv u1 u2 ∧ mu u1 u2 < mu v1 v2) v0 v1 v2
def wp_X4_hangsTogether (a0 : Int32) (Po : Int32 → Prop) : Prop :=
  wp_J6_lowestOneBit_0f7a4 a0 (fun r1 => w_X4_hangsTogether_7 Po a0 r1 (1 : Int32))
set_option maxRecDepth 100000 in
set_option maxHeartbeats 4000000 in
theorem t_X4_hangsTogether_37 {X : gX} {l : Launch} {D : va_G} {cy : Nat → ClassId} {nm : String} {V : gV} (C : gC X cX4_hangsTogether RX4 (some .boolean) 4 rm_X4_hangsTogether) (hX : gIs X l D cy nm) {I : gI} {J : gL} {Po : Int32 → Prop} (hR : gR X (gPi V (fun x I' J' => I = I' ∧ J = J' ∧ Po x))) {v0 : Int32} {v1 : Int32} {v2 : Int32} {v3 : Int32} {K7 : Int32 → Int32 → Prop} {K14 : Int32 → Int32 → Prop} (hK7 : ∀ (y1 : Int32) (y2 : Int32), K7 y1 y2 → gJ X V 0 0 7 [(0, .int v0), (1, .int y1), (2, .int y2)] [] I J) (hK14 : ∀ (y1 : Int32) (y3 : Int32), K14 y1 y3 → gJ X V 0 0 14 [(0, .int v0), (1, .int y1), (2, .int v2), (3, .int y3)] [] I J) (h : w_X4_hangsTogether_37 Po K7 K14 v0 v1 v2 v3) : gJ X V 0 0 37 [(0, .int v0), (1, .int v1), (2, .int v2), (3, .int v3)] [] I J := by
  unfold w_X4_hangsTogether_37 at h
  obtain ⟨n7, en7⟩ : ∃ z : Int32, z = v3 + 1 := ⟨_, rfl⟩
  have h := h n7 en7
  refine j_iinc (pc := 37) (v := n7) (lv' := [(3, .int n7), (0, .int v0), (1, .int v1), (2, .int v2)]) C dX4_hangsTogether_37 3 rfl (by rw [en7]; rfl) (by decide) rfl ?_
  refine j_goto (pc := 40) (tgt := 14) C dX4_hangsTogether_40 (by decide) ?_
  refine gJ.sub [1, 2, 3, 0] rfl ?_
  exact hK14 _ _ h
set_option maxRecDepth 100000 in
set_option maxHeartbeats 4000000 in
theorem t_X4_hangsTogether_14b {X : gX} {l : Launch} {D : va_G} {cy : Nat → ClassId} {nm : String} {V : gV} (C : gC X cX4_hangsTogether RX4 (some .boolean) 4 rm_X4_hangsTogether) (hX : gIs X l D cy nm) {I : gI} {J : gL} {Po : Int32 → Prop} (hR : gR X (gPi V (fun x I' J' => I = I' ∧ J = J' ∧ Po x))) {v0 : Int32} {v1 : Int32} {v2 : Int32} {v3 : Int32} {K7 : Int32 → Int32 → Prop} {K14 : Int32 → Int32 → Prop} (hK7 : ∀ (y1 : Int32) (y2 : Int32), K7 y1 y2 → gJ X V 0 0 7 [(0, .int v0), (1, .int y1), (2, .int y2)] [] I J) (hK14 : ∀ (y1 : Int32) (y3 : Int32), K14 y1 y3 → gJ X V 0 0 14 [(0, .int v0), (1, .int y1), (2, .int v2), (3, .int y3)] [] I J) (h : w_X4_hangsTogether_14b Po K7 K14 v0 v1 v2 v3) : gJ X V 0 0 14 [(0, .int v0), (1, .int v1), (2, .int v2), (3, .int v3)] [] I J := by
  unfold w_X4_hangsTogether_14b at h
  refine j_iload_n (pc := 14) C dX4_hangsTogether_14 rfl 3 rfl ?_
  refine j_bipush (pc := 15) (v := 25) C dX4_hangsTogether_15 (by decide) ?_
  refine j_icmp_ge (pc := 17) (tgt := 43) C dX4_hangsTogether_17 (by decide) (fun c4 => ?_) (fun c4 => ?_)
  · have h := h.1 c4
    obtain ⟨n5, en5⟩ : ∃ z : Int32, z = v2 + 1 := ⟨_, rfl⟩
    have h := h n5 en5
    refine j_iinc (pc := 43) (v := n5) (lv' := [(2, .int n5), (0, .int v0), (1, .int v1), (3, .int v3)]) C dX4_hangsTogether_43 2 rfl (by rw [en5]; rfl) (by decide) rfl ?_
    refine j_goto (pc := 46) (tgt := 7) C dX4_hangsTogether_46 (by decide) ?_
    refine gJ.sub [1, 2, 0] rfl ?_
    exact hK7 _ _ h
  · have h := h.2 c4
    refine j_iload_n (pc := 20) C dX4_hangsTogether_20 rfl 1 rfl ?_
    refine j_iload_n (pc := 21) C dX4_hangsTogether_21 rfl 3 rfl ?_
    refine j_ishr (pc := 22) C dX4_hangsTogether_22 ?_
    refine j_iconst (pc := 23) (v := 1) C dX4_hangsTogether_23 (by decide) ?_
    refine j_iand (pc := 24) C dX4_hangsTogether_24 ?_
    refine j_if_eq (pc := 25) (tgt := 37) C dX4_hangsTogether_25 (by decide) (fun c6 => ?_) (fun c6 => ?_)
    · have h := h.1 c6
      refine gJ.sub [0, 1, 2, 3] rfl ?_
      exact t_X4_hangsTogether_37  C hX hR  hK7 hK14 h
    · have h := h.2 c6
      refine j_iload_n (pc := 28) C dX4_hangsTogether_28 rfl 1 rfl ?_
      refine j_iload_n (pc := 29) C dX4_hangsTogether_29 rfl 3 rfl ?_
      refine j_callS (pc := 30) (As := [.int v3]) (st := [.int v1]) C hX (m_X4_neighbours   h) ok_X4_neighbours wd_526 wd_527 ⟨by decide, by decide⟩ rfl rfl (Nat.le_of_ble_eq_true rfl) ⟨Nat.le_refl 0, Nat.le_refl 0⟩ dX4_hangsTogether_30 (fun r V1 I1 J1 hp => ?_)
      obtain ⟨r8, rfl, rfl, rfl, rfl, h⟩ := hp
      show gJ X V 0 0 33 _ [.int r8, .int v1] _ _
      refine j_iload_n (pc := 33) C dX4_hangsTogether_33 rfl 0 rfl ?_
      refine j_iand (pc := 34) C dX4_hangsTogether_34 ?_
      refine j_ior (pc := 35) C dX4_hangsTogether_35 ?_
      refine gJ.topi (fun n9 en9 => ?_)
      have h := h n9 en9
      refine j_istore_n (pc := 36) (lv' := [(1, .int n9), (0, .int v0), (2, .int v2), (3, .int v3)]) C dX4_hangsTogether_36 rfl (by decide) rfl ?_
      refine gJ.sub [1, 0, 2, 3] rfl ?_
      exact t_X4_hangsTogether_37  C hX hR  hK7 hK14 h
set_option maxRecDepth 100000 in
set_option maxHeartbeats 4000000 in
theorem t_X4_hangsTogether_14 {X : gX} {l : Launch} {D : va_G} {cy : Nat → ClassId} {nm : String} {V : gV} (C : gC X cX4_hangsTogether RX4 (some .boolean) 4 rm_X4_hangsTogether) (hX : gIs X l D cy nm) {I : gI} {J : gL} {Po : Int32 → Prop} (hR : gR X (gPi V (fun x I' J' => I = I' ∧ J = J' ∧ Po x))) {v0 : Int32} {v1 : Int32} {v2 : Int32} {v3 : Int32} {K7 : Int32 → Int32 → Prop} (hK7 : ∀ (y1 : Int32) (y2 : Int32), K7 y1 y2 → gJ X V 0 0 7 [(0, .int v0), (1, .int y1), (2, .int y2)] [] I J) (h : w_X4_hangsTogether_14 Po K7 v0 v1 v2 v3) : gJ X V 0 0 14 [(0, .int v0), (1, .int v1), (2, .int v2), (3, .int v3)] [] I J := by
  unfold w_X4_hangsTogether_14 at h
  obtain ⟨Inv, mu, h0, hs⟩ := h
  have key : ∀ (n : Nat) (v1 : Int32) (v3 : Int32), Inv v1 v3 → mu v1 v3 < n → gJ X V 0 0 14 [(0, .int v0), (1, .int v1), (2, .int v2), (3, .int v3)] [] I J := by
    intro n
    induction n with
    | zero => intro v1 v3 hi hn; exact absurd hn (Nat.not_lt_zero _)
    | succ n ih =>
      intro v1 v3 hi hn
      exact t_X4_hangsTogether_14b  C hX hR  hK7 (fun u1 u3 hk => ih u1 u3 hk.1 (Nat.lt_of_lt_of_le hk.2 (Nat.le_of_lt_succ hn))) (hs v1 v3 hi)
  exact key _ v1 v3 h0 (Nat.lt_succ_self _)
set_option maxRecDepth 100000 in
set_option maxHeartbeats 4000000 in
theorem t_X4_hangsTogether_7b {X : gX} {l : Launch} {D : va_G} {cy : Nat → ClassId} {nm : String} {V : gV} (C : gC X cX4_hangsTogether RX4 (some .boolean) 4 rm_X4_hangsTogether) (hX : gIs X l D cy nm) {I : gI} {J : gL} {Po : Int32 → Prop} (hR : gR X (gPi V (fun x I' J' => I = I' ∧ J = J' ∧ Po x))) {v0 : Int32} {v1 : Int32} {v2 : Int32} {K7 : Int32 → Int32 → Prop} (hK7 : ∀ (y1 : Int32) (y2 : Int32), K7 y1 y2 → gJ X V 0 0 7 [(0, .int v0), (1, .int y1), (2, .int y2)] [] I J) (h : w_X4_hangsTogether_7b Po K7 v0 v1 v2) : gJ X V 0 0 7 [(0, .int v0), (1, .int v1), (2, .int v2)] [] I J := by
  unfold w_X4_hangsTogether_7b at h
  refine j_iload_n (pc := 7) C dX4_hangsTogether_7 rfl 2 rfl ?_
  refine j_iconst (pc := 8) (v := 5) C dX4_hangsTogether_8 (by decide) ?_
  refine j_icmp_ge (pc := 9) (tgt := 49) C dX4_hangsTogether_9 (by decide) (fun c2 => ?_) (fun c2 => ?_)
  · have h := h.1 c2
    refine j_iload_n (pc := 49) C dX4_hangsTogether_49 rfl 1 rfl ?_
    refine j_iload_n (pc := 50) C dX4_hangsTogether_50 rfl 0 rfl ?_
    refine j_icmp_ne (pc := 51) (tgt := 58) C dX4_hangsTogether_51 (by decide) (fun c3 => ?_) (fun c3 => ?_)
    · have h := h.1 c3
      refine j_iconst (pc := 58) (v := 0) C dX4_hangsTogether_58 (by decide) ?_
      exact j_zret (pc := 59) C hR (Or.inl rfl) (Nat.zero_le _) (Nat.zero_le _) dX4_hangsTogether_59 ⟨_, rfl, rfl, rfl, rfl, h⟩
    · have h := h.2 c3
      refine j_iconst (pc := 54) (v := 1) C dX4_hangsTogether_54 (by decide) ?_
      refine j_goto (pc := 55) (tgt := 59) C dX4_hangsTogether_55 (by decide) ?_
      exact j_zret (pc := 59) C hR (Or.inr rfl) (Nat.zero_le _) (Nat.zero_le _) dX4_hangsTogether_59 ⟨_, rfl, rfl, rfl, rfl, h⟩
  · have h := h.2 c2
    refine j_iconst (pc := 12) (v := 0) C dX4_hangsTogether_12 (by decide) ?_
    refine j_istore_n (pc := 13) (lv' := [(3, .int (0 : Int32)), (0, .int v0), (1, .int v1), (2, .int v2)]) C dX4_hangsTogether_13 rfl (by decide) rfl ?_
    refine gJ.sub [1, 2, 3, 0] rfl ?_
    exact t_X4_hangsTogether_14  C hX hR  hK7 h
set_option maxRecDepth 100000 in
set_option maxHeartbeats 4000000 in
theorem t_X4_hangsTogether_7 {X : gX} {l : Launch} {D : va_G} {cy : Nat → ClassId} {nm : String} {V : gV} (C : gC X cX4_hangsTogether RX4 (some .boolean) 4 rm_X4_hangsTogether) (hX : gIs X l D cy nm) {I : gI} {J : gL} {Po : Int32 → Prop} (hR : gR X (gPi V (fun x I' J' => I = I' ∧ J = J' ∧ Po x))) {v0 : Int32} {v1 : Int32} {v2 : Int32} (h : w_X4_hangsTogether_7 Po v0 v1 v2) : gJ X V 0 0 7 [(0, .int v0), (1, .int v1), (2, .int v2)] [] I J := by
  unfold w_X4_hangsTogether_7 at h
  obtain ⟨Inv, mu, h0, hs⟩ := h
  have key : ∀ (n : Nat) (v1 : Int32) (v2 : Int32), Inv v1 v2 → mu v1 v2 < n → gJ X V 0 0 7 [(0, .int v0), (1, .int v1), (2, .int v2)] [] I J := by
    intro n
    induction n with
    | zero => intro v1 v2 hi hn; exact absurd hn (Nat.not_lt_zero _)
    | succ n ih =>
      intro v1 v2 hi hn
      exact t_X4_hangsTogether_7b  C hX hR   (fun u1 u2 hk => ih u1 u2 hk.1 (Nat.lt_of_lt_of_le hk.2 (Nat.le_of_lt_succ hn))) (hs v1 v2 hi)
  exact key _ v1 v2 h0 (Nat.lt_succ_self _)
set_option maxRecDepth 100000 in
set_option maxHeartbeats 4000000 in
theorem m_X4_hangsTogether {l : Launch} {D : va_G} {cy : Nat → ClassId} {V : gV} {a0 : Int32} {I : gI} {J : gL} {Po : Int32 → Prop} (h : wp_X4_hangsTogether a0 Po) : gMet l D cy yX4_hangsTogether cX4_hangsTogether 4 (some .boolean) rm_X4_hangsTogether V [.int a0] I J (gPi V (fun x I' J' => I = I' ∧ J = J' ∧ Po x)) := by
  refine gMet.of (by decide) (Nat.le_of_ble_eq_true rfl) (fun X hX C hR => ?_)
  have C : gC X cX4_hangsTogether RX4 (some .boolean) 4 rm_X4_hangsTogether := C
  show gJ X V 0 0 0 [(0, .int a0)] [] I J
  unfold wp_X4_hangsTogether at h
  refine j_iload_n (pc := 0) C dX4_hangsTogether_0 rfl 0 rfl ?_
  refine j_callS (pc := 1) (As := [.int a0]) (st := []) C hX (m_J6_lowestOneBit_0f7a4   h) ok_J6_lowestOneBit_0f7a4 wd_523 wd_524 ⟨by decide, by decide⟩ rfl rfl (Nat.le_of_ble_eq_true rfl) ⟨Nat.le_refl 0, Nat.le_refl 0⟩ dX4_hangsTogether_1 (fun r V1 I1 J1 hp => ?_)
  obtain ⟨r1, rfl, rfl, rfl, rfl, h⟩ := hp
  show gJ X V 0 0 4 _ [.int r1] _ _
  refine j_istore_n (pc := 4) (lv' := [(1, .int r1), (0, .int a0)]) C dX4_hangsTogether_4 rfl (by decide) rfl ?_
  refine j_iconst (pc := 5) (v := 1) C dX4_hangsTogether_5 (by decide) ?_
  refine j_istore_n (pc := 6) (lv' := [(2, .int (1 : Int32)), (1, .int r1), (0, .int a0)]) C dX4_hangsTogether_6 rfl (by decide) rfl ?_
  refine gJ.sub [2, 1, 0] rfl ?_
  exact t_X4_hangsTogether_7  C hX hR   h
/-! TileRules$Jigsaw.add(I)I -/
abbrev rm_X4_add : Room := { frames := 0, cells := 0, slots := 0, locals := 0 }
theorem ok_X4_add : gOk yX4_add cX4_add 2 (some .int) 1 := ⟨wd_532, wd_71, by decide +kernel⟩
def wp_X4_add (a1 : Int32) (I : gI) (Po : Int32 → gI → Prop) : Prop :=
  vp_in (I 20 0) 6 ∧ ∀ I2 : gI, I2 = gup I 21 ((I 20 0)).toNatClampNeg a1 → ∀ I3 : gI, I3 = gup I2 20 0 ((I2 20 0) + (1 : Int32)) → ∀ I4 : gI, I4 = gup I3 20 4 ((I3 20 4) + (1 : Int32)) → Po ((I4 20 0) - (1 : Int32)) I4
set_option maxRecDepth 100000 in
set_option maxHeartbeats 4000000 in
theorem m_X4_add {l : Launch} {D : va_G} {cy : Nat → ClassId} {V : gV} (hJG : gModJG V) {a1 : Int32} {I : gI} {J : gL} {Po : Int32 → gI → Prop} (h : wp_X4_add a1 I Po) : gMet l D cy yX4_add cX4_add 2 (some .int) rm_X4_add V [.ref (V.2.1 20), .int a1] I J (gPi V (fun x I' J' => J = J' ∧ Po x I')) := by
  refine gMet.of (by decide) (Nat.le_of_ble_eq_true rfl) (fun X hX C hR => ?_)
  have C : gC X cX4_add RX4 (some .int) 2 rm_X4_add := C
  show gJ X V 0 0 0 [(0, .ref (V.2.1 20)), (1, .int a1)] [] I J
  unfold wp_X4_add at h
  refine j_aload_n (pc := 0) C dX4_add_0 rfl 0 rfl ?_
  refine j_getR (pc := 1) C 20 8 21 (c_20 hJG).1 (c_20 hJG).2 rfl rfl (by decide) inw_X4 wd_146 dX4_add_1 ?_
  refine j_aload_n (pc := 4) C dX4_add_4 rfl 0 rfl ?_
  refine j_getI (pc := 5) C 20 0 (c_20 hJG).1 (c_20 hJG).2 rfl rfl (by decide) inw_X4 wd_130 dX4_add_5 ?_
  refine j_iload_n (pc := 8) C dX4_add_8 rfl 1 rfl ?_
  obtain ⟨g1, h⟩ := h
  refine j_iast (pc := 9) C 21 (c_21 hJG).1 (c_21 hJG).2 g1 dX4_add_9 ?_
  refine gJ.nmI (fun I2 eI2 => ?_)
  have h := h I2 eI2
  refine j_aload_n (pc := 10) C dX4_add_10 rfl 0 rfl ?_
  refine j_dup (pc := 11) C dX4_add_11 rfl ?_
  refine j_getI (pc := 12) C 20 0 (c_20 hJG).1 (c_20 hJG).2 rfl rfl (by decide) inw_X4 wd_130 dX4_add_12 ?_
  refine j_iconst (pc := 15) (v := 1) C dX4_add_15 (by decide) ?_
  refine j_iadd (pc := 16) C dX4_add_16 ?_
  refine j_putI (pc := 17) (ft := .int) C tyX4 tyX4_ok nmX4 20 0 (c_20 hJG).1 (c_20 hJG).2 rfl rfl (by decide) inw_X4 wd_130 rfl (by decide +kernel) rfl rfl dX4_add_17 ?_
  refine gJ.nmI (fun I3 eI3 => ?_)
  have h := h I3 eI3
  refine j_aload_n (pc := 20) C dX4_add_20 rfl 0 rfl ?_
  refine j_dup (pc := 21) C dX4_add_21 rfl ?_
  refine j_getI (pc := 22) C 20 4 (c_20 hJG).1 (c_20 hJG).2 rfl rfl (by decide) inw_X4 wd_141 dX4_add_22 ?_
  refine j_iconst (pc := 25) (v := 1) C dX4_add_25 (by decide) ?_
  refine j_iadd (pc := 26) C dX4_add_26 ?_
  refine j_putI (pc := 27) (ft := .int) C tyX4 tyX4_ok nmX4 20 4 (c_20 hJG).1 (c_20 hJG).2 rfl rfl (by decide) inw_X4 wd_141 rfl (by decide +kernel) rfl rfl dX4_add_27 ?_
  refine gJ.nmI (fun I4 eI4 => ?_)
  have h := h I4 eI4
  refine j_aload_n (pc := 30) C dX4_add_30 rfl 0 rfl ?_
  refine j_getI (pc := 31) C 20 0 (c_20 hJG).1 (c_20 hJG).2 rfl rfl (by decide) inw_X4 wd_130 dX4_add_31 ?_
  refine j_iconst (pc := 34) (v := 1) C dX4_add_34 (by decide) ?_
  refine j_isub (pc := 35) C dX4_add_35 ?_
  exact j_iret (pc := 36) C hR (Nat.zero_le _) (Nat.zero_le _) dX4_add_36 ⟨_, rfl, rfl, rfl, h⟩
/-! TileRules$Jigsaw.dropLast()I -/
abbrev rm_X4_dropLast : Room := { frames := 0, cells := 0, slots := 0, locals := 0 }
theorem ok_X4_dropLast : gOk yX4_dropLast cX4_dropLast 1 (some .int) 0 := ⟨wd_540, wd_71, by decide +kernel⟩
def wp_X4_dropLast (I : gI) (Po : Int32 → gI → Prop) : Prop :=
  ∀ I1 : gI, I1 = gup I 20 0 ((I 20 0) - (1 : Int32)) → ∀ I2 : gI, I2 = gup I1 20 4 ((I1 20 4) + (1 : Int32)) → Po (I2 20 0) I2
set_option maxRecDepth 100000 in
set_option maxHeartbeats 4000000 in
theorem m_X4_dropLast {l : Launch} {D : va_G} {cy : Nat → ClassId} {V : gV} (hJG : gModJG V) {I : gI} {J : gL} {Po : Int32 → gI → Prop} (h : wp_X4_dropLast I Po) : gMet l D cy yX4_dropLast cX4_dropLast 1 (some .int) rm_X4_dropLast V [.ref (V.2.1 20)] I J (gPi V (fun x I' J' => J = J' ∧ Po x I')) := by
  refine gMet.of (by decide) (Nat.le_of_ble_eq_true rfl) (fun X hX C hR => ?_)
  have C : gC X cX4_dropLast RX4 (some .int) 1 rm_X4_dropLast := C
  show gJ X V 0 0 0 [(0, .ref (V.2.1 20))] [] I J
  unfold wp_X4_dropLast at h
  refine j_aload_n (pc := 0) C dX4_dropLast_0 rfl 0 rfl ?_
  refine j_dup (pc := 1) C dX4_dropLast_1 rfl ?_
  refine j_getI (pc := 2) C 20 0 (c_20 hJG).1 (c_20 hJG).2 rfl rfl (by decide) inw_X4 wd_130 dX4_dropLast_2 ?_
  refine j_iconst (pc := 5) (v := 1) C dX4_dropLast_5 (by decide) ?_
  refine j_isub (pc := 6) C dX4_dropLast_6 ?_
  refine j_putI (pc := 7) (ft := .int) C tyX4 tyX4_ok nmX4 20 0 (c_20 hJG).1 (c_20 hJG).2 rfl rfl (by decide) inw_X4 wd_130 rfl (by decide +kernel) rfl rfl dX4_dropLast_7 ?_
  refine gJ.nmI (fun I1 eI1 => ?_)
  have h := h I1 eI1
  refine j_aload_n (pc := 10) C dX4_dropLast_10 rfl 0 rfl ?_
  refine j_dup (pc := 11) C dX4_dropLast_11 rfl ?_
  refine j_getI (pc := 12) C 20 4 (c_20 hJG).1 (c_20 hJG).2 rfl rfl (by decide) inw_X4 wd_141 dX4_dropLast_12 ?_
  refine j_iconst (pc := 15) (v := 1) C dX4_dropLast_15 (by decide) ?_
  refine j_iadd (pc := 16) C dX4_dropLast_16 ?_
  refine j_putI (pc := 17) (ft := .int) C tyX4 tyX4_ok nmX4 20 4 (c_20 hJG).1 (c_20 hJG).2 rfl rfl (by decide) inw_X4 wd_141 rfl (by decide +kernel) rfl rfl dX4_dropLast_17 ?_
  refine gJ.nmI (fun I2 eI2 => ?_)
  have h := h I2 eI2
  refine j_aload_n (pc := 20) C dX4_dropLast_20 rfl 0 rfl ?_
  refine j_getI (pc := 21) C 20 0 (c_20 hJG).1 (c_20 hJG).2 rfl rfl (by decide) inw_X4 wd_130 dX4_dropLast_21 ?_
  exact j_iret (pc := 24) C hR (Nat.zero_le _) (Nat.zero_le _) dX4_dropLast_24 ⟨_, rfl, rfl, rfl, h⟩
/-! TileRules$Jigsaw.setBoard(III)V -/
abbrev rm_X4_setBoard : Room := { frames := 0, cells := 0, slots := 0, locals := 0 }
theorem ok_X4_setBoard : gOk yX4_setBoard cX4_setBoard 4 none 3 := ⟨wd_548, wd_71, by decide +kernel⟩
def wp_X4_setBoard (a1 : Int32) (a2 : Int32) (a3 : Int32) (I : gI) (Po : gI → Prop) : Prop :=
  ∀ I1 : gI, I1 = gup I 20 1 a1 → ∀ I2 : gI, I2 = gup I1 20 2 a2 → ∀ I3 : gI, I3 = gup I2 20 3 a3 → ∀ I4 : gI, I4 = gup I3 20 4 ((I3 20 4) + (1 : Int32)) → Po I4
set_option maxRecDepth 100000 in
set_option maxHeartbeats 4000000 in
theorem m_X4_setBoard {l : Launch} {D : va_G} {cy : Nat → ClassId} {V : gV} (hJG : gModJG V) {a1 : Int32} {a2 : Int32} {a3 : Int32} {I : gI} {J : gL} {Po : gI → Prop} (h : wp_X4_setBoard a1 a2 a3 I Po) : gMet l D cy yX4_setBoard cX4_setBoard 4 none rm_X4_setBoard V [.ref (V.2.1 20), .int a1, .int a2, .int a3] I J (gPv V (fun I' J' => J = J' ∧ Po I')) := by
  refine gMet.of (by decide) (Nat.le_of_ble_eq_true rfl) (fun X hX C hR => ?_)
  have C : gC X cX4_setBoard RX4 none 4 rm_X4_setBoard := C
  show gJ X V 0 0 0 [(0, .ref (V.2.1 20)), (1, .int a1), (2, .int a2), (3, .int a3)] [] I J
  unfold wp_X4_setBoard at h
  refine j_aload_n (pc := 0) C dX4_setBoard_0 rfl 0 rfl ?_
  refine j_iload_n (pc := 1) C dX4_setBoard_1 rfl 1 rfl ?_
  refine j_putI (pc := 2) (ft := .int) C tyX4 tyX4_ok nmX4 20 1 (c_20 hJG).1 (c_20 hJG).2 rfl rfl (by decide) inw_X4 wd_133 rfl (by decide +kernel) rfl rfl dX4_setBoard_2 ?_
  refine gJ.nmI (fun I1 eI1 => ?_)
  have h := h I1 eI1
  refine j_aload_n (pc := 5) C dX4_setBoard_5 rfl 0 rfl ?_
  refine j_iload_n (pc := 6) C dX4_setBoard_6 rfl 2 rfl ?_
  refine j_putI (pc := 7) (ft := .int) C tyX4 tyX4_ok nmX4 20 2 (c_20 hJG).1 (c_20 hJG).2 rfl rfl (by decide) inw_X4 wd_136 rfl (by decide +kernel) rfl rfl dX4_setBoard_7 ?_
  refine gJ.nmI (fun I2 eI2 => ?_)
  have h := h I2 eI2
  refine j_aload_n (pc := 10) C dX4_setBoard_10 rfl 0 rfl ?_
  refine j_iload_n (pc := 11) C dX4_setBoard_11 rfl 3 rfl ?_
  refine j_putI (pc := 12) (ft := .int) C tyX4 tyX4_ok nmX4 20 3 (c_20 hJG).1 (c_20 hJG).2 rfl rfl (by decide) inw_X4 wd_139 rfl (by decide +kernel) rfl rfl dX4_setBoard_12 ?_
  refine gJ.nmI (fun I3 eI3 => ?_)
  have h := h I3 eI3
  refine j_aload_n (pc := 15) C dX4_setBoard_15 rfl 0 rfl ?_
  refine j_dup (pc := 16) C dX4_setBoard_16 rfl ?_
  refine j_getI (pc := 17) C 20 4 (c_20 hJG).1 (c_20 hJG).2 rfl rfl (by decide) inw_X4 wd_141 dX4_setBoard_17 ?_
  refine j_iconst (pc := 20) (v := 1) C dX4_setBoard_20 (by decide) ?_
  refine j_iadd (pc := 21) C dX4_setBoard_21 ?_
  refine j_putI (pc := 22) (ft := .int) C tyX4 tyX4_ok nmX4 20 4 (c_20 hJG).1 (c_20 hJG).2 rfl rfl (by decide) inw_X4 wd_141 rfl (by decide +kernel) rfl rfl dX4_setBoard_22 ?_
  refine gJ.nmI (fun I4 eI4 => ?_)
  have h := h I4 eI4
  exact j_vret (pc := 25) C hR (Nat.zero_le _) (Nat.zero_le _) dX4_setBoard_25 ⟨rfl, rfl, rfl, h⟩
/-! TileRules$Jigsaw.setTurns(Z)Z -/
abbrev rm_X4_setTurns : Room := { frames := 0, cells := 0, slots := 0, locals := 0 }
theorem ok_X4_setTurns : gOk yX4_setTurns cX4_setTurns 3 (some .boolean) 1 := ⟨wd_556, wd_71, by decide +kernel⟩
def wp_X4_setTurns (a1 : Int32) (I : gI) (Po : Int32 → gI → Prop) : Prop :=
  ∀ n1 : Int32, n1 = (I 20 5) → (a1 = 0 ∨ a1 = 1) ∧ ∀ I3 : gI, I3 = gup I 20 5 a1 → ∀ I4 : gI, I4 = gup I3 20 4 ((I3 20 4) + (1 : Int32)) → (n1 = 0 ∨ n1 = 1) ∧ Po n1 I4
set_option maxRecDepth 100000 in
set_option maxHeartbeats 4000000 in
theorem m_X4_setTurns {l : Launch} {D : va_G} {cy : Nat → ClassId} {V : gV} (hJG : gModJG V) {a1 : Int32} {I : gI} {J : gL} {Po : Int32 → gI → Prop} (h : wp_X4_setTurns a1 I Po) : gMet l D cy yX4_setTurns cX4_setTurns 3 (some .boolean) rm_X4_setTurns V [.ref (V.2.1 20), .int a1] I J (gPi V (fun x I' J' => J = J' ∧ Po x I')) := by
  refine gMet.of (by decide) (Nat.le_of_ble_eq_true rfl) (fun X hX C hR => ?_)
  have C : gC X cX4_setTurns RX4 (some .boolean) 3 rm_X4_setTurns := C
  show gJ X V 0 0 0 [(0, .ref (V.2.1 20)), (1, .int a1)] [] I J
  unfold wp_X4_setTurns at h
  refine j_aload_n (pc := 0) C dX4_setTurns_0 rfl 0 rfl ?_
  refine j_getI (pc := 1) C 20 5 (c_20 hJG).1 (c_20 hJG).2 rfl rfl (by decide) inw_X4 wd_143 dX4_setTurns_1 ?_
  refine gJ.topi (fun n1 en1 => ?_)
  have h := h n1 en1
  refine j_istore_n (pc := 4) (lv' := [(2, .int n1), (0, .ref (V.2.1 20)), (1, .int a1)]) C dX4_setTurns_4 rfl (by decide) rfl ?_
  refine j_aload_n (pc := 5) C dX4_setTurns_5 rfl 1 rfl ?_
  refine j_iload_n (pc := 6) C dX4_setTurns_6 rfl 2 rfl ?_
  obtain ⟨g2, h⟩ := h
  refine j_putI (pc := 7) (ft := .boolean) C tyX4 tyX4_ok nmX4 20 5 (c_20 hJG).1 (c_20 hJG).2 rfl rfl (by decide) inw_X4 wd_143 rfl (by decide +kernel) (by rcases g2 with q | q <;> rw [q] <;> rfl) (by rcases g2 with q | q <;> rw [q] <;> rfl) dX4_setTurns_7 ?_
  refine gJ.nmI (fun I3 eI3 => ?_)
  have h := h I3 eI3
  refine j_aload_n (pc := 10) C dX4_setTurns_10 rfl 1 rfl ?_
  refine j_dup (pc := 11) C dX4_setTurns_11 rfl ?_
  refine j_getI (pc := 12) C 20 4 (c_20 hJG).1 (c_20 hJG).2 rfl rfl (by decide) inw_X4 wd_141 dX4_setTurns_12 ?_
  refine j_iconst (pc := 15) (v := 1) C dX4_setTurns_15 (by decide) ?_
  refine j_iadd (pc := 16) C dX4_setTurns_16 ?_
  refine j_putI (pc := 17) (ft := .int) C tyX4 tyX4_ok nmX4 20 4 (c_20 hJG).1 (c_20 hJG).2 rfl rfl (by decide) inw_X4 wd_141 rfl (by decide +kernel) rfl rfl dX4_setTurns_17 ?_
  refine gJ.nmI (fun I4 eI4 => ?_)
  have h := h I4 eI4
  refine j_iload_n (pc := 20) C dX4_setTurns_20 rfl 0 rfl ?_
  obtain ⟨g5, h⟩ := h
  exact j_zret (pc := 21) C hR g5 (Nat.zero_le _) (Nat.zero_le _) dX4_setTurns_21 ⟨_, rfl, rfl, rfl, h⟩
/-! TileRules$Jigsaw.setMirrors(Z)Z -/
abbrev rm_X4_setMirrors : Room := { frames := 0, cells := 0, slots := 0, locals := 0 }
theorem ok_X4_setMirrors : gOk yX4_setMirrors cX4_setMirrors 3 (some .boolean) 1 := ⟨wd_560, wd_71, by decide +kernel⟩
def wp_X4_setMirrors (a1 : Int32) (I : gI) (Po : Int32 → gI → Prop) : Prop :=
  ∀ n1 : Int32, n1 = (I 20 6) → (a1 = 0 ∨ a1 = 1) ∧ ∀ I3 : gI, I3 = gup I 20 6 a1 → ∀ I4 : gI, I4 = gup I3 20 4 ((I3 20 4) + (1 : Int32)) → (n1 = 0 ∨ n1 = 1) ∧ Po n1 I4
set_option maxRecDepth 100000 in
set_option maxHeartbeats 4000000 in
theorem m_X4_setMirrors {l : Launch} {D : va_G} {cy : Nat → ClassId} {V : gV} (hJG : gModJG V) {a1 : Int32} {I : gI} {J : gL} {Po : Int32 → gI → Prop} (h : wp_X4_setMirrors a1 I Po) : gMet l D cy yX4_setMirrors cX4_setMirrors 3 (some .boolean) rm_X4_setMirrors V [.ref (V.2.1 20), .int a1] I J (gPi V (fun x I' J' => J = J' ∧ Po x I')) := by
  refine gMet.of (by decide) (Nat.le_of_ble_eq_true rfl) (fun X hX C hR => ?_)
  have C : gC X cX4_setMirrors RX4 (some .boolean) 3 rm_X4_setMirrors := C
  show gJ X V 0 0 0 [(0, .ref (V.2.1 20)), (1, .int a1)] [] I J
  unfold wp_X4_setMirrors at h
  refine j_aload_n (pc := 0) C dX4_setMirrors_0 rfl 0 rfl ?_
  refine j_getI (pc := 1) C 20 6 (c_20 hJG).1 (c_20 hJG).2 rfl rfl (by decide) inw_X4 wd_144 dX4_setMirrors_1 ?_
  refine gJ.topi (fun n1 en1 => ?_)
  have h := h n1 en1
  refine j_istore_n (pc := 4) (lv' := [(2, .int n1), (0, .ref (V.2.1 20)), (1, .int a1)]) C dX4_setMirrors_4 rfl (by decide) rfl ?_
  refine j_aload_n (pc := 5) C dX4_setMirrors_5 rfl 1 rfl ?_
  refine j_iload_n (pc := 6) C dX4_setMirrors_6 rfl 2 rfl ?_
  obtain ⟨g2, h⟩ := h
  refine j_putI (pc := 7) (ft := .boolean) C tyX4 tyX4_ok nmX4 20 6 (c_20 hJG).1 (c_20 hJG).2 rfl rfl (by decide) inw_X4 wd_144 rfl (by decide +kernel) (by rcases g2 with q | q <;> rw [q] <;> rfl) (by rcases g2 with q | q <;> rw [q] <;> rfl) dX4_setMirrors_7 ?_
  refine gJ.nmI (fun I3 eI3 => ?_)
  have h := h I3 eI3
  refine j_aload_n (pc := 10) C dX4_setMirrors_10 rfl 1 rfl ?_
  refine j_dup (pc := 11) C dX4_setMirrors_11 rfl ?_
  refine j_getI (pc := 12) C 20 4 (c_20 hJG).1 (c_20 hJG).2 rfl rfl (by decide) inw_X4 wd_141 dX4_setMirrors_12 ?_
  refine j_iconst (pc := 15) (v := 1) C dX4_setMirrors_15 (by decide) ?_
  refine j_iadd (pc := 16) C dX4_setMirrors_16 ?_
  refine j_putI (pc := 17) (ft := .int) C tyX4 tyX4_ok nmX4 20 4 (c_20 hJG).1 (c_20 hJG).2 rfl rfl (by decide) inw_X4 wd_141 rfl (by decide +kernel) rfl rfl dX4_setMirrors_17 ?_
  refine gJ.nmI (fun I4 eI4 => ?_)
  have h := h I4 eI4
  refine j_iload_n (pc := 20) C dX4_setMirrors_20 rfl 0 rfl ?_
  obtain ⟨g5, h⟩ := h
  exact j_zret (pc := 21) C hR g5 (Nat.zero_le _) (Nat.zero_le _) dX4_setMirrors_21 ⟨_, rfl, rfl, rfl, h⟩
/-! TileRules$Jigsaw.countPlacements(I)I -/
abbrev rm_X4_countPlacements : Room := { frames := 4, cells := 0, slots := 0, locals := 104 }
theorem ok_X4_countPlacements : gOk yX4_countPlacements cX4_countPlacements 4 (some .int) 1 := ⟨wd_568, wd_71, by decide +kernel⟩
def w_X4_countPlacements_8b  (Po : Int32 → gI → Prop) (K8 : Int32 → Int32 → Prop) (v1 : Int32) (v2 : Int32) (v3 : Int32) (I : gI) : Prop :=
  ((20 : Int32) ≤ v3 → Po v2 I) ∧ (¬ (20 : Int32) ≤ v3 → vp_in v1 6 ∧ vp_in v3 20 ∧ ∀ n5 : Int32, n5 = (v2 + (I (30 + (v1).toNatClampNeg) (v3).toNatClampNeg)) → ∀ n6 : Int32, n6 = v3 + 1 → K8 n5 n6)
def w_X4_countPlacements_8  (Po : Int32 → gI → Prop)  (v1 : Int32) (v2 : Int32) (v3 : Int32) (I : gI) : Prop :=
  ∃ (Inv : Int32 → Int32 → Prop) (mu : Int32 → Int32 → Nat), Inv v2 v3 ∧ ∀ (v2 : Int32) (v3 : Int32), Inv v2 v3 → w_X4_countPlacements_8b  Po  (fun u2 u3 => Inv u2 u3 ∧ mu u2 u3 < mu v2 v3) v1 v2 v3 I
def wp_X4_countPlacements (a1 : Int32) (I : gI) (Po : Int32 → gI → Prop) : Prop :=
  wp_X4_listPlacements I (fun I1 => w_X4_countPlacements_8 Po a1 (0 : Int32) (0 : Int32) I1)
set_option maxRecDepth 100000 in
set_option maxHeartbeats 4000000 in
theorem t_X4_countPlacements_8b {X : gX} {l : Launch} {D : va_G} {cy : Nat → ClassId} {nm : String} {V : gV} (hJG : gModJG V) (C : gC X cX4_countPlacements RX4 (some .int) 4 rm_X4_countPlacements) (hX : gIs X l D cy nm) {I : gI} {J : gL} {Po : Int32 → gI → Prop} (hR : gR X (gPi V (fun x I' J' => J = J' ∧ Po x I'))) {v1 : Int32} {v2 : Int32} {v3 : Int32} {K8 : Int32 → Int32 → Prop} (hK8 : ∀ (y2 : Int32) (y3 : Int32), K8 y2 y3 → gJ X V 0 0 8 [(0, .ref (V.2.1 20)), (1, .int v1), (2, .int y2), (3, .int y3)] [] I J) (h : w_X4_countPlacements_8b Po K8 v1 v2 v3 I) : gJ X V 0 0 8 [(0, .ref (V.2.1 20)), (1, .int v1), (2, .int v2), (3, .int v3)] [] I J := by
  unfold w_X4_countPlacements_8b at h
  refine j_iload_n (pc := 8) C dX4_countPlacements_8 rfl 3 rfl ?_
  refine j_bipush (pc := 9) (v := 20) C dX4_countPlacements_9 (by decide) ?_
  refine j_icmp_ge (pc := 11) (tgt := 31) C dX4_countPlacements_11 (by decide) (fun c2 => ?_) (fun c2 => ?_)
  · have h := h.1 c2
    refine j_iload_n (pc := 31) C dX4_countPlacements_31 rfl 2 rfl ?_
    exact j_iret (pc := 32) C hR (Nat.zero_le _) (Nat.zero_le _) dX4_countPlacements_32 ⟨_, rfl, rfl, rfl, h⟩
  · have h := h.2 c2
    refine j_iload_n (pc := 14) C dX4_countPlacements_14 rfl 2 rfl ?_
    refine j_aload_n (pc := 15) C dX4_countPlacements_15 rfl 0 rfl ?_
    refine j_getR (pc := 16) C 20 10 29 (c_20 hJG).1 (c_20 hJG).2 rfl rfl (by decide) inw_X4 wd_148 dX4_countPlacements_16 ?_
    refine j_iload_n (pc := 19) C dX4_countPlacements_19 rfl 1 rfl ?_
    obtain ⟨g3, h⟩ := h
    refine j_aald (pc := 20) C 29 (30 + (v1).toNatClampNeg) (c_29 hJG).1 (c_29 hJG).2 g3 (gfam_at (vp_in_lt g3)) dX4_countPlacements_20 ?_
    refine j_iload_n (pc := 21) C dX4_countPlacements_21 rfl 3 rfl ?_
    obtain ⟨g4, h⟩ := h
    refine j_iald (pc := 22) C (30 + (v1).toNatClampNeg) (f_30 hJG (vp_in_lt g3)).1 (f_30 hJG (vp_in_lt g3)).2 g4 dX4_countPlacements_22 ?_
    refine j_iadd (pc := 23) C dX4_countPlacements_23 ?_
    refine gJ.topi (fun n5 en5 => ?_)
    have h := h n5 en5
    refine j_istore_n (pc := 24) (lv' := [(2, .int n5), (0, .ref (V.2.1 20)), (1, .int v1), (3, .int v3)]) C dX4_countPlacements_24 rfl (by decide) rfl ?_
    obtain ⟨n6, en6⟩ : ∃ z : Int32, z = v3 + 1 := ⟨_, rfl⟩
    have h := h n6 en6
    refine j_iinc (pc := 25) (v := n6) (lv' := [(3, .int n6), (2, .int n5), (0, .ref (V.2.1 20)), (1, .int v1)]) C dX4_countPlacements_25 3 rfl (by rw [en6]; rfl) (by decide) rfl ?_
    refine j_goto (pc := 28) (tgt := 8) C dX4_countPlacements_28 (by decide) ?_
    refine gJ.sub [2, 3, 1, 0] rfl ?_
    exact hK8 _ _ h
set_option maxRecDepth 100000 in
set_option maxHeartbeats 4000000 in
theorem t_X4_countPlacements_8 {X : gX} {l : Launch} {D : va_G} {cy : Nat → ClassId} {nm : String} {V : gV} (hJG : gModJG V) (C : gC X cX4_countPlacements RX4 (some .int) 4 rm_X4_countPlacements) (hX : gIs X l D cy nm) {I : gI} {J : gL} {Po : Int32 → gI → Prop} (hR : gR X (gPi V (fun x I' J' => J = J' ∧ Po x I'))) {v1 : Int32} {v2 : Int32} {v3 : Int32} (h : w_X4_countPlacements_8 Po v1 v2 v3 I) : gJ X V 0 0 8 [(0, .ref (V.2.1 20)), (1, .int v1), (2, .int v2), (3, .int v3)] [] I J := by
  unfold w_X4_countPlacements_8 at h
  obtain ⟨Inv, mu, h0, hs⟩ := h
  have key : ∀ (n : Nat) (v2 : Int32) (v3 : Int32), Inv v2 v3 → mu v2 v3 < n → gJ X V 0 0 8 [(0, .ref (V.2.1 20)), (1, .int v1), (2, .int v2), (3, .int v3)] [] I J := by
    intro n
    induction n with
    | zero => intro v2 v3 hi hn; exact absurd hn (Nat.not_lt_zero _)
    | succ n ih =>
      intro v2 v3 hi hn
      exact t_X4_countPlacements_8b hJG C hX hR   (fun u2 u3 hk => ih u2 u3 hk.1 (Nat.lt_of_lt_of_le hk.2 (Nat.le_of_lt_succ hn))) (hs v2 v3 hi)
  exact key _ v2 v3 h0 (Nat.lt_succ_self _)
set_option maxRecDepth 100000 in
set_option maxHeartbeats 4000000 in
theorem m_X4_countPlacements {l : Launch} {D : va_G} {cy : Nat → ClassId} {V : gV} (hJG : gModJG V) {a1 : Int32} {I : gI} {J : gL} {Po : Int32 → gI → Prop} (h : wp_X4_countPlacements a1 I Po) : gMet l D cy yX4_countPlacements cX4_countPlacements 4 (some .int) rm_X4_countPlacements V [.ref (V.2.1 20), .int a1] I J (gPi V (fun x I' J' => J = J' ∧ Po x I')) := by
  refine gMet.of (by decide) (Nat.le_of_ble_eq_true rfl) (fun X hX C hR => ?_)
  have C : gC X cX4_countPlacements RX4 (some .int) 4 rm_X4_countPlacements := C
  show gJ X V 0 0 0 [(0, .ref (V.2.1 20)), (1, .int a1)] [] I J
  unfold wp_X4_countPlacements at h
  refine j_aload_n (pc := 0) C dX4_countPlacements_0 rfl 0 rfl ?_
  refine j_callV (pc := 1) (As := []) (st := []) C hX 20 (m_X4_listPlacements hJG  h) (c_20 hJG).1 (c_20 hJG).2 rfl ok_X4_listPlacements wd_569 wd_570 wd_571 ⟨by decide, by decide⟩ rfl rfl (Nat.le_of_ble_eq_true rfl) ⟨Nat.le_refl 0, Nat.le_refl 0⟩ dX4_countPlacements_1 (fun r V1 I1 J1 hp => ?_)
  obtain ⟨rfl, rfl, rfl, h⟩ := hp
  show gJ X V 0 0 4 _ [] _ _
  refine j_iconst (pc := 4) (v := 0) C dX4_countPlacements_4 (by decide) ?_
  refine j_istore_n (pc := 5) (lv' := [(2, .int (0 : Int32)), (0, .ref (V.2.1 20)), (1, .int a1)]) C dX4_countPlacements_5 rfl (by decide) rfl ?_
  refine j_iconst (pc := 6) (v := 0) C dX4_countPlacements_6 (by decide) ?_
  refine j_istore_n (pc := 7) (lv' := [(3, .int (0 : Int32)), (2, .int (0 : Int32)), (0, .ref (V.2.1 20)), (1, .int a1)]) C dX4_countPlacements_7 rfl (by decide) rfl ?_
  refine gJ.sub [2, 3, 1, 0] rfl ?_
  exact t_X4_countPlacements_8 hJG C hX hR   h
/-! TileRules$TileSet.add(IIII)I -/
abbrev rm_X8_add : Room := { frames := 0, cells := 0, slots := 0, locals := 0 }
theorem ok_X8_add : gOk yX8_add cX8_add 5 (some .int) 4 := ⟨wd_285, wd_70, by decide +kernel⟩
def wp_X8_add (a1 : Int32) (a2 : Int32) (a3 : Int32) (a4 : Int32) (I : gI) (Po : Int32 → gI → Prop) : Prop :=
  vp_in (I 10 4) 8 ∧ ∀ I2 : gI, I2 = gup I 11 ((I 10 4)).toNatClampNeg a1 → vp_in (I2 10 4) 8 ∧ ∀ I4 : gI, I4 = gup I2 12 ((I2 10 4)).toNatClampNeg a2 → vp_in (I4 10 4) 8 ∧ ∀ I6 : gI, I6 = gup I4 13 ((I4 10 4)).toNatClampNeg a3 → vp_in (I6 10 4) 8 ∧ ∀ I8 : gI, I8 = gup I6 14 ((I6 10 4)).toNatClampNeg a4 → ∀ I9 : gI, I9 = gup I8 10 4 ((I8 10 4) + (1 : Int32)) → Po ((I9 10 4) - (1 : Int32)) I9
set_option maxRecDepth 100000 in
set_option maxHeartbeats 4000000 in
theorem m_X8_add {l : Launch} {D : va_G} {cy : Nat → ClassId} {V : gV} (hTS : gModTS V) {a1 : Int32} {a2 : Int32} {a3 : Int32} {a4 : Int32} {I : gI} {J : gL} {Po : Int32 → gI → Prop} (h : wp_X8_add a1 a2 a3 a4 I Po) : gMet l D cy yX8_add cX8_add 5 (some .int) rm_X8_add V [.ref (V.2.1 10), .int a1, .int a2, .int a3, .int a4] I J (gPi V (fun x I' J' => J = J' ∧ Po x I')) := by
  refine gMet.of (by decide) (Nat.le_of_ble_eq_true rfl) (fun X hX C hR => ?_)
  have C : gC X cX8_add RX8 (some .int) 5 rm_X8_add := C
  show gJ X V 0 0 0 [(0, .ref (V.2.1 10)), (1, .int a1), (2, .int a2), (3, .int a3), (4, .int a4)] [] I J
  unfold wp_X8_add at h
  refine j_aload_n (pc := 0) C dX8_add_0 rfl 0 rfl ?_
  refine j_getR (pc := 1) C 10 0 11 (c_10 hTS).1 (c_10 hTS).2 rfl rfl (by decide) inw_X8 wd_99 dX8_add_1 ?_
  refine j_aload_n (pc := 4) C dX8_add_4 rfl 0 rfl ?_
  refine j_getI (pc := 5) C 10 4 (c_10 hTS).1 (c_10 hTS).2 rfl rfl (by decide) inw_X8 wd_107 dX8_add_5 ?_
  refine j_iload_n (pc := 8) C dX8_add_8 rfl 1 rfl ?_
  obtain ⟨g1, h⟩ := h
  refine j_iast (pc := 9) C 11 (c_11 hTS).1 (c_11 hTS).2 g1 dX8_add_9 ?_
  refine gJ.nmI (fun I2 eI2 => ?_)
  have h := h I2 eI2
  refine j_aload_n (pc := 10) C dX8_add_10 rfl 0 rfl ?_
  refine j_getR (pc := 11) C 10 1 12 (c_10 hTS).1 (c_10 hTS).2 rfl rfl (by decide) inw_X8 wd_101 dX8_add_11 ?_
  refine j_aload_n (pc := 14) C dX8_add_14 rfl 0 rfl ?_
  refine j_getI (pc := 15) C 10 4 (c_10 hTS).1 (c_10 hTS).2 rfl rfl (by decide) inw_X8 wd_107 dX8_add_15 ?_
  refine j_iload_n (pc := 18) C dX8_add_18 rfl 2 rfl ?_
  obtain ⟨g3, h⟩ := h
  refine j_iast (pc := 19) C 12 (c_12 hTS).1 (c_12 hTS).2 g3 dX8_add_19 ?_
  refine gJ.nmI (fun I4 eI4 => ?_)
  have h := h I4 eI4
  refine j_aload_n (pc := 20) C dX8_add_20 rfl 0 rfl ?_
  refine j_getR (pc := 21) C 10 2 13 (c_10 hTS).1 (c_10 hTS).2 rfl rfl (by decide) inw_X8 wd_103 dX8_add_21 ?_
  refine j_aload_n (pc := 24) C dX8_add_24 rfl 0 rfl ?_
  refine j_getI (pc := 25) C 10 4 (c_10 hTS).1 (c_10 hTS).2 rfl rfl (by decide) inw_X8 wd_107 dX8_add_25 ?_
  refine j_iload_n (pc := 28) C dX8_add_28 rfl 3 rfl ?_
  obtain ⟨g5, h⟩ := h
  refine j_iast (pc := 29) C 13 (c_13 hTS).1 (c_13 hTS).2 g5 dX8_add_29 ?_
  refine gJ.nmI (fun I6 eI6 => ?_)
  have h := h I6 eI6
  refine j_aload_n (pc := 30) C dX8_add_30 rfl 0 rfl ?_
  refine j_getR (pc := 31) C 10 3 14 (c_10 hTS).1 (c_10 hTS).2 rfl rfl (by decide) inw_X8 wd_105 dX8_add_31 ?_
  refine j_aload_n (pc := 34) C dX8_add_34 rfl 0 rfl ?_
  refine j_getI (pc := 35) C 10 4 (c_10 hTS).1 (c_10 hTS).2 rfl rfl (by decide) inw_X8 wd_107 dX8_add_35 ?_
  refine j_iload (pc := 38) C dX8_add_38 4 rfl ?_
  obtain ⟨g7, h⟩ := h
  refine j_iast (pc := 40) C 14 (c_14 hTS).1 (c_14 hTS).2 g7 dX8_add_40 ?_
  refine gJ.nmI (fun I8 eI8 => ?_)
  have h := h I8 eI8
  refine j_aload_n (pc := 41) C dX8_add_41 rfl 0 rfl ?_
  refine j_dup (pc := 42) C dX8_add_42 rfl ?_
  refine j_getI (pc := 43) C 10 4 (c_10 hTS).1 (c_10 hTS).2 rfl rfl (by decide) inw_X8 wd_107 dX8_add_43 ?_
  refine j_iconst (pc := 46) (v := 1) C dX8_add_46 (by decide) ?_
  refine j_iadd (pc := 47) C dX8_add_47 ?_
  refine j_putI (pc := 48) (ft := .int) C tyX8 tyX8_ok nmX8 10 4 (c_10 hTS).1 (c_10 hTS).2 rfl rfl (by decide) inw_X8 wd_107 rfl (by decide +kernel) rfl rfl dX8_add_48 ?_
  refine gJ.nmI (fun I9 eI9 => ?_)
  have h := h I9 eI9
  refine j_aload_n (pc := 51) C dX8_add_51 rfl 0 rfl ?_
  refine j_getI (pc := 52) C 10 4 (c_10 hTS).1 (c_10 hTS).2 rfl rfl (by decide) inw_X8 wd_107 dX8_add_52 ?_
  refine j_iconst (pc := 55) (v := 1) C dX8_add_55 (by decide) ?_
  refine j_isub (pc := 56) C dX8_add_56 ?_
  exact j_iret (pc := 57) C hR (Nat.zero_le _) (Nat.zero_le _) dX8_add_57 ⟨_, rfl, rfl, rfl, h⟩
/-! TileRules$TileSet.dropLast()I -/
abbrev rm_X8_dropLast : Room := { frames := 0, cells := 0, slots := 0, locals := 0 }
theorem ok_X8_dropLast : gOk yX8_dropLast cX8_dropLast 1 (some .int) 0 := ⟨wd_293, wd_70, by decide +kernel⟩
def wp_X8_dropLast (I : gI) (Po : Int32 → gI → Prop) : Prop :=
  ∀ I1 : gI, I1 = gup I 10 4 ((I 10 4) - (1 : Int32)) → Po (I1 10 4) I1
set_option maxRecDepth 100000 in
set_option maxHeartbeats 4000000 in
theorem m_X8_dropLast {l : Launch} {D : va_G} {cy : Nat → ClassId} {V : gV} (hTS : gModTS V) {I : gI} {J : gL} {Po : Int32 → gI → Prop} (h : wp_X8_dropLast I Po) : gMet l D cy yX8_dropLast cX8_dropLast 1 (some .int) rm_X8_dropLast V [.ref (V.2.1 10)] I J (gPi V (fun x I' J' => J = J' ∧ Po x I')) := by
  refine gMet.of (by decide) (Nat.le_of_ble_eq_true rfl) (fun X hX C hR => ?_)
  have C : gC X cX8_dropLast RX8 (some .int) 1 rm_X8_dropLast := C
  show gJ X V 0 0 0 [(0, .ref (V.2.1 10))] [] I J
  unfold wp_X8_dropLast at h
  refine j_aload_n (pc := 0) C dX8_dropLast_0 rfl 0 rfl ?_
  refine j_dup (pc := 1) C dX8_dropLast_1 rfl ?_
  refine j_getI (pc := 2) C 10 4 (c_10 hTS).1 (c_10 hTS).2 rfl rfl (by decide) inw_X8 wd_107 dX8_dropLast_2 ?_
  refine j_iconst (pc := 5) (v := 1) C dX8_dropLast_5 (by decide) ?_
  refine j_isub (pc := 6) C dX8_dropLast_6 ?_
  refine j_putI (pc := 7) (ft := .int) C tyX8 tyX8_ok nmX8 10 4 (c_10 hTS).1 (c_10 hTS).2 rfl rfl (by decide) inw_X8 wd_107 rfl (by decide +kernel) rfl rfl dX8_dropLast_7 ?_
  refine gJ.nmI (fun I1 eI1 => ?_)
  have h := h I1 eI1
  refine j_aload_n (pc := 10) C dX8_dropLast_10 rfl 0 rfl ?_
  refine j_getI (pc := 11) C 10 4 (c_10 hTS).1 (c_10 hTS).2 rfl rfl (by decide) inw_X8 wd_107 dX8_dropLast_11 ?_
  exact j_iret (pc := 14) C hR (Nat.zero_le _) (Nat.zero_le _) dX8_dropLast_14 ⟨_, rfl, rfl, rfl, h⟩
