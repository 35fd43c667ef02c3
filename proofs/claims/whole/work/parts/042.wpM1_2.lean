/-! TileRulesModel.inside(II)V -/
abbrev rm_X10_inside : Room := { frames := 1, cells := 0, slots := 0, locals := 23 }
theorem ok_X10_inside : gOk yX10_inside cX10_inside 5 none 2 := ⟨wd_1276, wd_74, by decide +kernel⟩
def w_X10_inside_116  (Po : gI → Prop) (K2 : Int32 → gI → Prop) (K13 : Int32 → gI → Prop) (v1 : Int32) (v2 : Int32) (v3 : Int32) (v4 : Int32) (I : gI) : Prop :=
  ∀ n8 : Int32, n8 = v4 + 1 → K13 n8 I
def w_X10_inside_76  (Po : gI → Prop) (K2 : Int32 → gI → Prop) (K13 : Int32 → gI → Prop) (v1 : Int32) (v2 : Int32) (v3 : Int32) (v4 : Int32) (I : gI) : Prop :=
  ((I 200 32) ≤ (v3 + (1 : Int32)) → w_X10_inside_116 Po K2 K13 v1 v2 v3 v4 I) ∧ (¬ (I 200 32) ≤ (v3 + (1 : Int32)) → wp_X10_at v1 v4 v3 I (fun r9 => wp_X10_at v1 v4 (v3 + (1 : Int32)) I (fun r10 => wp_X10_reach (((42 : Int32) + ((6 : Int32) * r9)) + r10) v2 I (fun I11 => w_X10_inside_116 Po K2 K13 v1 v2 v3 v4 I11))))
def w_X10_inside_13b  (Po : gI → Prop) (K2 : Int32 → gI → Prop) (K13 : Int32 → gI → Prop) (v1 : Int32) (v2 : Int32) (v3 : Int32) (v4 : Int32) (I : gI) : Prop :=
  ((I 200 32) ≤ v4 → ∀ n3 : Int32, n3 = v3 + 1 → K2 n3 I) ∧ (¬ (I 200 32) ≤ v4 → wp_X10_at v1 v4 v3 I (fun r4 => wp_X10_reach r4 v2 I (fun I5 => ((I5 200 32) ≤ (v4 + (1 : Int32)) → w_X10_inside_76 Po K2 K13 v1 v2 v3 v4 I5) ∧ (¬ (I5 200 32) ≤ (v4 + (1 : Int32)) → wp_X10_at v1 v4 v3 I5 (fun r12 => wp_X10_at v1 (v4 + (1 : Int32)) v3 I5 (fun r13 => wp_X10_reach (((6 : Int32) + ((6 : Int32) * r12)) + r13) v2 I5 (fun I14 => w_X10_inside_76 Po K2 K13 v1 v2 v3 v4 I14)))))))
def w_X10_inside_13  (Po : gI → Prop) (K2 : Int32 → gI → Prop) (v1 : Int32) (v2 : Int32) (v3 : Int32) (v4 : Int32) (I : gI) : Prop :=
  ∃ (Inv : Int32 → gI → Prop) (mu : Int32 → gI → Nat), Inv v4 I ∧ ∀ (v4 : Int32) (I : gI), Inv v4 I → w_X10_inside_13b  Po K2 (fun u4 I1 => Inv u4 I1 ∧ mu u4 I1 < mu v4 I) v1 v2 v3 v4 I
def w_X10_inside_2b  (Po : gI → Prop) (K2 : Int32 → gI → Prop) (v1 : Int32) (v2 : Int32) (v3 : Int32) (I : gI) : Prop :=
  ((I 200 32) ≤ v3 → Po I) ∧ (¬ (I 200 32) ≤ v3 → w_X10_inside_13 Po K2 v1 v2 v3 (0 : Int32) I)
def w_X10_inside_2  (Po : gI → Prop)  (v1 : Int32) (v2 : Int32) (v3 : Int32) (I : gI) : Prop :=
  ∃ (Inv : Int32 → gI → Prop) (mu : Int32 → gI → Nat), Inv v3 I ∧ ∀ (v3 : Int32) (I : gI), Inv v3 I → w_X10_inside_2b  Po  (fun u3 I1 => Inv u3 I1 ∧ mu u3 I1 < mu v3 I) v1 v2 v3 I
def wp_X10_inside (a1 : Int32) (a2 : Int32) (I : gI) (Po : gI → Prop) : Prop :=
  w_X10_inside_2 Po a1 a2 (0 : Int32) I
set_option maxRecDepth 100000 in
set_option maxHeartbeats 4000000 in
theorem t_X10_inside_116 {X : gX} {l : Launch} {D : va_G} {cy : Nat → ClassId} {nm : String} {V : gV} (hM : gModM V) (C : gC X cX10_inside RX10 none 5 rm_X10_inside) (hX : gIs X l D cy nm) {I : gI} {J : gL} {Po : gI → Prop} (hR : gR X (gPv V (fun I' J' => J = J' ∧ Po I'))) {v1 : Int32} {v2 : Int32} {v3 : Int32} {v4 : Int32} {K2 : Int32 → gI → Prop} {K13 : Int32 → gI → Prop} (hK2 : ∀ (y3 : Int32) (I1 : gI), K2 y3 I1 → gJ X V 0 0 2 [(0, .ref (V.2.1 200)), (1, .int v1), (2, .int v2), (3, .int y3)] [] I1 J) (hK13 : ∀ (y4 : Int32) (I1 : gI), K13 y4 I1 → gJ X V 0 0 13 [(0, .ref (V.2.1 200)), (1, .int v1), (2, .int v2), (3, .int v3), (4, .int y4)] [] I1 J) (h : w_X10_inside_116 Po K2 K13 v1 v2 v3 v4 I) : gJ X V 0 0 116 [(0, .ref (V.2.1 200)), (1, .int v1), (2, .int v2), (3, .int v3), (4, .int v4)] [] I J := by
  unfold w_X10_inside_116 at h
  obtain ⟨n8, en8⟩ : ∃ z : Int32, z = v4 + 1 := ⟨_, rfl⟩
  have h := h n8 en8
  refine j_iinc (pc := 116) (v := n8) (lv' := [(4, .int n8), (0, .ref (V.2.1 200)), (1, .int v1), (2, .int v2), (3, .int v3)]) C dX10_inside_116 4 rfl (by rw [en8]; rfl) (by decide) rfl ?_
  refine j_goto (pc := 119) (tgt := 13) C dX10_inside_119 (by decide) ?_
  refine gJ.sub [1, 2, 3, 4, 0] rfl ?_
  exact hK13 _ _ h
set_option maxRecDepth 100000 in
set_option maxHeartbeats 4000000 in
theorem t_X10_inside_76 {X : gX} {l : Launch} {D : va_G} {cy : Nat → ClassId} {nm : String} {V : gV} (hM : gModM V) (C : gC X cX10_inside RX10 none 5 rm_X10_inside) (hX : gIs X l D cy nm) {I : gI} {J : gL} {Po : gI → Prop} (hR : gR X (gPv V (fun I' J' => J = J' ∧ Po I'))) {v1 : Int32} {v2 : Int32} {v3 : Int32} {v4 : Int32} {K2 : Int32 → gI → Prop} {K13 : Int32 → gI → Prop} (hK2 : ∀ (y3 : Int32) (I1 : gI), K2 y3 I1 → gJ X V 0 0 2 [(0, .ref (V.2.1 200)), (1, .int v1), (2, .int v2), (3, .int y3)] [] I1 J) (hK13 : ∀ (y4 : Int32) (I1 : gI), K13 y4 I1 → gJ X V 0 0 13 [(0, .ref (V.2.1 200)), (1, .int v1), (2, .int v2), (3, .int v3), (4, .int y4)] [] I1 J) (h : w_X10_inside_76 Po K2 K13 v1 v2 v3 v4 I) : gJ X V 0 0 76 [(0, .ref (V.2.1 200)), (1, .int v1), (2, .int v2), (3, .int v3), (4, .int v4)] [] I J := by
  unfold w_X10_inside_76 at h
  refine j_iload_n (pc := 76) C dX10_inside_76 rfl 3 rfl ?_
  refine j_iconst (pc := 77) (v := 1) C dX10_inside_77 (by decide) ?_
  refine j_iadd (pc := 78) C dX10_inside_78 ?_
  refine j_aload_n (pc := 79) C dX10_inside_79 rfl 0 rfl ?_
  refine j_getI (pc := 80) C 200 32 (c_200 hM).1 (c_200 hM).2 rfl rfl (by decide) inw_X10 wd_998 dX10_inside_80 ?_
  refine j_icmp_ge (pc := 83) (tgt := 116) C dX10_inside_83 (by decide) (fun c7 => ?_) (fun c7 => ?_)
  · have h := h.1 c7
    refine gJ.sub [0, 1, 2, 3, 4] rfl ?_
    exact t_X10_inside_116 hM C hX hR  hK2 hK13 h
  · have h := h.2 c7
    refine j_aload_n (pc := 86) C dX10_inside_86 rfl 0 rfl ?_
    refine j_bipush (pc := 87) (v := 42) C dX10_inside_87 (by decide) ?_
    refine j_bipush (pc := 89) (v := 6) C dX10_inside_89 (by decide) ?_
    refine j_aload_n (pc := 91) C dX10_inside_91 rfl 0 rfl ?_
    refine j_iload_n (pc := 92) C dX10_inside_92 rfl 1 rfl ?_
    refine j_iload (pc := 93) C dX10_inside_93 4 rfl ?_
    refine j_iload_n (pc := 95) C dX10_inside_95 rfl 3 rfl ?_
    refine j_callV (pc := 96) (As := [.int v1, .int v4, .int v3]) (st := [.int (6 : Int32), .int (42 : Int32), .ref (V.2.1 200)]) C hX 200 (m_X10_at hM  h) (c_200 hM).1 (c_200 hM).2 rfl ok_X10_at wd_1249 wd_1251 wd_60 ⟨by decide, by decide⟩ rfl rfl (Nat.le_of_ble_eq_true rfl) ⟨Nat.le_refl 0, Nat.le_refl 0⟩ dX10_inside_96 (fun r V1 I1 J1 hp => ?_)
    obtain ⟨r9, rfl, rfl, rfl, rfl, h⟩ := hp
    show gJ X V 0 0 99 _ [.int r9, .int (6 : Int32), .int (42 : Int32), .ref (V.2.1 200)] _ _
    refine j_imul (pc := 99) C dX10_inside_99 ?_
    refine j_iadd (pc := 100) C dX10_inside_100 ?_
    refine j_aload_n (pc := 101) C dX10_inside_101 rfl 0 rfl ?_
    refine j_iload_n (pc := 102) C dX10_inside_102 rfl 1 rfl ?_
    refine j_iload (pc := 103) C dX10_inside_103 4 rfl ?_
    refine j_iload_n (pc := 105) C dX10_inside_105 rfl 3 rfl ?_
    refine j_iconst (pc := 106) (v := 1) C dX10_inside_106 (by decide) ?_
    refine j_iadd (pc := 107) C dX10_inside_107 ?_
    refine j_callV (pc := 108) (As := [.int v1, .int v4, .int (v3 + (1 : Int32))]) (st := [.int ((42 : Int32) + ((6 : Int32) * r9)), .ref (V.2.1 200)]) C hX 200 (m_X10_at hM  h) (c_200 hM).1 (c_200 hM).2 rfl ok_X10_at wd_1249 wd_1251 wd_60 ⟨by decide, by decide⟩ rfl rfl (Nat.le_of_ble_eq_true rfl) ⟨Nat.le_refl 0, Nat.le_refl 0⟩ dX10_inside_108 (fun r V1 I1 J1 hp => ?_)
    obtain ⟨r10, rfl, rfl, rfl, rfl, h⟩ := hp
    show gJ X V 0 0 111 _ [.int r10, .int ((42 : Int32) + ((6 : Int32) * r9)), .ref (V.2.1 200)] _ _
    refine j_iadd (pc := 111) C dX10_inside_111 ?_
    refine j_iload_n (pc := 112) C dX10_inside_112 rfl 2 rfl ?_
    refine j_callV (pc := 113) (As := [.int (((42 : Int32) + ((6 : Int32) * r9)) + r10), .int v2]) (st := []) C hX 200 (m_X10_reach hM  h) (c_200 hM).1 (c_200 hM).2 rfl ok_X10_reach wd_1277 wd_1279 wd_64 ⟨by decide, by decide⟩ rfl rfl (Nat.le_of_ble_eq_true rfl) ⟨Nat.le_refl 0, Nat.le_refl 0⟩ dX10_inside_113 (fun r V1 I11 J1 hp => ?_)
    obtain ⟨rfl, rfl, rfl, h⟩ := hp
    show gJ X V 0 0 116 _ [] _ _
    refine gJ.sub [0, 1, 2, 3, 4] rfl ?_
    exact t_X10_inside_116 hM C hX hR  hK2 hK13 h
set_option maxRecDepth 100000 in
set_option maxHeartbeats 4000000 in
theorem t_X10_inside_13b {X : gX} {l : Launch} {D : va_G} {cy : Nat → ClassId} {nm : String} {V : gV} (hM : gModM V) (C : gC X cX10_inside RX10 none 5 rm_X10_inside) (hX : gIs X l D cy nm) {I : gI} {J : gL} {Po : gI → Prop} (hR : gR X (gPv V (fun I' J' => J = J' ∧ Po I'))) {v1 : Int32} {v2 : Int32} {v3 : Int32} {v4 : Int32} {K2 : Int32 → gI → Prop} {K13 : Int32 → gI → Prop} (hK2 : ∀ (y3 : Int32) (I1 : gI), K2 y3 I1 → gJ X V 0 0 2 [(0, .ref (V.2.1 200)), (1, .int v1), (2, .int v2), (3, .int y3)] [] I1 J) (hK13 : ∀ (y4 : Int32) (I1 : gI), K13 y4 I1 → gJ X V 0 0 13 [(0, .ref (V.2.1 200)), (1, .int v1), (2, .int v2), (3, .int v3), (4, .int y4)] [] I1 J) (h : w_X10_inside_13b Po K2 K13 v1 v2 v3 v4 I) : gJ X V 0 0 13 [(0, .ref (V.2.1 200)), (1, .int v1), (2, .int v2), (3, .int v3), (4, .int v4)] [] I J := by
  unfold w_X10_inside_13b at h
  refine j_iload (pc := 13) C dX10_inside_13 4 rfl ?_
  refine j_aload_n (pc := 15) C dX10_inside_15 rfl 0 rfl ?_
  refine j_getI (pc := 16) C 200 32 (c_200 hM).1 (c_200 hM).2 rfl rfl (by decide) inw_X10 wd_998 dX10_inside_16 ?_
  refine j_icmp_ge (pc := 19) (tgt := 122) C dX10_inside_19 (by decide) (fun c2 => ?_) (fun c2 => ?_)
  · have h := h.1 c2
    obtain ⟨n3, en3⟩ : ∃ z : Int32, z = v3 + 1 := ⟨_, rfl⟩
    have h := h n3 en3
    refine j_iinc (pc := 122) (v := n3) (lv' := [(3, .int n3), (0, .ref (V.2.1 200)), (1, .int v1), (2, .int v2), (4, .int v4)]) C dX10_inside_122 3 rfl (by rw [en3]; rfl) (by decide) rfl ?_
    refine j_goto (pc := 125) (tgt := 2) C dX10_inside_125 (by decide) ?_
    refine gJ.sub [1, 2, 3, 0] rfl ?_
    exact hK2 _ _ h
  · have h := h.2 c2
    refine j_aload_n (pc := 22) C dX10_inside_22 rfl 0 rfl ?_
    refine j_aload_n (pc := 23) C dX10_inside_23 rfl 0 rfl ?_
    refine j_iload_n (pc := 24) C dX10_inside_24 rfl 1 rfl ?_
    refine j_iload (pc := 25) C dX10_inside_25 4 rfl ?_
    refine j_iload_n (pc := 27) C dX10_inside_27 rfl 3 rfl ?_
    refine j_callV (pc := 28) (As := [.int v1, .int v4, .int v3]) (st := [.ref (V.2.1 200)]) C hX 200 (m_X10_at hM  h) (c_200 hM).1 (c_200 hM).2 rfl ok_X10_at wd_1249 wd_1251 wd_60 ⟨by decide, by decide⟩ rfl rfl (Nat.le_of_ble_eq_true rfl) ⟨Nat.le_refl 0, Nat.le_refl 0⟩ dX10_inside_28 (fun r V1 I1 J1 hp => ?_)
    obtain ⟨r4, rfl, rfl, rfl, rfl, h⟩ := hp
    show gJ X V 0 0 31 _ [.int r4, .ref (V.2.1 200)] _ _
    refine j_iload_n (pc := 31) C dX10_inside_31 rfl 2 rfl ?_
    refine j_callV (pc := 32) (As := [.int r4, .int v2]) (st := []) C hX 200 (m_X10_reach hM  h) (c_200 hM).1 (c_200 hM).2 rfl ok_X10_reach wd_1277 wd_1279 wd_64 ⟨by decide, by decide⟩ rfl rfl (Nat.le_of_ble_eq_true rfl) ⟨Nat.le_refl 0, Nat.le_refl 0⟩ dX10_inside_32 (fun r V1 I5 J1 hp => ?_)
    obtain ⟨rfl, rfl, rfl, h⟩ := hp
    show gJ X V 0 0 35 _ [] _ _
    refine j_iload (pc := 35) C dX10_inside_35 4 rfl ?_
    refine j_iconst (pc := 37) (v := 1) C dX10_inside_37 (by decide) ?_
    refine j_iadd (pc := 38) C dX10_inside_38 ?_
    refine j_aload_n (pc := 39) C dX10_inside_39 rfl 0 rfl ?_
    refine j_getI (pc := 40) C 200 32 (c_200 hM).1 (c_200 hM).2 rfl rfl (by decide) inw_X10 wd_998 dX10_inside_40 ?_
    refine j_icmp_ge (pc := 43) (tgt := 76) C dX10_inside_43 (by decide) (fun c6 => ?_) (fun c6 => ?_)
    · have h := h.1 c6
      refine gJ.sub [0, 1, 2, 3, 4] rfl ?_
      exact t_X10_inside_76 hM C hX hR  hK2 hK13 h
    · have h := h.2 c6
      refine j_aload_n (pc := 46) C dX10_inside_46 rfl 0 rfl ?_
      refine j_bipush (pc := 47) (v := 6) C dX10_inside_47 (by decide) ?_
      refine j_bipush (pc := 49) (v := 6) C dX10_inside_49 (by decide) ?_
      refine j_aload_n (pc := 51) C dX10_inside_51 rfl 0 rfl ?_
      refine j_iload_n (pc := 52) C dX10_inside_52 rfl 1 rfl ?_
      refine j_iload (pc := 53) C dX10_inside_53 4 rfl ?_
      refine j_iload_n (pc := 55) C dX10_inside_55 rfl 3 rfl ?_
      refine j_callV (pc := 56) (As := [.int v1, .int v4, .int v3]) (st := [.int (6 : Int32), .int (6 : Int32), .ref (V.2.1 200)]) C hX 200 (m_X10_at hM  h) (c_200 hM).1 (c_200 hM).2 rfl ok_X10_at wd_1249 wd_1251 wd_60 ⟨by decide, by decide⟩ rfl rfl (Nat.le_of_ble_eq_true rfl) ⟨Nat.le_refl 0, Nat.le_refl 0⟩ dX10_inside_56 (fun r V1 I1 J1 hp => ?_)
      obtain ⟨r12, rfl, rfl, rfl, rfl, h⟩ := hp
      show gJ X V 0 0 59 _ [.int r12, .int (6 : Int32), .int (6 : Int32), .ref (V.2.1 200)] _ _
      refine j_imul (pc := 59) C dX10_inside_59 ?_
      refine j_iadd (pc := 60) C dX10_inside_60 ?_
      refine j_aload_n (pc := 61) C dX10_inside_61 rfl 0 rfl ?_
      refine j_iload_n (pc := 62) C dX10_inside_62 rfl 1 rfl ?_
      refine j_iload (pc := 63) C dX10_inside_63 4 rfl ?_
      refine j_iconst (pc := 65) (v := 1) C dX10_inside_65 (by decide) ?_
      refine j_iadd (pc := 66) C dX10_inside_66 ?_
      refine j_iload_n (pc := 67) C dX10_inside_67 rfl 3 rfl ?_
      refine j_callV (pc := 68) (As := [.int v1, .int (v4 + (1 : Int32)), .int v3]) (st := [.int ((6 : Int32) + ((6 : Int32) * r12)), .ref (V.2.1 200)]) C hX 200 (m_X10_at hM  h) (c_200 hM).1 (c_200 hM).2 rfl ok_X10_at wd_1249 wd_1251 wd_60 ⟨by decide, by decide⟩ rfl rfl (Nat.le_of_ble_eq_true rfl) ⟨Nat.le_refl 0, Nat.le_refl 0⟩ dX10_inside_68 (fun r V1 I1 J1 hp => ?_)
      obtain ⟨r13, rfl, rfl, rfl, rfl, h⟩ := hp
      show gJ X V 0 0 71 _ [.int r13, .int ((6 : Int32) + ((6 : Int32) * r12)), .ref (V.2.1 200)] _ _
      refine j_iadd (pc := 71) C dX10_inside_71 ?_
      refine j_iload_n (pc := 72) C dX10_inside_72 rfl 2 rfl ?_
      refine j_callV (pc := 73) (As := [.int (((6 : Int32) + ((6 : Int32) * r12)) + r13), .int v2]) (st := []) C hX 200 (m_X10_reach hM  h) (c_200 hM).1 (c_200 hM).2 rfl ok_X10_reach wd_1277 wd_1279 wd_64 ⟨by decide, by decide⟩ rfl rfl (Nat.le_of_ble_eq_true rfl) ⟨Nat.le_refl 0, Nat.le_refl 0⟩ dX10_inside_73 (fun r V1 I14 J1 hp => ?_)
      obtain ⟨rfl, rfl, rfl, h⟩ := hp
      show gJ X V 0 0 76 _ [] _ _
      refine gJ.sub [0, 1, 2, 3, 4] rfl ?_
      exact t_X10_inside_76 hM C hX hR  hK2 hK13 h
set_option maxRecDepth 100000 in
set_option maxHeartbeats 4000000 in
theorem t_X10_inside_13 {X : gX} {l : Launch} {D : va_G} {cy : Nat → ClassId} {nm : String} {V : gV} (hM : gModM V) (C : gC X cX10_inside RX10 none 5 rm_X10_inside) (hX : gIs X l D cy nm) {I : gI} {J : gL} {Po : gI → Prop} (hR : gR X (gPv V (fun I' J' => J = J' ∧ Po I'))) {v1 : Int32} {v2 : Int32} {v3 : Int32} {v4 : Int32} {K2 : Int32 → gI → Prop} (hK2 : ∀ (y3 : Int32) (I1 : gI), K2 y3 I1 → gJ X V 0 0 2 [(0, .ref (V.2.1 200)), (1, .int v1), (2, .int v2), (3, .int y3)] [] I1 J) (h : w_X10_inside_13 Po K2 v1 v2 v3 v4 I) : gJ X V 0 0 13 [(0, .ref (V.2.1 200)), (1, .int v1), (2, .int v2), (3, .int v3), (4, .int v4)] [] I J := by
  unfold w_X10_inside_13 at h
  obtain ⟨Inv, mu, h0, hs⟩ := h
  have key : ∀ (n : Nat) (v4 : Int32) (I : gI), Inv v4 I → mu v4 I < n → gJ X V 0 0 13 [(0, .ref (V.2.1 200)), (1, .int v1), (2, .int v2), (3, .int v3), (4, .int v4)] [] I J := by
    intro n
    induction n with
    | zero => intro v4 I hi hn; exact absurd hn (Nat.not_lt_zero _)
    | succ n ih =>
      intro v4 I hi hn
      exact t_X10_inside_13b hM C hX hR  hK2 (fun u4 I1 hk => ih u4 I1 hk.1 (Nat.lt_of_lt_of_le hk.2 (Nat.le_of_lt_succ hn))) (hs v4 I hi)
  exact key _ v4 I h0 (Nat.lt_succ_self _)
set_option maxRecDepth 100000 in
set_option maxHeartbeats 4000000 in
theorem t_X10_inside_2b {X : gX} {l : Launch} {D : va_G} {cy : Nat → ClassId} {nm : String} {V : gV} (hM : gModM V) (C : gC X cX10_inside RX10 none 5 rm_X10_inside) (hX : gIs X l D cy nm) {I : gI} {J : gL} {Po : gI → Prop} (hR : gR X (gPv V (fun I' J' => J = J' ∧ Po I'))) {v1 : Int32} {v2 : Int32} {v3 : Int32} {K2 : Int32 → gI → Prop} (hK2 : ∀ (y3 : Int32) (I1 : gI), K2 y3 I1 → gJ X V 0 0 2 [(0, .ref (V.2.1 200)), (1, .int v1), (2, .int v2), (3, .int y3)] [] I1 J) (h : w_X10_inside_2b Po K2 v1 v2 v3 I) : gJ X V 0 0 2 [(0, .ref (V.2.1 200)), (1, .int v1), (2, .int v2), (3, .int v3)] [] I J := by
  unfold w_X10_inside_2b at h
  refine j_iload_n (pc := 2) C dX10_inside_2 rfl 3 rfl ?_
  refine j_aload_n (pc := 3) C dX10_inside_3 rfl 0 rfl ?_
  refine j_getI (pc := 4) C 200 32 (c_200 hM).1 (c_200 hM).2 rfl rfl (by decide) inw_X10 wd_998 dX10_inside_4 ?_
  refine j_icmp_ge (pc := 7) (tgt := 128) C dX10_inside_7 (by decide) (fun c1 => ?_) (fun c1 => ?_)
  · have h := h.1 c1
    exact j_vret (pc := 128) C hR (Nat.zero_le _) (Nat.zero_le _) dX10_inside_128 ⟨rfl, rfl, rfl, h⟩
  · have h := h.2 c1
    refine j_iconst (pc := 10) (v := 0) C dX10_inside_10 (by decide) ?_
    refine j_istore (pc := 11) (lv' := [(4, .int (0 : Int32)), (0, .ref (V.2.1 200)), (1, .int v1), (2, .int v2), (3, .int v3)]) C dX10_inside_11 (by decide) rfl ?_
    refine gJ.sub [1, 2, 3, 4, 0] rfl ?_
    exact t_X10_inside_13 hM C hX hR  hK2 h
set_option maxRecDepth 100000 in
set_option maxHeartbeats 4000000 in
theorem t_X10_inside_2 {X : gX} {l : Launch} {D : va_G} {cy : Nat → ClassId} {nm : String} {V : gV} (hM : gModM V) (C : gC X cX10_inside RX10 none 5 rm_X10_inside) (hX : gIs X l D cy nm) {I : gI} {J : gL} {Po : gI → Prop} (hR : gR X (gPv V (fun I' J' => J = J' ∧ Po I'))) {v1 : Int32} {v2 : Int32} {v3 : Int32} (h : w_X10_inside_2 Po v1 v2 v3 I) : gJ X V 0 0 2 [(0, .ref (V.2.1 200)), (1, .int v1), (2, .int v2), (3, .int v3)] [] I J := by
  unfold w_X10_inside_2 at h
  obtain ⟨Inv, mu, h0, hs⟩ := h
  have key : ∀ (n : Nat) (v3 : Int32) (I : gI), Inv v3 I → mu v3 I < n → gJ X V 0 0 2 [(0, .ref (V.2.1 200)), (1, .int v1), (2, .int v2), (3, .int v3)] [] I J := by
    intro n
    induction n with
    | zero => intro v3 I hi hn; exact absurd hn (Nat.not_lt_zero _)
    | succ n ih =>
      intro v3 I hi hn
      exact t_X10_inside_2b hM C hX hR   (fun u3 I1 hk => ih u3 I1 hk.1 (Nat.lt_of_lt_of_le hk.2 (Nat.le_of_lt_succ hn))) (hs v3 I hi)
  exact key _ v3 I h0 (Nat.lt_succ_self _)
set_option maxRecDepth 100000 in
set_option maxHeartbeats 4000000 in
theorem m_X10_inside {l : Launch} {D : va_G} {cy : Nat → ClassId} {V : gV} (hM : gModM V) {a1 : Int32} {a2 : Int32} {I : gI} {J : gL} {Po : gI → Prop} (h : wp_X10_inside a1 a2 I Po) : gMet l D cy yX10_inside cX10_inside 5 none rm_X10_inside V [.ref (V.2.1 200), .int a1, .int a2] I J (gPv V (fun I' J' => J = J' ∧ Po I')) := by
  refine gMet.of (by decide) (Nat.le_of_ble_eq_true rfl) (fun X hX C hR => ?_)
  have C : gC X cX10_inside RX10 none 5 rm_X10_inside := C
  show gJ X V 0 0 0 [(0, .ref (V.2.1 200)), (1, .int a1), (2, .int a2)] [] I J
  unfold wp_X10_inside at h
  refine j_iconst (pc := 0) (v := 0) C dX10_inside_0 (by decide) ?_
  refine j_istore_n (pc := 1) (lv' := [(3, .int (0 : Int32)), (0, .ref (V.2.1 200)), (1, .int a1), (2, .int a2)]) C dX10_inside_1 rfl (by decide) rfl ?_
  refine gJ.sub [1, 2, 3, 0] rfl ?_
  exact t_X10_inside_2 hM C hX hR   h
/-! TileRulesModel.beside(IIII)I -/
abbrev rm_X10_beside : Room := { frames := 2, cells := 0, slots := 0, locals := 47 }
theorem ok_X10_beside : gOk yX10_beside cX10_beside 9 (some .int) 4 := ⟨wd_1272, wd_74, by decide +kernel⟩
def w_X10_beside_312  (Po : Int32 → gI → Prop)  (v2 : Int32) (v3 : Int32) (s0 : Int32) (I : gI) : Prop :=
  vp_in ((s0 + ((6 : Int32) * v2)) + v3) 78 ∧ Po (I 225 (((s0 + ((6 : Int32) * v2)) + v3)).toNatClampNeg) I
def w_X10_beside_278  (Po : Int32 → gI → Prop) (K71 : Int32 → gI → Prop) (K81 : Int32 → gI → Prop) (K115 : Int32 → gI → Prop) (v2 : Int32) (v3 : Int32) (v4 : Int32) (v5 : Int32) (v6 : Int32) (v7 : Int32) (I : gI) : Prop :=
  ∀ n25 : Int32, n25 = v7 + 1 → K115 n25 I
def w_X10_beside_227b  (Po : Int32 → gI → Prop) (K71 : Int32 → gI → Prop) (K81 : Int32 → gI → Prop) (K115 : Int32 → gI → Prop) (K227 : Int32 → gI → Prop) (v2 : Int32) (v3 : Int32) (v4 : Int32) (v5 : Int32) (v6 : Int32) (v7 : Int32) (v8 : Int32) (I : gI) : Prop :=
  ((I 200 32) ≤ v8 → w_X10_beside_278 Po K71 K81 K115 v2 v3 v4 v5 v6 v7 I) ∧ (¬ (I 200 32) ≤ v8 → wp_X10_at v6 v8 ((I 200 32) - (1 : Int32)) I (fun r27 => wp_X10_at v7 v8 (0 : Int32) I (fun r28 => wp_X10_reach (((42 : Int32) + ((6 : Int32) * r27)) + r28) v5 I (fun I29 => ∀ n30 : Int32, n30 = v8 + 1 → K227 n30 I29))))
def w_X10_beside_227  (Po : Int32 → gI → Prop) (K71 : Int32 → gI → Prop) (K81 : Int32 → gI → Prop) (K115 : Int32 → gI → Prop) (v2 : Int32) (v3 : Int32) (v4 : Int32) (v5 : Int32) (v6 : Int32) (v7 : Int32) (v8 : Int32) (I : gI) : Prop :=
  ∃ (Inv : Int32 → gI → Prop) (mu : Int32 → gI → Nat), Inv v8 I ∧ ∀ (v8 : Int32) (I : gI), Inv v8 I → w_X10_beside_227b  Po K71 K81 K115 (fun u8 I1 => Inv u8 I1 ∧ mu u8 I1 < mu v8 I) v2 v3 v4 v5 v6 v7 v8 I
def w_X10_beside_201  (Po : Int32 → gI → Prop) (K71 : Int32 → gI → Prop) (K81 : Int32 → gI → Prop) (K115 : Int32 → gI → Prop) (v2 : Int32) (v3 : Int32) (v4 : Int32) (v5 : Int32) (v6 : Int32) (v7 : Int32) (I : gI) : Prop :=
  vp_in (((42 : Int32) + ((6 : Int32) * v6)) + v7) 78 ∧ (¬ (I 225 ((((42 : Int32) + ((6 : Int32) * v6)) + v7)).toNatClampNeg) = (v5 - (1 : Int32)) → w_X10_beside_278 Po K71 K81 K115 v2 v3 v4 v5 v6 v7 I) ∧ ((I 225 ((((42 : Int32) + ((6 : Int32) * v6)) + v7)).toNatClampNeg) = (v5 - (1 : Int32)) → w_X10_beside_227 Po K71 K81 K115 v2 v3 v4 v5 v6 v7 (0 : Int32) I)
def w_X10_beside_150b  (Po : Int32 → gI → Prop) (K71 : Int32 → gI → Prop) (K81 : Int32 → gI → Prop) (K115 : Int32 → gI → Prop) (K150 : Int32 → gI → Prop) (v2 : Int32) (v3 : Int32) (v4 : Int32) (v5 : Int32) (v6 : Int32) (v7 : Int32) (v8 : Int32) (I : gI) : Prop :=
  ((I 200 32) ≤ v8 → w_X10_beside_201 Po K71 K81 K115 v2 v3 v4 v5 v6 v7 I) ∧ (¬ (I 200 32) ≤ v8 → wp_X10_at v6 ((I 200 32) - (1 : Int32)) v8 I (fun r32 => wp_X10_at v7 (0 : Int32) v8 I (fun r33 => wp_X10_reach (((6 : Int32) + ((6 : Int32) * r32)) + r33) v5 I (fun I34 => ∀ n35 : Int32, n35 = v8 + 1 → K150 n35 I34))))
def w_X10_beside_150  (Po : Int32 → gI → Prop) (K71 : Int32 → gI → Prop) (K81 : Int32 → gI → Prop) (K115 : Int32 → gI → Prop) (v2 : Int32) (v3 : Int32) (v4 : Int32) (v5 : Int32) (v6 : Int32) (v7 : Int32) (v8 : Int32) (I : gI) : Prop :=
  ∃ (Inv : Int32 → gI → Prop) (mu : Int32 → gI → Nat), Inv v8 I ∧ ∀ (v8 : Int32) (I : gI), Inv v8 I → w_X10_beside_150b  Po K71 K81 K115 (fun u8 I1 => Inv u8 I1 ∧ mu u8 I1 < mu v8 I) v2 v3 v4 v5 v6 v7 v8 I
def w_X10_beside_115b  (Po : Int32 → gI → Prop) (K71 : Int32 → gI → Prop) (K81 : Int32 → gI → Prop) (K115 : Int32 → gI → Prop) (v2 : Int32) (v3 : Int32) (v4 : Int32) (v5 : Int32) (v6 : Int32) (v7 : Int32) (I : gI) : Prop :=
  ((I 200 31) ≤ v7 → ∀ n20 : Int32, n20 = v6 + 1 → K81 n20 I) ∧ (¬ (I 200 31) ≤ v7 → vp_in (((6 : Int32) + ((6 : Int32) * v6)) + v7) 78 ∧ (¬ (I 225 ((((6 : Int32) + ((6 : Int32) * v6)) + v7)).toNatClampNeg) = (v5 - (1 : Int32)) → w_X10_beside_201 Po K71 K81 K115 v2 v3 v4 v5 v6 v7 I) ∧ ((I 225 ((((6 : Int32) + ((6 : Int32) * v6)) + v7)).toNatClampNeg) = (v5 - (1 : Int32)) → w_X10_beside_150 Po K71 K81 K115 v2 v3 v4 v5 v6 v7 (0 : Int32) I))
def w_X10_beside_115  (Po : Int32 → gI → Prop) (K71 : Int32 → gI → Prop) (K81 : Int32 → gI → Prop) (v2 : Int32) (v3 : Int32) (v4 : Int32) (v5 : Int32) (v6 : Int32) (v7 : Int32) (I : gI) : Prop :=
  ∃ (Inv : Int32 → gI → Prop) (mu : Int32 → gI → Nat), Inv v7 I ∧ ∀ (v7 : Int32) (I : gI), Inv v7 I → w_X10_beside_115b  Po K71 K81 (fun u7 I1 => Inv u7 I1 ∧ mu u7 I1 < mu v7 I) v2 v3 v4 v5 v6 v7 I
def w_X10_beside_112  (Po : Int32 → gI → Prop) (K71 : Int32 → gI → Prop) (K81 : Int32 → gI → Prop) (v2 : Int32) (v3 : Int32) (v4 : Int32) (v5 : Int32) (v6 : Int32) (I : gI) : Prop :=
  w_X10_beside_115 Po K71 K81 v2 v3 v4 v5 v6 (0 : Int32) I
def w_X10_beside_81b  (Po : Int32 → gI → Prop) (K71 : Int32 → gI → Prop) (K81 : Int32 → gI → Prop) (v2 : Int32) (v3 : Int32) (v4 : Int32) (v5 : Int32) (v6 : Int32) (I : gI) : Prop :=
  ((I 200 31) ≤ v6 → ∀ n16 : Int32, n16 = v5 + 1 → K71 n16 I) ∧ (¬ (I 200 31) ≤ v6 → vp_in v6 78 ∧ (¬ (I 225 (v6).toNatClampNeg) = (v5 - (1 : Int32)) → w_X10_beside_112 Po K71 K81 v2 v3 v4 v5 v6 I) ∧ ((I 225 (v6).toNatClampNeg) = (v5 - (1 : Int32)) → wp_X10_inside v6 v5 I (fun I36 => w_X10_beside_112 Po K71 K81 v2 v3 v4 v5 v6 I36)))
def w_X10_beside_81  (Po : Int32 → gI → Prop) (K71 : Int32 → gI → Prop) (v2 : Int32) (v3 : Int32) (v4 : Int32) (v5 : Int32) (v6 : Int32) (I : gI) : Prop :=
  ∃ (Inv : Int32 → gI → Prop) (mu : Int32 → gI → Nat), Inv v6 I ∧ ∀ (v6 : Int32) (I : gI), Inv v6 I → w_X10_beside_81b  Po K71 (fun u6 I1 => Inv u6 I1 ∧ mu u6 I1 < mu v6 I) v2 v3 v4 v5 v6 I
def w_X10_beside_71b  (Po : Int32 → gI → Prop) (K71 : Int32 → gI → Prop) (v2 : Int32) (v3 : Int32) (v4 : Int32) (v5 : Int32) (I : gI) : Prop :=
  ((90 : Int32) ≤ v5 → (¬ v4 = 0 → w_X10_beside_312 Po v2 v3 (42 : Int32) I) ∧ (v4 = 0 → w_X10_beside_312 Po v2 v3 (6 : Int32) I)) ∧ (¬ (90 : Int32) ≤ v5 → w_X10_beside_81 Po K71 v2 v3 v4 v5 (0 : Int32) I)
def w_X10_beside_71  (Po : Int32 → gI → Prop)  (v2 : Int32) (v3 : Int32) (v4 : Int32) (v5 : Int32) (I : gI) : Prop :=
  ∃ (Inv : Int32 → gI → Prop) (mu : Int32 → gI → Nat), Inv v5 I ∧ ∀ (v5 : Int32) (I : gI), Inv v5 I → w_X10_beside_71b  Po  (fun u5 I1 => Inv u5 I1 ∧ mu u5 I1 < mu v5 I) v2 v3 v4 v5 I
def w_X10_beside_40b  (Po : Int32 → gI → Prop) (K40 : Int32 → gI → Prop) (v1 : Int32) (v2 : Int32) (v3 : Int32) (v4 : Int32) (v5 : Int32) (I : gI) : Prop :=
  ((78 : Int32) ≤ v5 → vp_in v1 78 ∧ ∀ I11 : gI, I11 = gup I 225 (v1).toNatClampNeg (0 : Int32) → w_X10_beside_71 Po v2 v3 v4 (1 : Int32) I11) ∧ (¬ (78 : Int32) ≤ v5 → vp_in v5 78 ∧ ∀ I38 : gI, I38 = gup I 225 (v5).toNatClampNeg (-1 : Int32) → ∀ n39 : Int32, n39 = v5 + 1 → K40 n39 I38)
def w_X10_beside_40  (Po : Int32 → gI → Prop)  (v1 : Int32) (v2 : Int32) (v3 : Int32) (v4 : Int32) (v5 : Int32) (I : gI) : Prop :=
  ∃ (Inv : Int32 → gI → Prop) (mu : Int32 → gI → Nat), Inv v5 I ∧ ∀ (v5 : Int32) (I : gI), Inv v5 I → w_X10_beside_40b  Po  (fun u5 I1 => Inv u5 I1 ∧ mu u5 I1 < mu v5 I) v1 v2 v3 v4 v5 I
def wp_X10_beside (a1 : Int32) (a2 : Int32) (a3 : Int32) (a4 : Int32) (I : gI) (Po : Int32 → gI → Prop) : Prop :=
  wp_X10_isLetter a1 I (fun r1 => (r1 = 0 → Po (-2 : Int32) I) ∧ (¬ r1 = 0 → wp_X10_isLetter a2 I (fun r3 => (r3 = 0 → Po (-2 : Int32) I) ∧ (¬ r3 = 0 → wp_X10_isLetter a3 I (fun r5 => (r5 = 0 → Po (-2 : Int32) I) ∧ (¬ r5 = 0 → wp_X10_isIn a4 (0 : Int32) (1 : Int32) (fun r7 => (¬ r7 = 0 → w_X10_beside_40 Po a1 a2 a3 a4 (0 : Int32) I) ∧ (r7 = 0 → Po (-2 : Int32) I))))))))
set_option maxRecDepth 100000 in
set_option maxHeartbeats 4000000 in
theorem t_X10_beside_312 {X : gX} {l : Launch} {D : va_G} {cy : Nat → ClassId} {nm : String} {V : gV} (hM : gModM V) (C : gC X cX10_beside RX10 (some .int) 9 rm_X10_beside) (hX : gIs X l D cy nm) {I : gI} {J : gL} {Po : Int32 → gI → Prop} (hR : gR X (gPi V (fun x I' J' => J = J' ∧ Po x I'))) {v2 : Int32} {v3 : Int32} {s0 : Int32} (h : w_X10_beside_312 Po v2 v3 s0 I) : gJ X V 0 0 312 [(2, .int v2), (3, .int v3)] [.int s0, .ref (V.2.1 225)] I J := by
  unfold w_X10_beside_312 at h
  refine j_bipush (pc := 312) (v := 6) C dX10_beside_312 (by decide) ?_
  refine j_iload_n (pc := 314) C dX10_beside_314 rfl 0 rfl ?_
  refine j_imul (pc := 315) C dX10_beside_315 ?_
  refine j_iadd (pc := 316) C dX10_beside_316 ?_
  refine j_iload_n (pc := 317) C dX10_beside_317 rfl 1 rfl ?_
  refine j_iadd (pc := 318) C dX10_beside_318 ?_
  obtain ⟨g14, h⟩ := h
  refine j_iald (pc := 319) C 225 (c_225 hM).1 (c_225 hM).2 g14 dX10_beside_319 ?_
  exact j_iret (pc := 320) C hR (Nat.zero_le _) (Nat.zero_le _) dX10_beside_320 ⟨_, rfl, rfl, rfl, h⟩
set_option maxRecDepth 100000 in
set_option maxHeartbeats 4000000 in
theorem t_X10_beside_278 {X : gX} {l : Launch} {D : va_G} {cy : Nat → ClassId} {nm : String} {V : gV} (hM : gModM V) (C : gC X cX10_beside RX10 (some .int) 9 rm_X10_beside) (hX : gIs X l D cy nm) {I : gI} {J : gL} {Po : Int32 → gI → Prop} (hR : gR X (gPi V (fun x I' J' => J = J' ∧ Po x I'))) {v2 : Int32} {v3 : Int32} {v4 : Int32} {v5 : Int32} {v6 : Int32} {v7 : Int32} {K71 : Int32 → gI → Prop} {K81 : Int32 → gI → Prop} {K115 : Int32 → gI → Prop} (hK71 : ∀ (y5 : Int32) (I1 : gI), K71 y5 I1 → gJ X V 0 0 71 [(0, .ref (V.2.1 200)), (2, .int v2), (3, .int v3), (4, .int v4), (5, .int y5)] [] I1 J) (hK81 : ∀ (y6 : Int32) (I1 : gI), K81 y6 I1 → gJ X V 0 0 81 [(0, .ref (V.2.1 200)), (2, .int v2), (3, .int v3), (4, .int v4), (5, .int v5), (6, .int y6)] [] I1 J) (hK115 : ∀ (y7 : Int32) (I1 : gI), K115 y7 I1 → gJ X V 0 0 115 [(0, .ref (V.2.1 200)), (2, .int v2), (3, .int v3), (4, .int v4), (5, .int v5), (6, .int v6), (7, .int y7)] [] I1 J) (h : w_X10_beside_278 Po K71 K81 K115 v2 v3 v4 v5 v6 v7 I) : gJ X V 0 0 278 [(0, .ref (V.2.1 200)), (2, .int v2), (3, .int v3), (4, .int v4), (5, .int v5), (6, .int v6), (7, .int v7)] [] I J := by
  unfold w_X10_beside_278 at h
  obtain ⟨n25, en25⟩ : ∃ z : Int32, z = v7 + 1 := ⟨_, rfl⟩
  have h := h n25 en25
  refine j_iinc (pc := 278) (v := n25) (lv' := [(7, .int n25), (0, .ref (V.2.1 200)), (2, .int v2), (3, .int v3), (4, .int v4), (5, .int v5), (6, .int v6)]) C dX10_beside_278 6 rfl (by rw [en25]; rfl) (by decide) rfl ?_
  refine j_goto (pc := 281) (tgt := 115) C dX10_beside_281 (by decide) ?_
  refine gJ.sub [1, 2, 3, 4, 5, 6, 0] rfl ?_
  exact hK115 _ _ h
set_option maxRecDepth 100000 in
set_option maxHeartbeats 4000000 in
theorem t_X10_beside_227b {X : gX} {l : Launch} {D : va_G} {cy : Nat → ClassId} {nm : String} {V : gV} (hM : gModM V) (C : gC X cX10_beside RX10 (some .int) 9 rm_X10_beside) (hX : gIs X l D cy nm) {I : gI} {J : gL} {Po : Int32 → gI → Prop} (hR : gR X (gPi V (fun x I' J' => J = J' ∧ Po x I'))) {v2 : Int32} {v3 : Int32} {v4 : Int32} {v5 : Int32} {v6 : Int32} {v7 : Int32} {v8 : Int32} {K71 : Int32 → gI → Prop} {K81 : Int32 → gI → Prop} {K115 : Int32 → gI → Prop} {K227 : Int32 → gI → Prop} (hK71 : ∀ (y5 : Int32) (I1 : gI), K71 y5 I1 → gJ X V 0 0 71 [(0, .ref (V.2.1 200)), (2, .int v2), (3, .int v3), (4, .int v4), (5, .int y5)] [] I1 J) (hK81 : ∀ (y6 : Int32) (I1 : gI), K81 y6 I1 → gJ X V 0 0 81 [(0, .ref (V.2.1 200)), (2, .int v2), (3, .int v3), (4, .int v4), (5, .int v5), (6, .int y6)] [] I1 J) (hK115 : ∀ (y7 : Int32) (I1 : gI), K115 y7 I1 → gJ X V 0 0 115 [(0, .ref (V.2.1 200)), (2, .int v2), (3, .int v3), (4, .int v4), (5, .int v5), (6, .int v6), (7, .int y7)] [] I1 J) (hK227 : ∀ (y8 : Int32) (I1 : gI), K227 y8 I1 → gJ X V 0 0 227 [(0, .ref (V.2.1 200)), (2, .int v2), (3, .int v3), (4, .int v4), (5, .int v5), (6, .int v6), (7, .int v7), (8, .int y8)] [] I1 J) (h : w_X10_beside_227b Po K71 K81 K115 K227 v2 v3 v4 v5 v6 v7 v8 I) : gJ X V 0 0 227 [(0, .ref (V.2.1 200)), (2, .int v2), (3, .int v3), (4, .int v4), (5, .int v5), (6, .int v6), (7, .int v7), (8, .int v8)] [] I J := by
  unfold w_X10_beside_227b at h
  refine j_iload (pc := 227) C dX10_beside_227 7 rfl ?_
  refine j_aload_n (pc := 229) C dX10_beside_229 rfl 0 rfl ?_
  refine j_getI (pc := 230) C 200 32 (c_200 hM).1 (c_200 hM).2 rfl rfl (by decide) inw_X10 wd_998 dX10_beside_230 ?_
  refine j_icmp_ge (pc := 233) (tgt := 278) C dX10_beside_233 (by decide) (fun c26 => ?_) (fun c26 => ?_)
  · have h := h.1 c26
    refine gJ.sub [0, 1, 2, 3, 4, 5, 6] rfl ?_
    exact t_X10_beside_278 hM C hX hR  hK71 hK81 hK115 h
  · have h := h.2 c26
    refine j_aload_n (pc := 236) C dX10_beside_236 rfl 0 rfl ?_
    refine j_bipush (pc := 237) (v := 42) C dX10_beside_237 (by decide) ?_
    refine j_bipush (pc := 239) (v := 6) C dX10_beside_239 (by decide) ?_
    refine j_aload_n (pc := 241) C dX10_beside_241 rfl 0 rfl ?_
    refine j_iload (pc := 242) C dX10_beside_242 5 rfl ?_
    refine j_iload (pc := 244) C dX10_beside_244 7 rfl ?_
    refine j_aload_n (pc := 246) C dX10_beside_246 rfl 0 rfl ?_
    refine j_getI (pc := 247) C 200 32 (c_200 hM).1 (c_200 hM).2 rfl rfl (by decide) inw_X10 wd_998 dX10_beside_247 ?_
    refine j_iconst (pc := 250) (v := 1) C dX10_beside_250 (by decide) ?_
    refine j_isub (pc := 251) C dX10_beside_251 ?_
    refine j_callV (pc := 252) (As := [.int v6, .int v8, .int ((I 200 32) - (1 : Int32))]) (st := [.int (6 : Int32), .int (42 : Int32), .ref (V.2.1 200)]) C hX 200 (m_X10_at hM  h) (c_200 hM).1 (c_200 hM).2 rfl ok_X10_at wd_1249 wd_1251 wd_60 ⟨by decide, by decide⟩ rfl rfl (Nat.le_of_ble_eq_true rfl) ⟨Nat.le_refl 0, Nat.le_refl 0⟩ dX10_beside_252 (fun r V1 I1 J1 hp => ?_)
    obtain ⟨r27, rfl, rfl, rfl, rfl, h⟩ := hp
    show gJ X V 0 0 255 _ [.int r27, .int (6 : Int32), .int (42 : Int32), .ref (V.2.1 200)] _ _
    refine j_imul (pc := 255) C dX10_beside_255 ?_
    refine j_iadd (pc := 256) C dX10_beside_256 ?_
    refine j_aload_n (pc := 257) C dX10_beside_257 rfl 0 rfl ?_
    refine j_iload (pc := 258) C dX10_beside_258 6 rfl ?_
    refine j_iload (pc := 260) C dX10_beside_260 7 rfl ?_
    refine j_iconst (pc := 262) (v := 0) C dX10_beside_262 (by decide) ?_
    refine j_callV (pc := 263) (As := [.int v7, .int v8, .int (0 : Int32)]) (st := [.int ((42 : Int32) + ((6 : Int32) * r27)), .ref (V.2.1 200)]) C hX 200 (m_X10_at hM  h) (c_200 hM).1 (c_200 hM).2 rfl ok_X10_at wd_1249 wd_1251 wd_60 ⟨by decide, by decide⟩ rfl rfl (Nat.le_of_ble_eq_true rfl) ⟨Nat.le_refl 0, Nat.le_refl 0⟩ dX10_beside_263 (fun r V1 I1 J1 hp => ?_)
    obtain ⟨r28, rfl, rfl, rfl, rfl, h⟩ := hp
    show gJ X V 0 0 266 _ [.int r28, .int ((42 : Int32) + ((6 : Int32) * r27)), .ref (V.2.1 200)] _ _
    refine j_iadd (pc := 266) C dX10_beside_266 ?_
    refine j_iload (pc := 267) C dX10_beside_267 4 rfl ?_
    refine j_callV (pc := 269) (As := [.int (((42 : Int32) + ((6 : Int32) * r27)) + r28), .int v5]) (st := []) C hX 200 (m_X10_reach hM  h) (c_200 hM).1 (c_200 hM).2 rfl ok_X10_reach wd_1277 wd_1279 wd_64 ⟨by decide, by decide⟩ rfl rfl (Nat.le_of_ble_eq_true rfl) ⟨Nat.le_refl 0, Nat.le_refl 0⟩ dX10_beside_269 (fun r V1 I29 J1 hp => ?_)
    obtain ⟨rfl, rfl, rfl, h⟩ := hp
    show gJ X V 0 0 272 _ [] _ _
    obtain ⟨n30, en30⟩ : ∃ z : Int32, z = v8 + 1 := ⟨_, rfl⟩
    have h := h n30 en30
    refine j_iinc (pc := 272) (v := n30) (lv' := [(8, .int n30), (0, .ref (V.2.1 200)), (2, .int v2), (3, .int v3), (4, .int v4), (5, .int v5), (6, .int v6), (7, .int v7)]) C dX10_beside_272 7 rfl (by rw [en30]; rfl) (by decide) rfl ?_
    refine j_goto (pc := 275) (tgt := 227) C dX10_beside_275 (by decide) ?_
    refine gJ.sub [1, 2, 3, 4, 5, 6, 7, 0] rfl ?_
    exact hK227 _ _ h
set_option maxRecDepth 100000 in
set_option maxHeartbeats 4000000 in
theorem t_X10_beside_227 {X : gX} {l : Launch} {D : va_G} {cy : Nat → ClassId} {nm : String} {V : gV} (hM : gModM V) (C : gC X cX10_beside RX10 (some .int) 9 rm_X10_beside) (hX : gIs X l D cy nm) {I : gI} {J : gL} {Po : Int32 → gI → Prop} (hR : gR X (gPi V (fun x I' J' => J = J' ∧ Po x I'))) {v2 : Int32} {v3 : Int32} {v4 : Int32} {v5 : Int32} {v6 : Int32} {v7 : Int32} {v8 : Int32} {K71 : Int32 → gI → Prop} {K81 : Int32 → gI → Prop} {K115 : Int32 → gI → Prop} (hK71 : ∀ (y5 : Int32) (I1 : gI), K71 y5 I1 → gJ X V 0 0 71 [(0, .ref (V.2.1 200)), (2, .int v2), (3, .int v3), (4, .int v4), (5, .int y5)] [] I1 J) (hK81 : ∀ (y6 : Int32) (I1 : gI), K81 y6 I1 → gJ X V 0 0 81 [(0, .ref (V.2.1 200)), (2, .int v2), (3, .int v3), (4, .int v4), (5, .int v5), (6, .int y6)] [] I1 J) (hK115 : ∀ (y7 : Int32) (I1 : gI), K115 y7 I1 → gJ X V 0 0 115 [(0, .ref (V.2.1 200)), (2, .int v2), (3, .int v3), (4, .int v4), (5, .int v5), (6, .int v6), (7, .int y7)] [] I1 J) (h : w_X10_beside_227 Po K71 K81 K115 v2 v3 v4 v5 v6 v7 v8 I) : gJ X V 0 0 227 [(0, .ref (V.2.1 200)), (2, .int v2), (3, .int v3), (4, .int v4), (5, .int v5), (6, .int v6), (7, .int v7), (8, .int v8)] [] I J := by
  unfold w_X10_beside_227 at h
  obtain ⟨Inv, mu, h0, hs⟩ := h
  have key : ∀ (n : Nat) (v8 : Int32) (I : gI), Inv v8 I → mu v8 I < n → gJ X V 0 0 227 [(0, .ref (V.2.1 200)), (2, .int v2), (3, .int v3), (4, .int v4), (5, .int v5), (6, .int v6), (7, .int v7), (8, .int v8)] [] I J := by
    intro n
    induction n with
    | zero => intro v8 I hi hn; exact absurd hn (Nat.not_lt_zero _)
    | succ n ih =>
      intro v8 I hi hn
      exact t_X10_beside_227b hM C hX hR  hK71 hK81 hK115 (fun u8 I1 hk => ih u8 I1 hk.1 (Nat.lt_of_lt_of_le hk.2 (Nat.le_of_lt_succ hn))) (hs v8 I hi)
  exact key _ v8 I h0 (Nat.lt_succ_self _)
set_option maxRecDepth 100000 in
set_option maxHeartbeats 4000000 in
theorem t_X10_beside_201 {X : gX} {l : Launch} {D : va_G} {cy : Nat → ClassId} {nm : String} {V : gV} (hM : gModM V) (C : gC X cX10_beside RX10 (some .int) 9 rm_X10_beside) (hX : gIs X l D cy nm) {I : gI} {J : gL} {Po : Int32 → gI → Prop} (hR : gR X (gPi V (fun x I' J' => J = J' ∧ Po x I'))) {v2 : Int32} {v3 : Int32} {v4 : Int32} {v5 : Int32} {v6 : Int32} {v7 : Int32} {K71 : Int32 → gI → Prop} {K81 : Int32 → gI → Prop} {K115 : Int32 → gI → Prop} (hK71 : ∀ (y5 : Int32) (I1 : gI), K71 y5 I1 → gJ X V 0 0 71 [(0, .ref (V.2.1 200)), (2, .int v2), (3, .int v3), (4, .int v4), (5, .int y5)] [] I1 J) (hK81 : ∀ (y6 : Int32) (I1 : gI), K81 y6 I1 → gJ X V 0 0 81 [(0, .ref (V.2.1 200)), (2, .int v2), (3, .int v3), (4, .int v4), (5, .int v5), (6, .int y6)] [] I1 J) (hK115 : ∀ (y7 : Int32) (I1 : gI), K115 y7 I1 → gJ X V 0 0 115 [(0, .ref (V.2.1 200)), (2, .int v2), (3, .int v3), (4, .int v4), (5, .int v5), (6, .int v6), (7, .int y7)] [] I1 J) (h : w_X10_beside_201 Po K71 K81 K115 v2 v3 v4 v5 v6 v7 I) : gJ X V 0 0 201 [(0, .ref (V.2.1 200)), (2, .int v2), (3, .int v3), (4, .int v4), (5, .int v5), (6, .int v6), (7, .int v7)] [] I J := by
  unfold w_X10_beside_201 at h
  refine j_aload_n (pc := 201) C dX10_beside_201 rfl 0 rfl ?_
  refine j_getR (pc := 202) C 200 36 225 (c_200 hM).1 (c_200 hM).2 rfl rfl (by decide) inw_X10 wd_1002 dX10_beside_202 ?_
  refine j_bipush (pc := 205) (v := 42) C dX10_beside_205 (by decide) ?_
  refine j_bipush (pc := 207) (v := 6) C dX10_beside_207 (by decide) ?_
  refine j_iload (pc := 209) C dX10_beside_209 5 rfl ?_
  refine j_imul (pc := 211) C dX10_beside_211 ?_
  refine j_iadd (pc := 212) C dX10_beside_212 ?_
  refine j_iload (pc := 213) C dX10_beside_213 6 rfl ?_
  refine j_iadd (pc := 215) C dX10_beside_215 ?_
  obtain ⟨g23, h⟩ := h
  refine j_iald (pc := 216) C 225 (c_225 hM).1 (c_225 hM).2 g23 dX10_beside_216 ?_
  refine j_iload (pc := 217) C dX10_beside_217 4 rfl ?_
  refine j_iconst (pc := 219) (v := 1) C dX10_beside_219 (by decide) ?_
  refine j_isub (pc := 220) C dX10_beside_220 ?_
  refine j_icmp_ne (pc := 221) (tgt := 278) C dX10_beside_221 (by decide) (fun c24 => ?_) (fun c24 => ?_)
  · have h := h.1 c24
    refine gJ.sub [0, 1, 2, 3, 4, 5, 6] rfl ?_
    exact t_X10_beside_278 hM C hX hR  hK71 hK81 hK115 h
  · have h := h.2 c24
    refine j_iconst (pc := 224) (v := 0) C dX10_beside_224 (by decide) ?_
    refine j_istore (pc := 225) (lv' := [(8, .int (0 : Int32)), (0, .ref (V.2.1 200)), (2, .int v2), (3, .int v3), (4, .int v4), (5, .int v5), (6, .int v6), (7, .int v7)]) C dX10_beside_225 (by decide) rfl ?_
    refine gJ.sub [1, 2, 3, 4, 5, 6, 7, 0] rfl ?_
    exact t_X10_beside_227 hM C hX hR  hK71 hK81 hK115 h
set_option maxRecDepth 100000 in
set_option maxHeartbeats 4000000 in
theorem t_X10_beside_150b {X : gX} {l : Launch} {D : va_G} {cy : Nat → ClassId} {nm : String} {V : gV} (hM : gModM V) (C : gC X cX10_beside RX10 (some .int) 9 rm_X10_beside) (hX : gIs X l D cy nm) {I : gI} {J : gL} {Po : Int32 → gI → Prop} (hR : gR X (gPi V (fun x I' J' => J = J' ∧ Po x I'))) {v2 : Int32} {v3 : Int32} {v4 : Int32} {v5 : Int32} {v6 : Int32} {v7 : Int32} {v8 : Int32} {K71 : Int32 → gI → Prop} {K81 : Int32 → gI → Prop} {K115 : Int32 → gI → Prop} {K150 : Int32 → gI → Prop} (hK71 : ∀ (y5 : Int32) (I1 : gI), K71 y5 I1 → gJ X V 0 0 71 [(0, .ref (V.2.1 200)), (2, .int v2), (3, .int v3), (4, .int v4), (5, .int y5)] [] I1 J) (hK81 : ∀ (y6 : Int32) (I1 : gI), K81 y6 I1 → gJ X V 0 0 81 [(0, .ref (V.2.1 200)), (2, .int v2), (3, .int v3), (4, .int v4), (5, .int v5), (6, .int y6)] [] I1 J) (hK115 : ∀ (y7 : Int32) (I1 : gI), K115 y7 I1 → gJ X V 0 0 115 [(0, .ref (V.2.1 200)), (2, .int v2), (3, .int v3), (4, .int v4), (5, .int v5), (6, .int v6), (7, .int y7)] [] I1 J) (hK150 : ∀ (y8 : Int32) (I1 : gI), K150 y8 I1 → gJ X V 0 0 150 [(0, .ref (V.2.1 200)), (2, .int v2), (3, .int v3), (4, .int v4), (5, .int v5), (6, .int v6), (7, .int v7), (8, .int y8)] [] I1 J) (h : w_X10_beside_150b Po K71 K81 K115 K150 v2 v3 v4 v5 v6 v7 v8 I) : gJ X V 0 0 150 [(0, .ref (V.2.1 200)), (2, .int v2), (3, .int v3), (4, .int v4), (5, .int v5), (6, .int v6), (7, .int v7), (8, .int v8)] [] I J := by
  unfold w_X10_beside_150b at h
  refine j_iload (pc := 150) C dX10_beside_150 7 rfl ?_
  refine j_aload_n (pc := 152) C dX10_beside_152 rfl 0 rfl ?_
  refine j_getI (pc := 153) C 200 32 (c_200 hM).1 (c_200 hM).2 rfl rfl (by decide) inw_X10 wd_998 dX10_beside_153 ?_
  refine j_icmp_ge (pc := 156) (tgt := 201) C dX10_beside_156 (by decide) (fun c31 => ?_) (fun c31 => ?_)
  · have h := h.1 c31
    refine gJ.sub [0, 1, 2, 3, 4, 5, 6] rfl ?_
    exact t_X10_beside_201 hM C hX hR  hK71 hK81 hK115 h
  · have h := h.2 c31
    refine j_aload_n (pc := 159) C dX10_beside_159 rfl 0 rfl ?_
    refine j_bipush (pc := 160) (v := 6) C dX10_beside_160 (by decide) ?_
    refine j_bipush (pc := 162) (v := 6) C dX10_beside_162 (by decide) ?_
    refine j_aload_n (pc := 164) C dX10_beside_164 rfl 0 rfl ?_
    refine j_iload (pc := 165) C dX10_beside_165 5 rfl ?_
    refine j_aload_n (pc := 167) C dX10_beside_167 rfl 0 rfl ?_
    refine j_getI (pc := 168) C 200 32 (c_200 hM).1 (c_200 hM).2 rfl rfl (by decide) inw_X10 wd_998 dX10_beside_168 ?_
    refine j_iconst (pc := 171) (v := 1) C dX10_beside_171 (by decide) ?_
    refine j_isub (pc := 172) C dX10_beside_172 ?_
    refine j_iload (pc := 173) C dX10_beside_173 7 rfl ?_
    refine j_callV (pc := 175) (As := [.int v6, .int ((I 200 32) - (1 : Int32)), .int v8]) (st := [.int (6 : Int32), .int (6 : Int32), .ref (V.2.1 200)]) C hX 200 (m_X10_at hM  h) (c_200 hM).1 (c_200 hM).2 rfl ok_X10_at wd_1249 wd_1251 wd_60 ⟨by decide, by decide⟩ rfl rfl (Nat.le_of_ble_eq_true rfl) ⟨Nat.le_refl 0, Nat.le_refl 0⟩ dX10_beside_175 (fun r V1 I1 J1 hp => ?_)
    obtain ⟨r32, rfl, rfl, rfl, rfl, h⟩ := hp
    show gJ X V 0 0 178 _ [.int r32, .int (6 : Int32), .int (6 : Int32), .ref (V.2.1 200)] _ _
    refine j_imul (pc := 178) C dX10_beside_178 ?_
    refine j_iadd (pc := 179) C dX10_beside_179 ?_
    refine j_aload_n (pc := 180) C dX10_beside_180 rfl 0 rfl ?_
    refine j_iload (pc := 181) C dX10_beside_181 6 rfl ?_
    refine j_iconst (pc := 183) (v := 0) C dX10_beside_183 (by decide) ?_
    refine j_iload (pc := 184) C dX10_beside_184 7 rfl ?_
    refine j_callV (pc := 186) (As := [.int v7, .int (0 : Int32), .int v8]) (st := [.int ((6 : Int32) + ((6 : Int32) * r32)), .ref (V.2.1 200)]) C hX 200 (m_X10_at hM  h) (c_200 hM).1 (c_200 hM).2 rfl ok_X10_at wd_1249 wd_1251 wd_60 ⟨by decide, by decide⟩ rfl rfl (Nat.le_of_ble_eq_true rfl) ⟨Nat.le_refl 0, Nat.le_refl 0⟩ dX10_beside_186 (fun r V1 I1 J1 hp => ?_)
    obtain ⟨r33, rfl, rfl, rfl, rfl, h⟩ := hp
    show gJ X V 0 0 189 _ [.int r33, .int ((6 : Int32) + ((6 : Int32) * r32)), .ref (V.2.1 200)] _ _
    refine j_iadd (pc := 189) C dX10_beside_189 ?_
    refine j_iload (pc := 190) C dX10_beside_190 4 rfl ?_
    refine j_callV (pc := 192) (As := [.int (((6 : Int32) + ((6 : Int32) * r32)) + r33), .int v5]) (st := []) C hX 200 (m_X10_reach hM  h) (c_200 hM).1 (c_200 hM).2 rfl ok_X10_reach wd_1277 wd_1279 wd_64 ⟨by decide, by decide⟩ rfl rfl (Nat.le_of_ble_eq_true rfl) ⟨Nat.le_refl 0, Nat.le_refl 0⟩ dX10_beside_192 (fun r V1 I34 J1 hp => ?_)
    obtain ⟨rfl, rfl, rfl, h⟩ := hp
    show gJ X V 0 0 195 _ [] _ _
    obtain ⟨n35, en35⟩ : ∃ z : Int32, z = v8 + 1 := ⟨_, rfl⟩
    have h := h n35 en35
    refine j_iinc (pc := 195) (v := n35) (lv' := [(8, .int n35), (0, .ref (V.2.1 200)), (2, .int v2), (3, .int v3), (4, .int v4), (5, .int v5), (6, .int v6), (7, .int v7)]) C dX10_beside_195 7 rfl (by rw [en35]; rfl) (by decide) rfl ?_
    refine j_goto (pc := 198) (tgt := 150) C dX10_beside_198 (by decide) ?_
    refine gJ.sub [1, 2, 3, 4, 5, 6, 7, 0] rfl ?_
    exact hK150 _ _ h
set_option maxRecDepth 100000 in
set_option maxHeartbeats 4000000 in
theorem t_X10_beside_150 {X : gX} {l : Launch} {D : va_G} {cy : Nat → ClassId} {nm : String} {V : gV} (hM : gModM V) (C : gC X cX10_beside RX10 (some .int) 9 rm_X10_beside) (hX : gIs X l D cy nm) {I : gI} {J : gL} {Po : Int32 → gI → Prop} (hR : gR X (gPi V (fun x I' J' => J = J' ∧ Po x I'))) {v2 : Int32} {v3 : Int32} {v4 : Int32} {v5 : Int32} {v6 : Int32} {v7 : Int32} {v8 : Int32} {K71 : Int32 → gI → Prop} {K81 : Int32 → gI → Prop} {K115 : Int32 → gI → Prop} (hK71 : ∀ (y5 : Int32) (I1 : gI), K71 y5 I1 → gJ X V 0 0 71 [(0, .ref (V.2.1 200)), (2, .int v2), (3, .int v3), (4, .int v4), (5, .int y5)] [] I1 J) (hK81 : ∀ (y6 : Int32) (I1 : gI), K81 y6 I1 → gJ X V 0 0 81 [(0, .ref (V.2.1 200)), (2, .int v2), (3, .int v3), (4, .int v4), (5, .int v5), (6, .int y6)] [] I1 J) (hK115 : ∀ (y7 : Int32) (I1 : gI), K115 y7 I1 → gJ X V 0 0 115 [(0, .ref (V.2.1 200)), (2, .int v2), (3, .int v3), (4, .int v4), (5, .int v5), (6, .int v6), (7, .int y7)] [] I1 J) (h : w_X10_beside_150 Po K71 K81 K115 v2 v3 v4 v5 v6 v7 v8 I) : gJ X V 0 0 150 [(0, .ref (V.2.1 200)), (2, .int v2), (3, .int v3), (4, .int v4), (5, .int v5), (6, .int v6), (7, .int v7), (8, .int v8)] [] I J := by
  unfold w_X10_beside_150 at h
  obtain ⟨Inv, mu, h0, hs⟩ := h
  have key : ∀ (n : Nat) (v8 : Int32) (I : gI), Inv v8 I → mu v8 I < n → gJ X V 0 0 150 [(0, .ref (V.2.1 200)), (2, .int v2), (3, .int v3), (4, .int v4), (5, .int v5), (6, .int v6), (7, .int v7), (8, .int v8)] [] I J := by
    intro n
    induction n with
    | zero => intro v8 I hi hn; exact absurd hn (Nat.not_lt_zero _)
    | succ n ih =>
      intro v8 I hi hn
      exact t_X10_beside_150b hM C hX hR  hK71 hK81 hK115 (fun u8 I1 hk => ih u8 I1 hk.1 (Nat.lt_of_lt_of_le hk.2 (Nat.le_of_lt_succ hn))) (hs v8 I hi)
  exact key _ v8 I h0 (Nat.lt_succ_self _)
set_option maxRecDepth 100000 in
set_option maxHeartbeats 4000000 in
theorem t_X10_beside_115b {X : gX} {l : Launch} {D : va_G} {cy : Nat → ClassId} {nm : String} {V : gV} (hM : gModM V) (C : gC X cX10_beside RX10 (some .int) 9 rm_X10_beside) (hX : gIs X l D cy nm) {I : gI} {J : gL} {Po : Int32 → gI → Prop} (hR : gR X (gPi V (fun x I' J' => J = J' ∧ Po x I'))) {v2 : Int32} {v3 : Int32} {v4 : Int32} {v5 : Int32} {v6 : Int32} {v7 : Int32} {K71 : Int32 → gI → Prop} {K81 : Int32 → gI → Prop} {K115 : Int32 → gI → Prop} (hK71 : ∀ (y5 : Int32) (I1 : gI), K71 y5 I1 → gJ X V 0 0 71 [(0, .ref (V.2.1 200)), (2, .int v2), (3, .int v3), (4, .int v4), (5, .int y5)] [] I1 J) (hK81 : ∀ (y6 : Int32) (I1 : gI), K81 y6 I1 → gJ X V 0 0 81 [(0, .ref (V.2.1 200)), (2, .int v2), (3, .int v3), (4, .int v4), (5, .int v5), (6, .int y6)] [] I1 J) (hK115 : ∀ (y7 : Int32) (I1 : gI), K115 y7 I1 → gJ X V 0 0 115 [(0, .ref (V.2.1 200)), (2, .int v2), (3, .int v3), (4, .int v4), (5, .int v5), (6, .int v6), (7, .int y7)] [] I1 J) (h : w_X10_beside_115b Po K71 K81 K115 v2 v3 v4 v5 v6 v7 I) : gJ X V 0 0 115 [(0, .ref (V.2.1 200)), (2, .int v2), (3, .int v3), (4, .int v4), (5, .int v5), (6, .int v6), (7, .int v7)] [] I J := by
  unfold w_X10_beside_115b at h
  refine j_iload (pc := 115) C dX10_beside_115 6 rfl ?_
  refine j_aload_n (pc := 117) C dX10_beside_117 rfl 0 rfl ?_
  refine j_getI (pc := 118) C 200 31 (c_200 hM).1 (c_200 hM).2 rfl rfl (by decide) inw_X10 wd_997 dX10_beside_118 ?_
  refine j_icmp_ge (pc := 121) (tgt := 284) C dX10_beside_121 (by decide) (fun c19 => ?_) (fun c19 => ?_)
  · have h := h.1 c19
    obtain ⟨n20, en20⟩ : ∃ z : Int32, z = v6 + 1 := ⟨_, rfl⟩
    have h := h n20 en20
    refine j_iinc (pc := 284) (v := n20) (lv' := [(6, .int n20), (0, .ref (V.2.1 200)), (2, .int v2), (3, .int v3), (4, .int v4), (5, .int v5), (7, .int v7)]) C dX10_beside_284 5 rfl (by rw [en20]; rfl) (by decide) rfl ?_
    refine j_goto (pc := 287) (tgt := 81) C dX10_beside_287 (by decide) ?_
    refine gJ.sub [1, 2, 3, 4, 5, 0] rfl ?_
    exact hK81 _ _ h
  · have h := h.2 c19
    refine j_aload_n (pc := 124) C dX10_beside_124 rfl 0 rfl ?_
    refine j_getR (pc := 125) C 200 36 225 (c_200 hM).1 (c_200 hM).2 rfl rfl (by decide) inw_X10 wd_1002 dX10_beside_125 ?_
    refine j_bipush (pc := 128) (v := 6) C dX10_beside_128 (by decide) ?_
    refine j_bipush (pc := 130) (v := 6) C dX10_beside_130 (by decide) ?_
    refine j_iload (pc := 132) C dX10_beside_132 5 rfl ?_
    refine j_imul (pc := 134) C dX10_beside_134 ?_
    refine j_iadd (pc := 135) C dX10_beside_135 ?_
    refine j_iload (pc := 136) C dX10_beside_136 6 rfl ?_
    refine j_iadd (pc := 138) C dX10_beside_138 ?_
    obtain ⟨g21, h⟩ := h
    refine j_iald (pc := 139) C 225 (c_225 hM).1 (c_225 hM).2 g21 dX10_beside_139 ?_
    refine j_iload (pc := 140) C dX10_beside_140 4 rfl ?_
    refine j_iconst (pc := 142) (v := 1) C dX10_beside_142 (by decide) ?_
    refine j_isub (pc := 143) C dX10_beside_143 ?_
    refine j_icmp_ne (pc := 144) (tgt := 201) C dX10_beside_144 (by decide) (fun c22 => ?_) (fun c22 => ?_)
    · have h := h.1 c22
      refine gJ.sub [0, 1, 2, 3, 4, 5, 6] rfl ?_
      exact t_X10_beside_201 hM C hX hR  hK71 hK81 hK115 h
    · have h := h.2 c22
      refine j_iconst (pc := 147) (v := 0) C dX10_beside_147 (by decide) ?_
      refine j_istore (pc := 148) (lv' := [(8, .int (0 : Int32)), (0, .ref (V.2.1 200)), (2, .int v2), (3, .int v3), (4, .int v4), (5, .int v5), (6, .int v6), (7, .int v7)]) C dX10_beside_148 (by decide) rfl ?_
      refine gJ.sub [1, 2, 3, 4, 5, 6, 7, 0] rfl ?_
      exact t_X10_beside_150 hM C hX hR  hK71 hK81 hK115 h
set_option maxRecDepth 100000 in
set_option maxHeartbeats 4000000 in
theorem t_X10_beside_115 {X : gX} {l : Launch} {D : va_G} {cy : Nat → ClassId} {nm : String} {V : gV} (hM : gModM V) (C : gC X cX10_beside RX10 (some .int) 9 rm_X10_beside) (hX : gIs X l D cy nm) {I : gI} {J : gL} {Po : Int32 → gI → Prop} (hR : gR X (gPi V (fun x I' J' => J = J' ∧ Po x I'))) {v2 : Int32} {v3 : Int32} {v4 : Int32} {v5 : Int32} {v6 : Int32} {v7 : Int32} {K71 : Int32 → gI → Prop} {K81 : Int32 → gI → Prop} (hK71 : ∀ (y5 : Int32) (I1 : gI), K71 y5 I1 → gJ X V 0 0 71 [(0, .ref (V.2.1 200)), (2, .int v2), (3, .int v3), (4, .int v4), (5, .int y5)] [] I1 J) (hK81 : ∀ (y6 : Int32) (I1 : gI), K81 y6 I1 → gJ X V 0 0 81 [(0, .ref (V.2.1 200)), (2, .int v2), (3, .int v3), (4, .int v4), (5, .int v5), (6, .int y6)] [] I1 J) (h : w_X10_beside_115 Po K71 K81 v2 v3 v4 v5 v6 v7 I) : gJ X V 0 0 115 [(0, .ref (V.2.1 200)), (2, .int v2), (3, .int v3), (4, .int v4), (5, .int v5), (6, .int v6), (7, .int v7)] [] I J := by
  unfold w_X10_beside_115 at h
  obtain ⟨Inv, mu, h0, hs⟩ := h
  have key : ∀ (n : Nat) (v7 : Int32) (I : gI), Inv v7 I → mu v7 I < n → gJ X V 0 0 115 [(0, .ref (V.2.1 200)), (2, .int v2), (3, .int v3), (4, .int v4), (5, .int v5), (6, .int v6), (7, .int v7)] [] I J := by
    intro n
    induction n with
    | zero => intro v7 I hi hn; exact absurd hn (Nat.not_lt_zero _)
    | succ n ih =>
      intro v7 I hi hn
      exact t_X10_beside_115b hM C hX hR  hK71 hK81 (fun u7 I1 hk => ih u7 I1 hk.1 (Nat.lt_of_lt_of_le hk.2 (Nat.le_of_lt_succ hn))) (hs v7 I hi)
  exact key _ v7 I h0 (Nat.lt_succ_self _)
set_option maxRecDepth 100000 in
set_option maxHeartbeats 4000000 in
theorem t_X10_beside_112 {X : gX} {l : Launch} {D : va_G} {cy : Nat → ClassId} {nm : String} {V : gV} (hM : gModM V) (C : gC X cX10_beside RX10 (some .int) 9 rm_X10_beside) (hX : gIs X l D cy nm) {I : gI} {J : gL} {Po : Int32 → gI → Prop} (hR : gR X (gPi V (fun x I' J' => J = J' ∧ Po x I'))) {v2 : Int32} {v3 : Int32} {v4 : Int32} {v5 : Int32} {v6 : Int32} {K71 : Int32 → gI → Prop} {K81 : Int32 → gI → Prop} (hK71 : ∀ (y5 : Int32) (I1 : gI), K71 y5 I1 → gJ X V 0 0 71 [(0, .ref (V.2.1 200)), (2, .int v2), (3, .int v3), (4, .int v4), (5, .int y5)] [] I1 J) (hK81 : ∀ (y6 : Int32) (I1 : gI), K81 y6 I1 → gJ X V 0 0 81 [(0, .ref (V.2.1 200)), (2, .int v2), (3, .int v3), (4, .int v4), (5, .int v5), (6, .int y6)] [] I1 J) (h : w_X10_beside_112 Po K71 K81 v2 v3 v4 v5 v6 I) : gJ X V 0 0 112 [(0, .ref (V.2.1 200)), (2, .int v2), (3, .int v3), (4, .int v4), (5, .int v5), (6, .int v6)] [] I J := by
  unfold w_X10_beside_112 at h
  refine j_iconst (pc := 112) (v := 0) C dX10_beside_112 (by decide) ?_
  refine j_istore (pc := 113) (lv' := [(7, .int (0 : Int32)), (0, .ref (V.2.1 200)), (2, .int v2), (3, .int v3), (4, .int v4), (5, .int v5), (6, .int v6)]) C dX10_beside_113 (by decide) rfl ?_
  refine gJ.sub [1, 2, 3, 4, 5, 6, 0] rfl ?_
  exact t_X10_beside_115 hM C hX hR  hK71 hK81 h
set_option maxRecDepth 100000 in
set_option maxHeartbeats 4000000 in
theorem t_X10_beside_81b {X : gX} {l : Launch} {D : va_G} {cy : Nat → ClassId} {nm : String} {V : gV} (hM : gModM V) (C : gC X cX10_beside RX10 (some .int) 9 rm_X10_beside) (hX : gIs X l D cy nm) {I : gI} {J : gL} {Po : Int32 → gI → Prop} (hR : gR X (gPi V (fun x I' J' => J = J' ∧ Po x I'))) {v2 : Int32} {v3 : Int32} {v4 : Int32} {v5 : Int32} {v6 : Int32} {K71 : Int32 → gI → Prop} {K81 : Int32 → gI → Prop} (hK71 : ∀ (y5 : Int32) (I1 : gI), K71 y5 I1 → gJ X V 0 0 71 [(0, .ref (V.2.1 200)), (2, .int v2), (3, .int v3), (4, .int v4), (5, .int y5)] [] I1 J) (hK81 : ∀ (y6 : Int32) (I1 : gI), K81 y6 I1 → gJ X V 0 0 81 [(0, .ref (V.2.1 200)), (2, .int v2), (3, .int v3), (4, .int v4), (5, .int v5), (6, .int y6)] [] I1 J) (h : w_X10_beside_81b Po K71 K81 v2 v3 v4 v5 v6 I) : gJ X V 0 0 81 [(0, .ref (V.2.1 200)), (2, .int v2), (3, .int v3), (4, .int v4), (5, .int v5), (6, .int v6)] [] I J := by
  unfold w_X10_beside_81b at h
  refine j_iload (pc := 81) C dX10_beside_81 5 rfl ?_
  refine j_aload_n (pc := 83) C dX10_beside_83 rfl 0 rfl ?_
  refine j_getI (pc := 84) C 200 31 (c_200 hM).1 (c_200 hM).2 rfl rfl (by decide) inw_X10 wd_997 dX10_beside_84 ?_
  refine j_icmp_ge (pc := 87) (tgt := 290) C dX10_beside_87 (by decide) (fun c15 => ?_) (fun c15 => ?_)
  · have h := h.1 c15
    obtain ⟨n16, en16⟩ : ∃ z : Int32, z = v5 + 1 := ⟨_, rfl⟩
    have h := h n16 en16
    refine j_iinc (pc := 290) (v := n16) (lv' := [(5, .int n16), (0, .ref (V.2.1 200)), (2, .int v2), (3, .int v3), (4, .int v4), (6, .int v6)]) C dX10_beside_290 4 rfl (by rw [en16]; rfl) (by decide) rfl ?_
    refine j_goto (pc := 293) (tgt := 71) C dX10_beside_293 (by decide) ?_
    refine gJ.sub [1, 2, 3, 4, 0] rfl ?_
    exact hK71 _ _ h
  · have h := h.2 c15
    refine j_aload_n (pc := 90) C dX10_beside_90 rfl 0 rfl ?_
    refine j_getR (pc := 91) C 200 36 225 (c_200 hM).1 (c_200 hM).2 rfl rfl (by decide) inw_X10 wd_1002 dX10_beside_91 ?_
    refine j_iload (pc := 94) C dX10_beside_94 5 rfl ?_
    obtain ⟨g17, h⟩ := h
    refine j_iald (pc := 96) C 225 (c_225 hM).1 (c_225 hM).2 g17 dX10_beside_96 ?_
    refine j_iload (pc := 97) C dX10_beside_97 4 rfl ?_
    refine j_iconst (pc := 99) (v := 1) C dX10_beside_99 (by decide) ?_
    refine j_isub (pc := 100) C dX10_beside_100 ?_
    refine j_icmp_ne (pc := 101) (tgt := 112) C dX10_beside_101 (by decide) (fun c18 => ?_) (fun c18 => ?_)
    · have h := h.1 c18
      refine gJ.sub [0, 1, 2, 3, 4, 5] rfl ?_
      exact t_X10_beside_112 hM C hX hR  hK71 hK81 h
    · have h := h.2 c18
      refine j_aload_n (pc := 104) C dX10_beside_104 rfl 0 rfl ?_
      refine j_iload (pc := 105) C dX10_beside_105 5 rfl ?_
      refine j_iload (pc := 107) C dX10_beside_107 4 rfl ?_
      refine j_callV (pc := 109) (As := [.int v6, .int v5]) (st := []) C hX 200 (m_X10_inside hM  h) (c_200 hM).1 (c_200 hM).2 rfl ok_X10_inside wd_1273 wd_1275 wd_63 ⟨by decide, by decide⟩ rfl rfl (Nat.le_of_ble_eq_true rfl) ⟨Nat.le_refl 0, Nat.le_refl 0⟩ dX10_beside_109 (fun r V1 I36 J1 hp => ?_)
      obtain ⟨rfl, rfl, rfl, h⟩ := hp
      show gJ X V 0 0 112 _ [] _ _
      refine gJ.sub [0, 1, 2, 3, 4, 5] rfl ?_
      exact t_X10_beside_112 hM C hX hR  hK71 hK81 h
set_option maxRecDepth 100000 in
set_option maxHeartbeats 4000000 in
theorem t_X10_beside_81 {X : gX} {l : Launch} {D : va_G} {cy : Nat → ClassId} {nm : String} {V : gV} (hM : gModM V) (C : gC X cX10_beside RX10 (some .int) 9 rm_X10_beside) (hX : gIs X l D cy nm) {I : gI} {J : gL} {Po : Int32 → gI → Prop} (hR : gR X (gPi V (fun x I' J' => J = J' ∧ Po x I'))) {v2 : Int32} {v3 : Int32} {v4 : Int32} {v5 : Int32} {v6 : Int32} {K71 : Int32 → gI → Prop} (hK71 : ∀ (y5 : Int32) (I1 : gI), K71 y5 I1 → gJ X V 0 0 71 [(0, .ref (V.2.1 200)), (2, .int v2), (3, .int v3), (4, .int v4), (5, .int y5)] [] I1 J) (h : w_X10_beside_81 Po K71 v2 v3 v4 v5 v6 I) : gJ X V 0 0 81 [(0, .ref (V.2.1 200)), (2, .int v2), (3, .int v3), (4, .int v4), (5, .int v5), (6, .int v6)] [] I J := by
  unfold w_X10_beside_81 at h
  obtain ⟨Inv, mu, h0, hs⟩ := h
  have key : ∀ (n : Nat) (v6 : Int32) (I : gI), Inv v6 I → mu v6 I < n → gJ X V 0 0 81 [(0, .ref (V.2.1 200)), (2, .int v2), (3, .int v3), (4, .int v4), (5, .int v5), (6, .int v6)] [] I J := by
    intro n
    induction n with
    | zero => intro v6 I hi hn; exact absurd hn (Nat.not_lt_zero _)
    | succ n ih =>
      intro v6 I hi hn
      exact t_X10_beside_81b hM C hX hR  hK71 (fun u6 I1 hk => ih u6 I1 hk.1 (Nat.lt_of_lt_of_le hk.2 (Nat.le_of_lt_succ hn))) (hs v6 I hi)
  exact key _ v6 I h0 (Nat.lt_succ_self _)
set_option maxRecDepth 100000 in
set_option maxHeartbeats 4000000 in
theorem t_X10_beside_71b {X : gX} {l : Launch} {D : va_G} {cy : Nat → ClassId} {nm : String} {V : gV} (hM : gModM V) (C : gC X cX10_beside RX10 (some .int) 9 rm_X10_beside) (hX : gIs X l D cy nm) {I : gI} {J : gL} {Po : Int32 → gI → Prop} (hR : gR X (gPi V (fun x I' J' => J = J' ∧ Po x I'))) {v2 : Int32} {v3 : Int32} {v4 : Int32} {v5 : Int32} {K71 : Int32 → gI → Prop} (hK71 : ∀ (y5 : Int32) (I1 : gI), K71 y5 I1 → gJ X V 0 0 71 [(0, .ref (V.2.1 200)), (2, .int v2), (3, .int v3), (4, .int v4), (5, .int y5)] [] I1 J) (h : w_X10_beside_71b Po K71 v2 v3 v4 v5 I) : gJ X V 0 0 71 [(0, .ref (V.2.1 200)), (2, .int v2), (3, .int v3), (4, .int v4), (5, .int v5)] [] I J := by
  unfold w_X10_beside_71b at h
  refine j_iload (pc := 71) C dX10_beside_71 4 rfl ?_
  refine j_bipush (pc := 73) (v := 90) C dX10_beside_73 (by decide) ?_
  refine j_icmp_ge (pc := 75) (tgt := 296) C dX10_beside_75 (by decide) (fun c12 => ?_) (fun c12 => ?_)
  · have h := h.1 c12
    refine j_aload_n (pc := 296) C dX10_beside_296 rfl 0 rfl ?_
    refine j_getR (pc := 297) C 200 36 225 (c_200 hM).1 (c_200 hM).2 rfl rfl (by decide) inw_X10 wd_1002 dX10_beside_297 ?_
    refine j_iload (pc := 300) C dX10_beside_300 3 rfl ?_
    refine j_if_ne (pc := 302) (tgt := 310) C dX10_beside_302 (by decide) (fun c13 => ?_) (fun c13 => ?_)
    · have h := h.1 c13
      refine j_bipush (pc := 310) (v := 42) C dX10_beside_310 (by decide) ?_
      refine gJ.sub [1, 2] rfl ?_
      exact t_X10_beside_312 hM C hX hR   h
    · have h := h.2 c13
      refine j_bipush (pc := 305) (v := 6) C dX10_beside_305 (by decide) ?_
      refine j_goto (pc := 307) (tgt := 312) C dX10_beside_307 (by decide) ?_
      refine gJ.sub [1, 2] rfl ?_
      exact t_X10_beside_312 hM C hX hR   h
  · have h := h.2 c12
    refine j_iconst (pc := 78) (v := 0) C dX10_beside_78 (by decide) ?_
    refine j_istore (pc := 79) (lv' := [(6, .int (0 : Int32)), (0, .ref (V.2.1 200)), (2, .int v2), (3, .int v3), (4, .int v4), (5, .int v5)]) C dX10_beside_79 (by decide) rfl ?_
    refine gJ.sub [1, 2, 3, 4, 5, 0] rfl ?_
    exact t_X10_beside_81 hM C hX hR  hK71 h
set_option maxRecDepth 100000 in
set_option maxHeartbeats 4000000 in
theorem t_X10_beside_71 {X : gX} {l : Launch} {D : va_G} {cy : Nat → ClassId} {nm : String} {V : gV} (hM : gModM V) (C : gC X cX10_beside RX10 (some .int) 9 rm_X10_beside) (hX : gIs X l D cy nm) {I : gI} {J : gL} {Po : Int32 → gI → Prop} (hR : gR X (gPi V (fun x I' J' => J = J' ∧ Po x I'))) {v2 : Int32} {v3 : Int32} {v4 : Int32} {v5 : Int32} (h : w_X10_beside_71 Po v2 v3 v4 v5 I) : gJ X V 0 0 71 [(0, .ref (V.2.1 200)), (2, .int v2), (3, .int v3), (4, .int v4), (5, .int v5)] [] I J := by
  unfold w_X10_beside_71 at h
  obtain ⟨Inv, mu, h0, hs⟩ := h
  have key : ∀ (n : Nat) (v5 : Int32) (I : gI), Inv v5 I → mu v5 I < n → gJ X V 0 0 71 [(0, .ref (V.2.1 200)), (2, .int v2), (3, .int v3), (4, .int v4), (5, .int v5)] [] I J := by
    intro n
    induction n with
    | zero => intro v5 I hi hn; exact absurd hn (Nat.not_lt_zero _)
    | succ n ih =>
      intro v5 I hi hn
      exact t_X10_beside_71b hM C hX hR   (fun u5 I1 hk => ih u5 I1 hk.1 (Nat.lt_of_lt_of_le hk.2 (Nat.le_of_lt_succ hn))) (hs v5 I hi)
  exact key _ v5 I h0 (Nat.lt_succ_self _)
set_option maxRecDepth 100000 in
set_option maxHeartbeats 4000000 in
theorem t_X10_beside_40b {X : gX} {l : Launch} {D : va_G} {cy : Nat → ClassId} {nm : String} {V : gV} (hM : gModM V) (C : gC X cX10_beside RX10 (some .int) 9 rm_X10_beside) (hX : gIs X l D cy nm) {I : gI} {J : gL} {Po : Int32 → gI → Prop} (hR : gR X (gPi V (fun x I' J' => J = J' ∧ Po x I'))) {v1 : Int32} {v2 : Int32} {v3 : Int32} {v4 : Int32} {v5 : Int32} {K40 : Int32 → gI → Prop} (hK40 : ∀ (y5 : Int32) (I1 : gI), K40 y5 I1 → gJ X V 0 0 40 [(0, .ref (V.2.1 200)), (1, .int v1), (2, .int v2), (3, .int v3), (4, .int v4), (5, .int y5)] [] I1 J) (h : w_X10_beside_40b Po K40 v1 v2 v3 v4 v5 I) : gJ X V 0 0 40 [(0, .ref (V.2.1 200)), (1, .int v1), (2, .int v2), (3, .int v3), (4, .int v4), (5, .int v5)] [] I J := by
  unfold w_X10_beside_40b at h
  refine j_iload (pc := 40) C dX10_beside_40 5 rfl ?_
  refine j_bipush (pc := 42) (v := 78) C dX10_beside_42 (by decide) ?_
  refine j_icmp_ge (pc := 44) (tgt := 61) C dX10_beside_44 (by decide) (fun c9 => ?_) (fun c9 => ?_)
  · have h := h.1 c9
    refine j_aload_n (pc := 61) C dX10_beside_61 rfl 0 rfl ?_
    refine j_getR (pc := 62) C 200 36 225 (c_200 hM).1 (c_200 hM).2 rfl rfl (by decide) inw_X10 wd_1002 dX10_beside_62 ?_
    refine j_iload_n (pc := 65) C dX10_beside_65 rfl 1 rfl ?_
    refine j_iconst (pc := 66) (v := 0) C dX10_beside_66 (by decide) ?_
    obtain ⟨g10, h⟩ := h
    refine j_iast (pc := 67) C 225 (c_225 hM).1 (c_225 hM).2 g10 dX10_beside_67 ?_
    refine gJ.nmI (fun I11 eI11 => ?_)
    have h := h I11 eI11
    refine j_iconst (pc := 68) (v := 1) C dX10_beside_68 (by decide) ?_
    refine j_istore (pc := 69) (lv' := [(5, .int (1 : Int32)), (0, .ref (V.2.1 200)), (1, .int v1), (2, .int v2), (3, .int v3), (4, .int v4)]) C dX10_beside_69 (by decide) rfl ?_
    refine gJ.sub [1, 3, 4, 5, 0] rfl ?_
    exact t_X10_beside_71 hM C hX hR   h
  · have h := h.2 c9
    refine j_aload_n (pc := 47) C dX10_beside_47 rfl 0 rfl ?_
    refine j_getR (pc := 48) C 200 36 225 (c_200 hM).1 (c_200 hM).2 rfl rfl (by decide) inw_X10 wd_1002 dX10_beside_48 ?_
    refine j_iload (pc := 51) C dX10_beside_51 5 rfl ?_
    refine j_iconst (pc := 53) (v := (-1)) C dX10_beside_53 (by decide) ?_
    obtain ⟨g37, h⟩ := h
    refine j_iast (pc := 54) C 225 (c_225 hM).1 (c_225 hM).2 g37 dX10_beside_54 ?_
    refine gJ.nmI (fun I38 eI38 => ?_)
    have h := h I38 eI38
    obtain ⟨n39, en39⟩ : ∃ z : Int32, z = v5 + 1 := ⟨_, rfl⟩
    have h := h n39 en39
    refine j_iinc (pc := 55) (v := n39) (lv' := [(5, .int n39), (0, .ref (V.2.1 200)), (1, .int v1), (2, .int v2), (3, .int v3), (4, .int v4)]) C dX10_beside_55 5 rfl (by rw [en39]; rfl) (by decide) rfl ?_
    refine j_goto (pc := 58) (tgt := 40) C dX10_beside_58 (by decide) ?_
    refine gJ.sub [1, 2, 3, 4, 5, 0] rfl ?_
    exact hK40 _ _ h
set_option maxRecDepth 100000 in
set_option maxHeartbeats 4000000 in
theorem t_X10_beside_40 {X : gX} {l : Launch} {D : va_G} {cy : Nat → ClassId} {nm : String} {V : gV} (hM : gModM V) (C : gC X cX10_beside RX10 (some .int) 9 rm_X10_beside) (hX : gIs X l D cy nm) {I : gI} {J : gL} {Po : Int32 → gI → Prop} (hR : gR X (gPi V (fun x I' J' => J = J' ∧ Po x I'))) {v1 : Int32} {v2 : Int32} {v3 : Int32} {v4 : Int32} {v5 : Int32} (h : w_X10_beside_40 Po v1 v2 v3 v4 v5 I) : gJ X V 0 0 40 [(0, .ref (V.2.1 200)), (1, .int v1), (2, .int v2), (3, .int v3), (4, .int v4), (5, .int v5)] [] I J := by
  unfold w_X10_beside_40 at h
  obtain ⟨Inv, mu, h0, hs⟩ := h
  have key : ∀ (n : Nat) (v5 : Int32) (I : gI), Inv v5 I → mu v5 I < n → gJ X V 0 0 40 [(0, .ref (V.2.1 200)), (1, .int v1), (2, .int v2), (3, .int v3), (4, .int v4), (5, .int v5)] [] I J := by
    intro n
    induction n with
    | zero => intro v5 I hi hn; exact absurd hn (Nat.not_lt_zero _)
    | succ n ih =>
      intro v5 I hi hn
      exact t_X10_beside_40b hM C hX hR   (fun u5 I1 hk => ih u5 I1 hk.1 (Nat.lt_of_lt_of_le hk.2 (Nat.le_of_lt_succ hn))) (hs v5 I hi)
  exact key _ v5 I h0 (Nat.lt_succ_self _)
set_option maxRecDepth 100000 in
set_option maxHeartbeats 4000000 in
theorem m_X10_beside {l : Launch} {D : va_G} {cy : Nat → ClassId} {V : gV} (hM : gModM V) {a1 : Int32} {a2 : Int32} {a3 : Int32} {a4 : Int32} {I : gI} {J : gL} {Po : Int32 → gI → Prop} (h : wp_X10_beside a1 a2 a3 a4 I Po) : gMet l D cy yX10_beside cX10_beside 9 (some .int) rm_X10_beside V [.ref (V.2.1 200), .int a1, .int a2, .int a3, .int a4] I J (gPi V (fun x I' J' => J = J' ∧ Po x I')) := by
  refine gMet.of (by decide) (Nat.le_of_ble_eq_true rfl) (fun X hX C hR => ?_)
  have C : gC X cX10_beside RX10 (some .int) 9 rm_X10_beside := C
  show gJ X V 0 0 0 [(0, .ref (V.2.1 200)), (1, .int a1), (2, .int a2), (3, .int a3), (4, .int a4)] [] I J
  unfold wp_X10_beside at h
  refine j_aload_n (pc := 0) C dX10_beside_0 rfl 0 rfl ?_
  refine j_iload_n (pc := 1) C dX10_beside_1 rfl 1 rfl ?_
  refine j_callV (pc := 2) (As := [.int a1]) (st := []) C hX 200 (m_X10_isLetter hM  h) (c_200 hM).1 (c_200 hM).2 rfl ok_X10_isLetter wd_1245 wd_1247 wd_59 ⟨by decide, by decide⟩ rfl rfl (Nat.le_of_ble_eq_true rfl) ⟨Nat.le_refl 0, Nat.le_refl 0⟩ dX10_beside_2 (fun r V1 I1 J1 hp => ?_)
  obtain ⟨r1, rfl, rfl, rfl, rfl, h⟩ := hp
  show gJ X V 0 0 5 _ [.int r1] _ _
  refine j_if_eq (pc := 5) (tgt := 34) C dX10_beside_5 (by decide) (fun c2 => ?_) (fun c2 => ?_)
  · have h := h.1 c2
    refine j_bipush (pc := 34) (v := (-2)) C dX10_beside_34 (by decide) ?_
    exact j_iret (pc := 36) C hR (Nat.zero_le _) (Nat.zero_le _) dX10_beside_36 ⟨_, rfl, rfl, rfl, h⟩
  · have h := h.2 c2
    refine j_aload_n (pc := 8) C dX10_beside_8 rfl 0 rfl ?_
    refine j_iload_n (pc := 9) C dX10_beside_9 rfl 2 rfl ?_
    refine j_callV (pc := 10) (As := [.int a2]) (st := []) C hX 200 (m_X10_isLetter hM  h) (c_200 hM).1 (c_200 hM).2 rfl ok_X10_isLetter wd_1245 wd_1247 wd_59 ⟨by decide, by decide⟩ rfl rfl (Nat.le_of_ble_eq_true rfl) ⟨Nat.le_refl 0, Nat.le_refl 0⟩ dX10_beside_10 (fun r V1 I1 J1 hp => ?_)
    obtain ⟨r3, rfl, rfl, rfl, rfl, h⟩ := hp
    show gJ X V 0 0 13 _ [.int r3] _ _
    refine j_if_eq (pc := 13) (tgt := 34) C dX10_beside_13 (by decide) (fun c4 => ?_) (fun c4 => ?_)
    · have h := h.1 c4
      refine j_bipush (pc := 34) (v := (-2)) C dX10_beside_34 (by decide) ?_
      exact j_iret (pc := 36) C hR (Nat.zero_le _) (Nat.zero_le _) dX10_beside_36 ⟨_, rfl, rfl, rfl, h⟩
    · have h := h.2 c4
      refine j_aload_n (pc := 16) C dX10_beside_16 rfl 0 rfl ?_
      refine j_iload_n (pc := 17) C dX10_beside_17 rfl 3 rfl ?_
      refine j_callV (pc := 18) (As := [.int a3]) (st := []) C hX 200 (m_X10_isLetter hM  h) (c_200 hM).1 (c_200 hM).2 rfl ok_X10_isLetter wd_1245 wd_1247 wd_59 ⟨by decide, by decide⟩ rfl rfl (Nat.le_of_ble_eq_true rfl) ⟨Nat.le_refl 0, Nat.le_refl 0⟩ dX10_beside_18 (fun r V1 I1 J1 hp => ?_)
      obtain ⟨r5, rfl, rfl, rfl, rfl, h⟩ := hp
      show gJ X V 0 0 21 _ [.int r5] _ _
      refine j_if_eq (pc := 21) (tgt := 34) C dX10_beside_21 (by decide) (fun c6 => ?_) (fun c6 => ?_)
      · have h := h.1 c6
        refine j_bipush (pc := 34) (v := (-2)) C dX10_beside_34 (by decide) ?_
        exact j_iret (pc := 36) C hR (Nat.zero_le _) (Nat.zero_le _) dX10_beside_36 ⟨_, rfl, rfl, rfl, h⟩
      · have h := h.2 c6
        refine j_iload (pc := 24) C dX10_beside_24 4 rfl ?_
        refine j_iconst (pc := 26) (v := 0) C dX10_beside_26 (by decide) ?_
        refine j_iconst (pc := 27) (v := 1) C dX10_beside_27 (by decide) ?_
        refine j_callS (pc := 28) (As := [.int a4, .int (0 : Int32), .int (1 : Int32)]) (st := []) C hX (m_X10_isIn   h) ok_X10_isIn wd_1108 wd_1109 ⟨by decide, by decide⟩ rfl rfl (Nat.le_of_ble_eq_true rfl) ⟨Nat.le_refl 0, Nat.le_refl 0⟩ dX10_beside_28 (fun r V1 I1 J1 hp => ?_)
        obtain ⟨r7, rfl, rfl, rfl, rfl, h⟩ := hp
        show gJ X V 0 0 31 _ [.int r7] _ _
        refine j_if_ne (pc := 31) (tgt := 37) C dX10_beside_31 (by decide) (fun c8 => ?_) (fun c8 => ?_)
        · have h := h.1 c8
          refine j_iconst (pc := 37) (v := 0) C dX10_beside_37 (by decide) ?_
          refine j_istore (pc := 38) (lv' := [(5, .int (0 : Int32)), (0, .ref (V.2.1 200)), (1, .int a1), (2, .int a2), (3, .int a3), (4, .int a4)]) C dX10_beside_38 (by decide) rfl ?_
          refine gJ.sub [1, 2, 3, 4, 5, 0] rfl ?_
          exact t_X10_beside_40 hM C hX hR   h
        · have h := h.2 c8
          refine j_bipush (pc := 34) (v := (-2)) C dX10_beside_34 (by decide) ?_
          exact j_iret (pc := 36) C hR (Nat.zero_le _) (Nat.zero_le _) dX10_beside_36 ⟨_, rfl, rfl, rfl, h⟩
/-! TileRulesModel.mixes()I -/
abbrev rm_X10_mixes : Room := { frames := 0, cells := 0, slots := 0, locals := 0 }
theorem ok_X10_mixes : gOk yX10_mixes cX10_mixes 5 (some .int) 0 := ⟨wd_1284, wd_74, by decide +kernel⟩
def w_X10_mixes_155  (Po : Int32 → gI → Prop) (K27 : Int32 → gI → Prop) (K65 : Int32 → Int32 → gI → Prop) (v1 : Int32) (v3 : Int32) (s0 : Int32) (I : gI) : Prop :=
  ∀ n11 : Int32, n11 = v3 + 1 → K65 s0 n11 I
def w_X10_mixes_154  (Po : Int32 → gI → Prop) (K27 : Int32 → gI → Prop) (K65 : Int32 → Int32 → gI → Prop) (v1 : Int32) (v3 : Int32) (I : gI) : Prop :=
  w_X10_mixes_155 Po K27 K65 v1 v3 (0 : Int32) I
def w_X10_mixes_83b  (Po : Int32 → gI → Prop) (K27 : Int32 → gI → Prop) (K65 : Int32 → Int32 → gI → Prop) (K83 : Int32 → gI → Prop) (v1 : Int32) (v2 : Int32) (v3 : Int32) (v4 : Int32) (I : gI) : Prop :=
  (((I 200 32) * (I 200 32)) ≤ v4 → (v2 = 0 → w_X10_mixes_154 Po K27 K65 v1 v3 I) ∧ (¬ v2 = 0 → vp_in v3 6 ∧ (¬ (I 226 (v3).toNatClampNeg) = (((1 : Int32) <<< ((I 200 31) &&& 31)) - (1 : Int32)) → w_X10_mixes_154 Po K27 K65 v1 v3 I) ∧ ((I 226 (v3).toNatClampNeg) = (((1 : Int32) <<< ((I 200 31) &&& 31)) - (1 : Int32)) → w_X10_mixes_155 Po K27 K65 v1 v3 (1 : Int32) I))) ∧ (¬ ((I 200 32) * (I 200 32)) ≤ v4 → vp_in v3 6 ∧ vp_in (((9 : Int32) * v3) + v4) 54 ∧ vp_in (I 222 ((((9 : Int32) * v3) + v4)).toNatClampNeg) 6 ∧ vp_in v3 6 ∧ ∀ I18 : gI, I18 = gup I 226 (v3).toNatClampNeg ((I 226 (v3).toNatClampNeg) ||| (I 227 ((I 222 ((((9 : Int32) * v3) + v4)).toNatClampNeg)).toNatClampNeg)) → ∀ n19 : Int32, n19 = v4 + 1 → K83 n19 I18)
def w_X10_mixes_83  (Po : Int32 → gI → Prop) (K27 : Int32 → gI → Prop) (K65 : Int32 → Int32 → gI → Prop) (v1 : Int32) (v2 : Int32) (v3 : Int32) (v4 : Int32) (I : gI) : Prop :=
  ∃ (Inv : Int32 → gI → Prop) (mu : Int32 → gI → Nat), Inv v4 I ∧ ∀ (v4 : Int32) (I : gI), Inv v4 I → w_X10_mixes_83b  Po K27 K65 (fun u4 I1 => Inv u4 I1 ∧ mu u4 I1 < mu v4 I) v1 v2 v3 v4 I
def w_X10_mixes_65b  (Po : Int32 → gI → Prop) (K27 : Int32 → gI → Prop) (K65 : Int32 → Int32 → gI → Prop) (v1 : Int32) (v2 : Int32) (v3 : Int32) (I : gI) : Prop :=
  ((I 200 31) ≤ v3 → (v2 = 0 → ∀ n6 : Int32, n6 = v1 + 1 → K27 n6 I) ∧ (¬ v2 = 0 → Po v1 I)) ∧ (¬ (I 200 31) ≤ v3 → vp_in v3 6 ∧ ∀ I8 : gI, I8 = gup I 226 (v3).toNatClampNeg (0 : Int32) → w_X10_mixes_83 Po K27 K65 v1 v2 v3 (0 : Int32) I8)
def w_X10_mixes_65  (Po : Int32 → gI → Prop) (K27 : Int32 → gI → Prop) (v1 : Int32) (v2 : Int32) (v3 : Int32) (I : gI) : Prop :=
  ∃ (Inv : Int32 → Int32 → gI → Prop) (mu : Int32 → Int32 → gI → Nat), Inv v2 v3 I ∧ ∀ (v2 : Int32) (v3 : Int32) (I : gI), Inv v2 v3 I → w_X10_mixes_65b  Po K27 (fun u2 u3 I1 => Inv u2 u3 I1 ∧ mu u2 u3 I1 < mu v2 v3 I) v1 v2 v3 I
def w_X10_mixes_37b  (Po : Int32 → gI → Prop) (K27 : Int32 → gI → Prop) (K37 : Int32 → gI → Prop) (v1 : Int32) (v2 : Int32) (v3 : Int32) (I : gI) : Prop :=
  ((I 200 31) ≤ v3 → w_X10_mixes_65 Po K27 v1 v2 (0 : Int32) I) ∧ (¬ (I 200 31) ≤ v3 → vp_in v3 6 ∧ vp_in v3 6 ∧ ∀ I22 : gI, I22 = gup I 227 (v3).toNatClampNeg (I 226 (v3).toNatClampNeg) → ∀ n23 : Int32, n23 = v3 + 1 → K37 n23 I22)
def w_X10_mixes_37  (Po : Int32 → gI → Prop) (K27 : Int32 → gI → Prop) (v1 : Int32) (v2 : Int32) (v3 : Int32) (I : gI) : Prop :=
  ∃ (Inv : Int32 → gI → Prop) (mu : Int32 → gI → Nat), Inv v3 I ∧ ∀ (v3 : Int32) (I : gI), Inv v3 I → w_X10_mixes_37b  Po K27 (fun u3 I1 => Inv u3 I1 ∧ mu u3 I1 < mu v3 I) v1 v2 v3 I
def w_X10_mixes_27b  (Po : Int32 → gI → Prop) (K27 : Int32 → gI → Prop) (v1 : Int32) (I : gI) : Prop :=
  ((60 : Int32) ≤ v1 → Po (-1 : Int32) I) ∧ (¬ (60 : Int32) ≤ v1 → w_X10_mixes_37 Po K27 v1 (1 : Int32) (0 : Int32) I)
def w_X10_mixes_27  (Po : Int32 → gI → Prop)  (v1 : Int32) (I : gI) : Prop :=
  ∃ (Inv : Int32 → gI → Prop) (mu : Int32 → gI → Nat), Inv v1 I ∧ ∀ (v1 : Int32) (I : gI), Inv v1 I → w_X10_mixes_27b  Po  (fun u1 I1 => Inv u1 I1 ∧ mu u1 I1 < mu v1 I) v1 I
def w_X10_mixes_2b  (Po : Int32 → gI → Prop) (K2 : Int32 → gI → Prop) (v1 : Int32) (I : gI) : Prop :=
  ((I 200 31) ≤ v1 → w_X10_mixes_27 Po (1 : Int32) I) ∧ (¬ (I 200 31) ≤ v1 → vp_in v1 6 ∧ ∀ I25 : gI, I25 = gup I 226 (v1).toNatClampNeg ((1 : Int32) <<< (v1 &&& 31)) → ∀ n26 : Int32, n26 = v1 + 1 → K2 n26 I25)
def w_X10_mixes_2  (Po : Int32 → gI → Prop)  (v1 : Int32) (I : gI) : Prop :=
  ∃ (Inv : Int32 → gI → Prop) (mu : Int32 → gI → Nat), Inv v1 I ∧ ∀ (v1 : Int32) (I : gI), Inv v1 I → w_X10_mixes_2b  Po  (fun u1 I1 => Inv u1 I1 ∧ mu u1 I1 < mu v1 I) v1 I
def wp_X10_mixes (I : gI) (Po : Int32 → gI → Prop) : Prop :=
  w_X10_mixes_2 Po (0 : Int32) I
set_option maxRecDepth 100000 in
set_option maxHeartbeats 4000000 in
theorem t_X10_mixes_155 {X : gX} {l : Launch} {D : va_G} {cy : Nat → ClassId} {nm : String} {V : gV} (hM : gModM V) (C : gC X cX10_mixes RX10 (some .int) 5 rm_X10_mixes) (hX : gIs X l D cy nm) {I : gI} {J : gL} {Po : Int32 → gI → Prop} (hR : gR X (gPi V (fun x I' J' => J = J' ∧ Po x I'))) {v1 : Int32} {v3 : Int32} {s0 : Int32} {K27 : Int32 → gI → Prop} {K65 : Int32 → Int32 → gI → Prop} (hK27 : ∀ (y1 : Int32) (I1 : gI), K27 y1 I1 → gJ X V 0 0 27 [(0, .ref (V.2.1 200)), (1, .int y1)] [] I1 J) (hK65 : ∀ (y2 : Int32) (y3 : Int32) (I1 : gI), K65 y2 y3 I1 → gJ X V 0 0 65 [(0, .ref (V.2.1 200)), (1, .int v1), (2, .int y2), (3, .int y3)] [] I1 J) (h : w_X10_mixes_155 Po K27 K65 v1 v3 s0 I) : gJ X V 0 0 155 [(0, .ref (V.2.1 200)), (1, .int v1), (3, .int v3)] [.int s0] I J := by
  unfold w_X10_mixes_155 at h
  refine j_istore_n (pc := 155) (lv' := [(2, .int s0), (0, .ref (V.2.1 200)), (1, .int v1), (3, .int v3)]) C dX10_mixes_155 rfl (by decide) rfl ?_
  obtain ⟨n11, en11⟩ : ∃ z : Int32, z = v3 + 1 := ⟨_, rfl⟩
  have h := h n11 en11
  refine j_iinc (pc := 156) (v := n11) (lv' := [(3, .int n11), (2, .int s0), (0, .ref (V.2.1 200)), (1, .int v1)]) C dX10_mixes_156 3 rfl (by rw [en11]; rfl) (by decide) rfl ?_
  refine j_goto (pc := 159) (tgt := 65) C dX10_mixes_159 (by decide) ?_
  refine gJ.sub [2, 3, 1, 0] rfl ?_
  exact hK65 _ _ _ h
set_option maxRecDepth 100000 in
set_option maxHeartbeats 4000000 in
theorem t_X10_mixes_154 {X : gX} {l : Launch} {D : va_G} {cy : Nat → ClassId} {nm : String} {V : gV} (hM : gModM V) (C : gC X cX10_mixes RX10 (some .int) 5 rm_X10_mixes) (hX : gIs X l D cy nm) {I : gI} {J : gL} {Po : Int32 → gI → Prop} (hR : gR X (gPi V (fun x I' J' => J = J' ∧ Po x I'))) {v1 : Int32} {v3 : Int32} {K27 : Int32 → gI → Prop} {K65 : Int32 → Int32 → gI → Prop} (hK27 : ∀ (y1 : Int32) (I1 : gI), K27 y1 I1 → gJ X V 0 0 27 [(0, .ref (V.2.1 200)), (1, .int y1)] [] I1 J) (hK65 : ∀ (y2 : Int32) (y3 : Int32) (I1 : gI), K65 y2 y3 I1 → gJ X V 0 0 65 [(0, .ref (V.2.1 200)), (1, .int v1), (2, .int y2), (3, .int y3)] [] I1 J) (h : w_X10_mixes_154 Po K27 K65 v1 v3 I) : gJ X V 0 0 154 [(0, .ref (V.2.1 200)), (1, .int v1), (3, .int v3)] [] I J := by
  unfold w_X10_mixes_154 at h
  refine j_iconst (pc := 154) (v := 0) C dX10_mixes_154 (by decide) ?_
  refine gJ.sub [0, 1, 2] rfl ?_
  exact t_X10_mixes_155 hM C hX hR  hK27 hK65 h
set_option maxRecDepth 100000 in
set_option maxHeartbeats 4000000 in
theorem t_X10_mixes_83b {X : gX} {l : Launch} {D : va_G} {cy : Nat → ClassId} {nm : String} {V : gV} (hM : gModM V) (C : gC X cX10_mixes RX10 (some .int) 5 rm_X10_mixes) (hX : gIs X l D cy nm) {I : gI} {J : gL} {Po : Int32 → gI → Prop} (hR : gR X (gPi V (fun x I' J' => J = J' ∧ Po x I'))) {v1 : Int32} {v2 : Int32} {v3 : Int32} {v4 : Int32} {K27 : Int32 → gI → Prop} {K65 : Int32 → Int32 → gI → Prop} {K83 : Int32 → gI → Prop} (hK27 : ∀ (y1 : Int32) (I1 : gI), K27 y1 I1 → gJ X V 0 0 27 [(0, .ref (V.2.1 200)), (1, .int y1)] [] I1 J) (hK65 : ∀ (y2 : Int32) (y3 : Int32) (I1 : gI), K65 y2 y3 I1 → gJ X V 0 0 65 [(0, .ref (V.2.1 200)), (1, .int v1), (2, .int y2), (3, .int y3)] [] I1 J) (hK83 : ∀ (y4 : Int32) (I1 : gI), K83 y4 I1 → gJ X V 0 0 83 [(0, .ref (V.2.1 200)), (1, .int v1), (2, .int v2), (3, .int v3), (4, .int y4)] [] I1 J) (h : w_X10_mixes_83b Po K27 K65 K83 v1 v2 v3 v4 I) : gJ X V 0 0 83 [(0, .ref (V.2.1 200)), (1, .int v1), (2, .int v2), (3, .int v3), (4, .int v4)] [] I J := by
  unfold w_X10_mixes_83b at h
  refine j_iload (pc := 83) C dX10_mixes_83 4 rfl ?_
  refine j_aload_n (pc := 85) C dX10_mixes_85 rfl 0 rfl ?_
  refine j_getI (pc := 86) C 200 32 (c_200 hM).1 (c_200 hM).2 rfl rfl (by decide) inw_X10 wd_998 dX10_mixes_86 ?_
  refine j_aload_n (pc := 89) C dX10_mixes_89 rfl 0 rfl ?_
  refine j_getI (pc := 90) C 200 32 (c_200 hM).1 (c_200 hM).2 rfl rfl (by decide) inw_X10 wd_998 dX10_mixes_90 ?_
  refine j_imul (pc := 93) C dX10_mixes_93 ?_
  refine j_icmp_ge (pc := 94) (tgt := 129) C dX10_mixes_94 (by decide) (fun c9 => ?_) (fun c9 => ?_)
  · have h := h.1 c9
    refine j_iload_n (pc := 129) C dX10_mixes_129 rfl 2 rfl ?_
    refine j_if_eq (pc := 130) (tgt := 154) C dX10_mixes_130 (by decide) (fun c10 => ?_) (fun c10 => ?_)
    · have h := h.1 c10
      refine gJ.sub [0, 1, 3] rfl ?_
      exact t_X10_mixes_154 hM C hX hR  hK27 hK65 h
    · have h := h.2 c10
      refine j_aload_n (pc := 133) C dX10_mixes_133 rfl 0 rfl ?_
      refine j_getR (pc := 134) C 200 37 226 (c_200 hM).1 (c_200 hM).2 rfl rfl (by decide) inw_X10 wd_1003 dX10_mixes_134 ?_
      refine j_iload_n (pc := 137) C dX10_mixes_137 rfl 3 rfl ?_
      obtain ⟨g12, h⟩ := h
      refine j_iald (pc := 138) C 226 (c_226 hM).1 (c_226 hM).2 g12 dX10_mixes_138 ?_
      refine j_iconst (pc := 139) (v := 1) C dX10_mixes_139 (by decide) ?_
      refine j_aload_n (pc := 140) C dX10_mixes_140 rfl 0 rfl ?_
      refine j_getI (pc := 141) C 200 31 (c_200 hM).1 (c_200 hM).2 rfl rfl (by decide) inw_X10 wd_997 dX10_mixes_141 ?_
      refine j_ishl (pc := 144) C dX10_mixes_144 ?_
      refine j_iconst (pc := 145) (v := 1) C dX10_mixes_145 (by decide) ?_
      refine j_isub (pc := 146) C dX10_mixes_146 ?_
      refine j_icmp_ne (pc := 147) (tgt := 154) C dX10_mixes_147 (by decide) (fun c13 => ?_) (fun c13 => ?_)
      · have h := h.1 c13
        refine gJ.sub [0, 1, 3] rfl ?_
        exact t_X10_mixes_154 hM C hX hR  hK27 hK65 h
      · have h := h.2 c13
        refine j_iconst (pc := 150) (v := 1) C dX10_mixes_150 (by decide) ?_
        refine j_goto (pc := 151) (tgt := 155) C dX10_mixes_151 (by decide) ?_
        refine gJ.sub [0, 1, 3] rfl ?_
        exact t_X10_mixes_155 hM C hX hR  hK27 hK65 h
  · have h := h.2 c9
    refine j_aload_n (pc := 97) C dX10_mixes_97 rfl 0 rfl ?_
    refine j_getR (pc := 98) C 200 37 226 (c_200 hM).1 (c_200 hM).2 rfl rfl (by decide) inw_X10 wd_1003 dX10_mixes_98 ?_
    refine j_iload_n (pc := 101) C dX10_mixes_101 rfl 3 rfl ?_
    refine j_dup2_11 (pc := 102) C dX10_mixes_102 rfl rfl ?_
    obtain ⟨g14, h⟩ := h
    refine j_iald (pc := 103) C 226 (c_226 hM).1 (c_226 hM).2 g14 dX10_mixes_103 ?_
    refine j_aload_n (pc := 104) C dX10_mixes_104 rfl 0 rfl ?_
    refine j_getR (pc := 105) C 200 38 227 (c_200 hM).1 (c_200 hM).2 rfl rfl (by decide) inw_X10 wd_1004 dX10_mixes_105 ?_
    refine j_aload_n (pc := 108) C dX10_mixes_108 rfl 0 rfl ?_
    refine j_getR (pc := 109) C 200 33 222 (c_200 hM).1 (c_200 hM).2 rfl rfl (by decide) inw_X10 wd_999 dX10_mixes_109 ?_
    refine j_bipush (pc := 112) (v := 9) C dX10_mixes_112 (by decide) ?_
    refine j_iload_n (pc := 114) C dX10_mixes_114 rfl 3 rfl ?_
    refine j_imul (pc := 115) C dX10_mixes_115 ?_
    refine j_iload (pc := 116) C dX10_mixes_116 4 rfl ?_
    refine j_iadd (pc := 118) C dX10_mixes_118 ?_
    obtain ⟨g15, h⟩ := h
    refine j_iald (pc := 119) C 222 (c_222 hM).1 (c_222 hM).2 g15 dX10_mixes_119 ?_
    obtain ⟨g16, h⟩ := h
    refine j_iald (pc := 120) C 227 (c_227 hM).1 (c_227 hM).2 g16 dX10_mixes_120 ?_
    refine j_ior (pc := 121) C dX10_mixes_121 ?_
    obtain ⟨g17, h⟩ := h
    refine j_iast (pc := 122) C 226 (c_226 hM).1 (c_226 hM).2 g17 dX10_mixes_122 ?_
    refine gJ.nmI (fun I18 eI18 => ?_)
    have h := h I18 eI18
    obtain ⟨n19, en19⟩ : ∃ z : Int32, z = v4 + 1 := ⟨_, rfl⟩
    have h := h n19 en19
    refine j_iinc (pc := 123) (v := n19) (lv' := [(4, .int n19), (0, .ref (V.2.1 200)), (1, .int v1), (2, .int v2), (3, .int v3)]) C dX10_mixes_123 4 rfl (by rw [en19]; rfl) (by decide) rfl ?_
    refine j_goto (pc := 126) (tgt := 83) C dX10_mixes_126 (by decide) ?_
    refine gJ.sub [1, 2, 3, 4, 0] rfl ?_
    exact hK83 _ _ h
set_option maxRecDepth 100000 in
set_option maxHeartbeats 4000000 in
theorem t_X10_mixes_83 {X : gX} {l : Launch} {D : va_G} {cy : Nat → ClassId} {nm : String} {V : gV} (hM : gModM V) (C : gC X cX10_mixes RX10 (some .int) 5 rm_X10_mixes) (hX : gIs X l D cy nm) {I : gI} {J : gL} {Po : Int32 → gI → Prop} (hR : gR X (gPi V (fun x I' J' => J = J' ∧ Po x I'))) {v1 : Int32} {v2 : Int32} {v3 : Int32} {v4 : Int32} {K27 : Int32 → gI → Prop} {K65 : Int32 → Int32 → gI → Prop} (hK27 : ∀ (y1 : Int32) (I1 : gI), K27 y1 I1 → gJ X V 0 0 27 [(0, .ref (V.2.1 200)), (1, .int y1)] [] I1 J) (hK65 : ∀ (y2 : Int32) (y3 : Int32) (I1 : gI), K65 y2 y3 I1 → gJ X V 0 0 65 [(0, .ref (V.2.1 200)), (1, .int v1), (2, .int y2), (3, .int y3)] [] I1 J) (h : w_X10_mixes_83 Po K27 K65 v1 v2 v3 v4 I) : gJ X V 0 0 83 [(0, .ref (V.2.1 200)), (1, .int v1), (2, .int v2), (3, .int v3), (4, .int v4)] [] I J := by
  unfold w_X10_mixes_83 at h
  obtain ⟨Inv, mu, h0, hs⟩ := h
  have key : ∀ (n : Nat) (v4 : Int32) (I : gI), Inv v4 I → mu v4 I < n → gJ X V 0 0 83 [(0, .ref (V.2.1 200)), (1, .int v1), (2, .int v2), (3, .int v3), (4, .int v4)] [] I J := by
    intro n
    induction n with
    | zero => intro v4 I hi hn; exact absurd hn (Nat.not_lt_zero _)
    | succ n ih =>
      intro v4 I hi hn
      exact t_X10_mixes_83b hM C hX hR  hK27 hK65 (fun u4 I1 hk => ih u4 I1 hk.1 (Nat.lt_of_lt_of_le hk.2 (Nat.le_of_lt_succ hn))) (hs v4 I hi)
  exact key _ v4 I h0 (Nat.lt_succ_self _)
set_option maxRecDepth 100000 in
set_option maxHeartbeats 4000000 in
theorem t_X10_mixes_65b {X : gX} {l : Launch} {D : va_G} {cy : Nat → ClassId} {nm : String} {V : gV} (hM : gModM V) (C : gC X cX10_mixes RX10 (some .int) 5 rm_X10_mixes) (hX : gIs X l D cy nm) {I : gI} {J : gL} {Po : Int32 → gI → Prop} (hR : gR X (gPi V (fun x I' J' => J = J' ∧ Po x I'))) {v1 : Int32} {v2 : Int32} {v3 : Int32} {K27 : Int32 → gI → Prop} {K65 : Int32 → Int32 → gI → Prop} (hK27 : ∀ (y1 : Int32) (I1 : gI), K27 y1 I1 → gJ X V 0 0 27 [(0, .ref (V.2.1 200)), (1, .int y1)] [] I1 J) (hK65 : ∀ (y2 : Int32) (y3 : Int32) (I1 : gI), K65 y2 y3 I1 → gJ X V 0 0 65 [(0, .ref (V.2.1 200)), (1, .int v1), (2, .int y2), (3, .int y3)] [] I1 J) (h : w_X10_mixes_65b Po K27 K65 v1 v2 v3 I) : gJ X V 0 0 65 [(0, .ref (V.2.1 200)), (1, .int v1), (2, .int v2), (3, .int v3)] [] I J := by
  unfold w_X10_mixes_65b at h
  refine j_iload_n (pc := 65) C dX10_mixes_65 rfl 3 rfl ?_
  refine j_aload_n (pc := 66) C dX10_mixes_66 rfl 0 rfl ?_
  refine j_getI (pc := 67) C 200 31 (c_200 hM).1 (c_200 hM).2 rfl rfl (by decide) inw_X10 wd_997 dX10_mixes_67 ?_
  refine j_icmp_ge (pc := 70) (tgt := 162) C dX10_mixes_70 (by decide) (fun c4 => ?_) (fun c4 => ?_)
  · have h := h.1 c4
    refine j_iload_n (pc := 162) C dX10_mixes_162 rfl 2 rfl ?_
    refine j_if_eq (pc := 163) (tgt := 168) C dX10_mixes_163 (by decide) (fun c5 => ?_) (fun c5 => ?_)
    · have h := h.1 c5
      obtain ⟨n6, en6⟩ : ∃ z : Int32, z = v1 + 1 := ⟨_, rfl⟩
      have h := h n6 en6
      refine j_iinc (pc := 168) (v := n6) (lv' := [(1, .int n6), (0, .ref (V.2.1 200)), (2, .int v2), (3, .int v3)]) C dX10_mixes_168 1 rfl (by rw [en6]; rfl) (by decide) rfl ?_
      refine j_goto (pc := 171) (tgt := 27) C dX10_mixes_171 (by decide) ?_
      refine gJ.sub [1, 0] rfl ?_
      exact hK27 _ _ h
    · have h := h.2 c5
      refine j_iload_n (pc := 166) C dX10_mixes_166 rfl 1 rfl ?_
      exact j_iret (pc := 167) C hR (Nat.zero_le _) (Nat.zero_le _) dX10_mixes_167 ⟨_, rfl, rfl, rfl, h⟩
  · have h := h.2 c4
    refine j_aload_n (pc := 73) C dX10_mixes_73 rfl 0 rfl ?_
    refine j_getR (pc := 74) C 200 37 226 (c_200 hM).1 (c_200 hM).2 rfl rfl (by decide) inw_X10 wd_1003 dX10_mixes_74 ?_
    refine j_iload_n (pc := 77) C dX10_mixes_77 rfl 3 rfl ?_
    refine j_iconst (pc := 78) (v := 0) C dX10_mixes_78 (by decide) ?_
    obtain ⟨g7, h⟩ := h
    refine j_iast (pc := 79) C 226 (c_226 hM).1 (c_226 hM).2 g7 dX10_mixes_79 ?_
    refine gJ.nmI (fun I8 eI8 => ?_)
    have h := h I8 eI8
    refine j_iconst (pc := 80) (v := 0) C dX10_mixes_80 (by decide) ?_
    refine j_istore (pc := 81) (lv' := [(4, .int (0 : Int32)), (0, .ref (V.2.1 200)), (1, .int v1), (2, .int v2), (3, .int v3)]) C dX10_mixes_81 (by decide) rfl ?_
    refine gJ.sub [1, 2, 3, 4, 0] rfl ?_
    exact t_X10_mixes_83 hM C hX hR  hK27 hK65 h
set_option maxRecDepth 100000 in
set_option maxHeartbeats 4000000 in
theorem t_X10_mixes_65 {X : gX} {l : Launch} {D : va_G} {cy : Nat → ClassId} {nm : String} {V : gV} (hM : gModM V) (C : gC X cX10_mixes RX10 (some .int) 5 rm_X10_mixes) (hX : gIs X l D cy nm) {I : gI} {J : gL} {Po : Int32 → gI → Prop} (hR : gR X (gPi V (fun x I' J' => J = J' ∧ Po x I'))) {v1 : Int32} {v2 : Int32} {v3 : Int32} {K27 : Int32 → gI → Prop} (hK27 : ∀ (y1 : Int32) (I1 : gI), K27 y1 I1 → gJ X V 0 0 27 [(0, .ref (V.2.1 200)), (1, .int y1)] [] I1 J) (h : w_X10_mixes_65 Po K27 v1 v2 v3 I) : gJ X V 0 0 65 [(0, .ref (V.2.1 200)), (1, .int v1), (2, .int v2), (3, .int v3)] [] I J := by
  unfold w_X10_mixes_65 at h
  obtain ⟨Inv, mu, h0, hs⟩ := h
  have key : ∀ (n : Nat) (v2 : Int32) (v3 : Int32) (I : gI), Inv v2 v3 I → mu v2 v3 I < n → gJ X V 0 0 65 [(0, .ref (V.2.1 200)), (1, .int v1), (2, .int v2), (3, .int v3)] [] I J := by
    intro n
    induction n with
    | zero => intro v2 v3 I hi hn; exact absurd hn (Nat.not_lt_zero _)
    | succ n ih =>
      intro v2 v3 I hi hn
      exact t_X10_mixes_65b hM C hX hR  hK27 (fun u2 u3 I1 hk => ih u2 u3 I1 hk.1 (Nat.lt_of_lt_of_le hk.2 (Nat.le_of_lt_succ hn))) (hs v2 v3 I hi)
  exact key _ v2 v3 I h0 (Nat.lt_succ_self _)
set_option maxRecDepth 100000 in
set_option maxHeartbeats 4000000 in
theorem t_X10_mixes_37b {X : gX} {l : Launch} {D : va_G} {cy : Nat → ClassId} {nm : String} {V : gV} (hM : gModM V) (C : gC X cX10_mixes RX10 (some .int) 5 rm_X10_mixes) (hX : gIs X l D cy nm) {I : gI} {J : gL} {Po : Int32 → gI → Prop} (hR : gR X (gPi V (fun x I' J' => J = J' ∧ Po x I'))) {v1 : Int32} {v2 : Int32} {v3 : Int32} {K27 : Int32 → gI → Prop} {K37 : Int32 → gI → Prop} (hK27 : ∀ (y1 : Int32) (I1 : gI), K27 y1 I1 → gJ X V 0 0 27 [(0, .ref (V.2.1 200)), (1, .int y1)] [] I1 J) (hK37 : ∀ (y3 : Int32) (I1 : gI), K37 y3 I1 → gJ X V 0 0 37 [(0, .ref (V.2.1 200)), (1, .int v1), (2, .int v2), (3, .int y3)] [] I1 J) (h : w_X10_mixes_37b Po K27 K37 v1 v2 v3 I) : gJ X V 0 0 37 [(0, .ref (V.2.1 200)), (1, .int v1), (2, .int v2), (3, .int v3)] [] I J := by
  unfold w_X10_mixes_37b at h
  refine j_iload_n (pc := 37) C dX10_mixes_37 rfl 3 rfl ?_
  refine j_aload_n (pc := 38) C dX10_mixes_38 rfl 0 rfl ?_
  refine j_getI (pc := 39) C 200 31 (c_200 hM).1 (c_200 hM).2 rfl rfl (by decide) inw_X10 wd_997 dX10_mixes_39 ?_
  refine j_icmp_ge (pc := 42) (tgt := 63) C dX10_mixes_42 (by decide) (fun c3 => ?_) (fun c3 => ?_)
  · have h := h.1 c3
    refine j_iconst (pc := 63) (v := 0) C dX10_mixes_63 (by decide) ?_
    refine j_istore_n (pc := 64) (lv' := [(3, .int (0 : Int32)), (0, .ref (V.2.1 200)), (1, .int v1), (2, .int v2)]) C dX10_mixes_64 rfl (by decide) rfl ?_
    refine gJ.sub [1, 2, 3, 0] rfl ?_
    exact t_X10_mixes_65 hM C hX hR  hK27 h
  · have h := h.2 c3
    refine j_aload_n (pc := 45) C dX10_mixes_45 rfl 0 rfl ?_
    refine j_getR (pc := 46) C 200 38 227 (c_200 hM).1 (c_200 hM).2 rfl rfl (by decide) inw_X10 wd_1004 dX10_mixes_46 ?_
    refine j_iload_n (pc := 49) C dX10_mixes_49 rfl 3 rfl ?_
    refine j_aload_n (pc := 50) C dX10_mixes_50 rfl 0 rfl ?_
    refine j_getR (pc := 51) C 200 37 226 (c_200 hM).1 (c_200 hM).2 rfl rfl (by decide) inw_X10 wd_1003 dX10_mixes_51 ?_
    refine j_iload_n (pc := 54) C dX10_mixes_54 rfl 3 rfl ?_
    obtain ⟨g20, h⟩ := h
    refine j_iald (pc := 55) C 226 (c_226 hM).1 (c_226 hM).2 g20 dX10_mixes_55 ?_
    obtain ⟨g21, h⟩ := h
    refine j_iast (pc := 56) C 227 (c_227 hM).1 (c_227 hM).2 g21 dX10_mixes_56 ?_
    refine gJ.nmI (fun I22 eI22 => ?_)
    have h := h I22 eI22
    obtain ⟨n23, en23⟩ : ∃ z : Int32, z = v3 + 1 := ⟨_, rfl⟩
    have h := h n23 en23
    refine j_iinc (pc := 57) (v := n23) (lv' := [(3, .int n23), (0, .ref (V.2.1 200)), (1, .int v1), (2, .int v2)]) C dX10_mixes_57 3 rfl (by rw [en23]; rfl) (by decide) rfl ?_
    refine j_goto (pc := 60) (tgt := 37) C dX10_mixes_60 (by decide) ?_
    refine gJ.sub [1, 2, 3, 0] rfl ?_
    exact hK37 _ _ h
set_option maxRecDepth 100000 in
set_option maxHeartbeats 4000000 in
theorem t_X10_mixes_37 {X : gX} {l : Launch} {D : va_G} {cy : Nat → ClassId} {nm : String} {V : gV} (hM : gModM V) (C : gC X cX10_mixes RX10 (some .int) 5 rm_X10_mixes) (hX : gIs X l D cy nm) {I : gI} {J : gL} {Po : Int32 → gI → Prop} (hR : gR X (gPi V (fun x I' J' => J = J' ∧ Po x I'))) {v1 : Int32} {v2 : Int32} {v3 : Int32} {K27 : Int32 → gI → Prop} (hK27 : ∀ (y1 : Int32) (I1 : gI), K27 y1 I1 → gJ X V 0 0 27 [(0, .ref (V.2.1 200)), (1, .int y1)] [] I1 J) (h : w_X10_mixes_37 Po K27 v1 v2 v3 I) : gJ X V 0 0 37 [(0, .ref (V.2.1 200)), (1, .int v1), (2, .int v2), (3, .int v3)] [] I J := by
  unfold w_X10_mixes_37 at h
  obtain ⟨Inv, mu, h0, hs⟩ := h
  have key : ∀ (n : Nat) (v3 : Int32) (I : gI), Inv v3 I → mu v3 I < n → gJ X V 0 0 37 [(0, .ref (V.2.1 200)), (1, .int v1), (2, .int v2), (3, .int v3)] [] I J := by
    intro n
    induction n with
    | zero => intro v3 I hi hn; exact absurd hn (Nat.not_lt_zero _)
    | succ n ih =>
      intro v3 I hi hn
      exact t_X10_mixes_37b hM C hX hR  hK27 (fun u3 I1 hk => ih u3 I1 hk.1 (Nat.lt_of_lt_of_le hk.2 (Nat.le_of_lt_succ hn))) (hs v3 I hi)
  exact key _ v3 I h0 (Nat.lt_succ_self _)
set_option maxRecDepth 100000 in
set_option maxHeartbeats 4000000 in
theorem t_X10_mixes_27b {X : gX} {l : Launch} {D : va_G} {cy : Nat → ClassId} {nm : String} {V : gV} (hM : gModM V) (C : gC X cX10_mixes RX10 (some .int) 5 rm_X10_mixes) (hX : gIs X l D cy nm) {I : gI} {J : gL} {Po : Int32 → gI → Prop} (hR : gR X (gPi V (fun x I' J' => J = J' ∧ Po x I'))) {v1 : Int32} {K27 : Int32 → gI → Prop} (hK27 : ∀ (y1 : Int32) (I1 : gI), K27 y1 I1 → gJ X V 0 0 27 [(0, .ref (V.2.1 200)), (1, .int y1)] [] I1 J) (h : w_X10_mixes_27b Po K27 v1 I) : gJ X V 0 0 27 [(0, .ref (V.2.1 200)), (1, .int v1)] [] I J := by
  unfold w_X10_mixes_27b at h
  refine j_iload_n (pc := 27) C dX10_mixes_27 rfl 1 rfl ?_
  refine j_bipush (pc := 28) (v := 60) C dX10_mixes_28 (by decide) ?_
  refine j_icmp_ge (pc := 30) (tgt := 174) C dX10_mixes_30 (by decide) (fun c2 => ?_) (fun c2 => ?_)
  · have h := h.1 c2
    refine j_iconst (pc := 174) (v := (-1)) C dX10_mixes_174 (by decide) ?_
    exact j_iret (pc := 175) C hR (Nat.zero_le _) (Nat.zero_le _) dX10_mixes_175 ⟨_, rfl, rfl, rfl, h⟩
  · have h := h.2 c2
    refine j_iconst (pc := 33) (v := 1) C dX10_mixes_33 (by decide) ?_
    refine j_istore_n (pc := 34) (lv' := [(2, .int (1 : Int32)), (0, .ref (V.2.1 200)), (1, .int v1)]) C dX10_mixes_34 rfl (by decide) rfl ?_
    refine j_iconst (pc := 35) (v := 0) C dX10_mixes_35 (by decide) ?_
    refine j_istore_n (pc := 36) (lv' := [(3, .int (0 : Int32)), (2, .int (1 : Int32)), (0, .ref (V.2.1 200)), (1, .int v1)]) C dX10_mixes_36 rfl (by decide) rfl ?_
    refine gJ.sub [2, 3, 1, 0] rfl ?_
    exact t_X10_mixes_37 hM C hX hR  hK27 h
set_option maxRecDepth 100000 in
set_option maxHeartbeats 4000000 in
theorem t_X10_mixes_27 {X : gX} {l : Launch} {D : va_G} {cy : Nat → ClassId} {nm : String} {V : gV} (hM : gModM V) (C : gC X cX10_mixes RX10 (some .int) 5 rm_X10_mixes) (hX : gIs X l D cy nm) {I : gI} {J : gL} {Po : Int32 → gI → Prop} (hR : gR X (gPi V (fun x I' J' => J = J' ∧ Po x I'))) {v1 : Int32} (h : w_X10_mixes_27 Po v1 I) : gJ X V 0 0 27 [(0, .ref (V.2.1 200)), (1, .int v1)] [] I J := by
  unfold w_X10_mixes_27 at h
  obtain ⟨Inv, mu, h0, hs⟩ := h
  have key : ∀ (n : Nat) (v1 : Int32) (I : gI), Inv v1 I → mu v1 I < n → gJ X V 0 0 27 [(0, .ref (V.2.1 200)), (1, .int v1)] [] I J := by
    intro n
    induction n with
    | zero => intro v1 I hi hn; exact absurd hn (Nat.not_lt_zero _)
    | succ n ih =>
      intro v1 I hi hn
      exact t_X10_mixes_27b hM C hX hR   (fun u1 I1 hk => ih u1 I1 hk.1 (Nat.lt_of_lt_of_le hk.2 (Nat.le_of_lt_succ hn))) (hs v1 I hi)
  exact key _ v1 I h0 (Nat.lt_succ_self _)
set_option maxRecDepth 100000 in
set_option maxHeartbeats 4000000 in
theorem t_X10_mixes_2b {X : gX} {l : Launch} {D : va_G} {cy : Nat → ClassId} {nm : String} {V : gV} (hM : gModM V) (C : gC X cX10_mixes RX10 (some .int) 5 rm_X10_mixes) (hX : gIs X l D cy nm) {I : gI} {J : gL} {Po : Int32 → gI → Prop} (hR : gR X (gPi V (fun x I' J' => J = J' ∧ Po x I'))) {v1 : Int32} {K2 : Int32 → gI → Prop} (hK2 : ∀ (y1 : Int32) (I1 : gI), K2 y1 I1 → gJ X V 0 0 2 [(0, .ref (V.2.1 200)), (1, .int y1)] [] I1 J) (h : w_X10_mixes_2b Po K2 v1 I) : gJ X V 0 0 2 [(0, .ref (V.2.1 200)), (1, .int v1)] [] I J := by
  unfold w_X10_mixes_2b at h
  refine j_iload_n (pc := 2) C dX10_mixes_2 rfl 1 rfl ?_
  refine j_aload_n (pc := 3) C dX10_mixes_3 rfl 0 rfl ?_
  refine j_getI (pc := 4) C 200 31 (c_200 hM).1 (c_200 hM).2 rfl rfl (by decide) inw_X10 wd_997 dX10_mixes_4 ?_
  refine j_icmp_ge (pc := 7) (tgt := 25) C dX10_mixes_7 (by decide) (fun c1 => ?_) (fun c1 => ?_)
  · have h := h.1 c1
    refine j_iconst (pc := 25) (v := 1) C dX10_mixes_25 (by decide) ?_
    refine j_istore_n (pc := 26) (lv' := [(1, .int (1 : Int32)), (0, .ref (V.2.1 200))]) C dX10_mixes_26 rfl (by decide) rfl ?_
    refine gJ.sub [1, 0] rfl ?_
    exact t_X10_mixes_27 hM C hX hR   h
  · have h := h.2 c1
    refine j_aload_n (pc := 10) C dX10_mixes_10 rfl 0 rfl ?_
    refine j_getR (pc := 11) C 200 37 226 (c_200 hM).1 (c_200 hM).2 rfl rfl (by decide) inw_X10 wd_1003 dX10_mixes_11 ?_
    refine j_iload_n (pc := 14) C dX10_mixes_14 rfl 1 rfl ?_
    refine j_iconst (pc := 15) (v := 1) C dX10_mixes_15 (by decide) ?_
    refine j_iload_n (pc := 16) C dX10_mixes_16 rfl 1 rfl ?_
    refine j_ishl (pc := 17) C dX10_mixes_17 ?_
    obtain ⟨g24, h⟩ := h
    refine j_iast (pc := 18) C 226 (c_226 hM).1 (c_226 hM).2 g24 dX10_mixes_18 ?_
    refine gJ.nmI (fun I25 eI25 => ?_)
    have h := h I25 eI25
    obtain ⟨n26, en26⟩ : ∃ z : Int32, z = v1 + 1 := ⟨_, rfl⟩
    have h := h n26 en26
    refine j_iinc (pc := 19) (v := n26) (lv' := [(1, .int n26), (0, .ref (V.2.1 200))]) C dX10_mixes_19 1 rfl (by rw [en26]; rfl) (by decide) rfl ?_
    refine j_goto (pc := 22) (tgt := 2) C dX10_mixes_22 (by decide) ?_
    refine gJ.sub [1, 0] rfl ?_
    exact hK2 _ _ h
set_option maxRecDepth 100000 in
set_option maxHeartbeats 4000000 in
theorem t_X10_mixes_2 {X : gX} {l : Launch} {D : va_G} {cy : Nat → ClassId} {nm : String} {V : gV} (hM : gModM V) (C : gC X cX10_mixes RX10 (some .int) 5 rm_X10_mixes) (hX : gIs X l D cy nm) {I : gI} {J : gL} {Po : Int32 → gI → Prop} (hR : gR X (gPi V (fun x I' J' => J = J' ∧ Po x I'))) {v1 : Int32} (h : w_X10_mixes_2 Po v1 I) : gJ X V 0 0 2 [(0, .ref (V.2.1 200)), (1, .int v1)] [] I J := by
  unfold w_X10_mixes_2 at h
  obtain ⟨Inv, mu, h0, hs⟩ := h
  have key : ∀ (n : Nat) (v1 : Int32) (I : gI), Inv v1 I → mu v1 I < n → gJ X V 0 0 2 [(0, .ref (V.2.1 200)), (1, .int v1)] [] I J := by
    intro n
    induction n with
    | zero => intro v1 I hi hn; exact absurd hn (Nat.not_lt_zero _)
    | succ n ih =>
      intro v1 I hi hn
      exact t_X10_mixes_2b hM C hX hR   (fun u1 I1 hk => ih u1 I1 hk.1 (Nat.lt_of_lt_of_le hk.2 (Nat.le_of_lt_succ hn))) (hs v1 I hi)
  exact key _ v1 I h0 (Nat.lt_succ_self _)
set_option maxRecDepth 100000 in
set_option maxHeartbeats 4000000 in
theorem m_X10_mixes {l : Launch} {D : va_G} {cy : Nat → ClassId} {V : gV} (hM : gModM V) {I : gI} {J : gL} {Po : Int32 → gI → Prop} (h : wp_X10_mixes I Po) : gMet l D cy yX10_mixes cX10_mixes 5 (some .int) rm_X10_mixes V [.ref (V.2.1 200)] I J (gPi V (fun x I' J' => J = J' ∧ Po x I')) := by
  refine gMet.of (by decide) (Nat.le_of_ble_eq_true rfl) (fun X hX C hR => ?_)
  have C : gC X cX10_mixes RX10 (some .int) 5 rm_X10_mixes := C
  show gJ X V 0 0 0 [(0, .ref (V.2.1 200))] [] I J
  unfold wp_X10_mixes at h
  refine j_iconst (pc := 0) (v := 0) C dX10_mixes_0 (by decide) ?_
  refine j_istore_n (pc := 1) (lv' := [(1, .int (0 : Int32)), (0, .ref (V.2.1 200))]) C dX10_mixes_1 rfl (by decide) rfl ?_
  refine gJ.sub [1, 0] rfl ?_
  exact t_X10_mixes_2 hM C hX hR   h
/-! TileRulesModel.squares(II)I -/
abbrev rm_X10_squares : Room := { frames := 2, cells := 0, slots := 0, locals := 49 }
theorem ok_X10_squares : gOk yX10_squares cX10_squares 8 (some .int) 2 := ⟨wd_1288, wd_74, by decide +kernel⟩
def w_X10_squares_152  (Po : Int32 → gI → Prop) (K54 : Int32 → Int32 → gI → Prop) (K65 : Int32 → Int32 → gI → Prop) (v1 : Int32) (v2 : Int32) (v3 : Int32) (v5 : Int32) (v6 : Int32) (v7 : Int32) (s0 : Int32) (s1 : Int32) (I : gI) : Prop :=
  ∀ n17 : Int32, n17 = (s1 + s0) → vp_in v7 1296 ∧ ∀ I19 : gI, I19 = gup I 228 (v7).toNatClampNeg (vp_nar .boolean (1 : Int32)) → ∀ n20 : Int32, n20 = v6 + 1 → K65 n17 n20 I19
def w_X10_squares_65b  (Po : Int32 → gI → Prop) (K54 : Int32 → Int32 → gI → Prop) (K65 : Int32 → Int32 → gI → Prop) (v1 : Int32) (v2 : Int32) (v3 : Int32) (v4 : Int32) (v5 : Int32) (v6 : Int32) (I : gI) : Prop :=
  (v3 ≤ (v6 + (1 : Int32)) → ∀ n9 : Int32, n9 = v5 + 1 → K54 v4 n9 I) ∧ (¬ v3 ≤ (v6 + (1 : Int32)) → wp_X10_grown v1 v2 v6 v5 I (fun r10 => wp_X10_grown v1 v2 (v6 + (1 : Int32)) v5 I (fun r11 => wp_X10_grown v1 v2 v6 (v5 + (1 : Int32)) I (fun r12 => wp_X10_grown v1 v2 (v6 + (1 : Int32)) (v5 + (1 : Int32)) I (fun r13 => ∀ n14 : Int32, n14 = ((((((r10 * (6 : Int32)) + r11) * (6 : Int32)) + r12) * (6 : Int32)) + r13) → vp_in n14 1296 ∧ ((I 228 (n14).toNatClampNeg) = 0 → w_X10_squares_152 Po K54 K65 v1 v2 v3 v5 v6 n14 (1 : Int32) v4 I) ∧ (¬ (I 228 (n14).toNatClampNeg) = 0 → w_X10_squares_152 Po K54 K65 v1 v2 v3 v5 v6 n14 (0 : Int32) v4 I))))))
def w_X10_squares_65  (Po : Int32 → gI → Prop) (K54 : Int32 → Int32 → gI → Prop) (v1 : Int32) (v2 : Int32) (v3 : Int32) (v4 : Int32) (v5 : Int32) (v6 : Int32) (I : gI) : Prop :=
  ∃ (Inv : Int32 → Int32 → gI → Prop) (mu : Int32 → Int32 → gI → Nat), Inv v4 v6 I ∧ ∀ (v4 : Int32) (v6 : Int32) (I : gI), Inv v4 v6 I → w_X10_squares_65b  Po K54 (fun u4 u6 I1 => Inv u4 u6 I1 ∧ mu u4 u6 I1 < mu v4 v6 I) v1 v2 v3 v4 v5 v6 I
def w_X10_squares_54b  (Po : Int32 → gI → Prop) (K54 : Int32 → Int32 → gI → Prop) (v1 : Int32) (v2 : Int32) (v3 : Int32) (v4 : Int32) (v5 : Int32) (I : gI) : Prop :=
  (v3 ≤ (v5 + (1 : Int32)) → Po v4 I) ∧ (¬ v3 ≤ (v5 + (1 : Int32)) → w_X10_squares_65 Po K54 v1 v2 v3 v4 v5 (0 : Int32) I)
def w_X10_squares_54  (Po : Int32 → gI → Prop)  (v1 : Int32) (v2 : Int32) (v3 : Int32) (v4 : Int32) (v5 : Int32) (I : gI) : Prop :=
  ∃ (Inv : Int32 → Int32 → gI → Prop) (mu : Int32 → Int32 → gI → Nat), Inv v4 v5 I ∧ ∀ (v4 : Int32) (v5 : Int32) (I : gI), Inv v4 v5 I → w_X10_squares_54b  Po  (fun u4 u5 I1 => Inv u4 u5 I1 ∧ mu u4 u5 I1 < mu v4 v5 I) v1 v2 v3 v4 v5 I
def w_X10_squares_22b  (Po : Int32 → gI → Prop) (K22 : Int32 → gI → Prop) (v1 : Int32) (v2 : Int32) (v3 : Int32) (I : gI) : Prop :=
  ((1296 : Int32) ≤ v3 → wp_X10_width v2 I (fun r6 => w_X10_squares_54 Po v1 v2 r6 (0 : Int32) (0 : Int32) I)) ∧ (¬ (1296 : Int32) ≤ v3 → vp_in v3 1296 ∧ ∀ I22 : gI, I22 = gup I 228 (v3).toNatClampNeg (vp_nar .boolean (0 : Int32)) → ∀ n23 : Int32, n23 = v3 + 1 → K22 n23 I22)
def w_X10_squares_22  (Po : Int32 → gI → Prop)  (v1 : Int32) (v2 : Int32) (v3 : Int32) (I : gI) : Prop :=
  ∃ (Inv : Int32 → gI → Prop) (mu : Int32 → gI → Nat), Inv v3 I ∧ ∀ (v3 : Int32) (I : gI), Inv v3 I → w_X10_squares_22b  Po  (fun u3 I1 => Inv u3 I1 ∧ mu u3 I1 < mu v3 I) v1 v2 v3 I
def wp_X10_squares (a1 : Int32) (a2 : Int32) (I : gI) (Po : Int32 → gI → Prop) : Prop :=
  wp_X10_isLetter a1 I (fun r1 => (r1 = 0 → Po (-2 : Int32) I) ∧ (¬ r1 = 0 → wp_X10_isIn a2 (0 : Int32) (5 : Int32) (fun r3 => (¬ r3 = 0 → w_X10_squares_22 Po a1 a2 (0 : Int32) I) ∧ (r3 = 0 → Po (-2 : Int32) I))))
set_option maxRecDepth 100000 in
set_option maxHeartbeats 4000000 in
theorem t_X10_squares_152 {X : gX} {l : Launch} {D : va_G} {cy : Nat → ClassId} {nm : String} {V : gV} (hM : gModM V) (C : gC X cX10_squares RX10 (some .int) 8 rm_X10_squares) (hX : gIs X l D cy nm) {I : gI} {J : gL} {Po : Int32 → gI → Prop} (hR : gR X (gPi V (fun x I' J' => J = J' ∧ Po x I'))) {v1 : Int32} {v2 : Int32} {v3 : Int32} {v5 : Int32} {v6 : Int32} {v7 : Int32} {s0 : Int32} {s1 : Int32} {K54 : Int32 → Int32 → gI → Prop} {K65 : Int32 → Int32 → gI → Prop} (hK54 : ∀ (y4 : Int32) (y5 : Int32) (I1 : gI), K54 y4 y5 I1 → gJ X V 0 0 54 [(0, .ref (V.2.1 200)), (1, .int v1), (2, .int v2), (3, .int v3), (4, .int y4), (5, .int y5)] [] I1 J) (hK65 : ∀ (y4 : Int32) (y6 : Int32) (I1 : gI), K65 y4 y6 I1 → gJ X V 0 0 65 [(0, .ref (V.2.1 200)), (1, .int v1), (2, .int v2), (3, .int v3), (4, .int y4), (5, .int v5), (6, .int y6)] [] I1 J) (h : w_X10_squares_152 Po K54 K65 v1 v2 v3 v5 v6 v7 s0 s1 I) : gJ X V 0 0 152 [(0, .ref (V.2.1 200)), (1, .int v1), (2, .int v2), (3, .int v3), (5, .int v5), (6, .int v6), (7, .int v7)] [.int s0, .int s1] I J := by
  unfold w_X10_squares_152 at h
  refine j_iadd (pc := 152) C dX10_squares_152 ?_
  refine gJ.topi (fun n17 en17 => ?_)
  have h := h n17 en17
  refine j_istore (pc := 153) (lv' := [(4, .int n17), (0, .ref (V.2.1 200)), (1, .int v1), (2, .int v2), (3, .int v3), (5, .int v5), (6, .int v6), (7, .int v7)]) C dX10_squares_153 (by decide) rfl ?_
  refine j_aload_n (pc := 155) C dX10_squares_155 rfl 1 rfl ?_
  refine j_getR (pc := 156) C 200 39 228 (c_200 hM).1 (c_200 hM).2 rfl rfl (by decide) inw_X10 wd_1005 dX10_squares_156 ?_
  refine j_iload (pc := 159) C dX10_squares_159 7 rfl ?_
  refine j_iconst (pc := 161) (v := 1) C dX10_squares_161 (by decide) ?_
  obtain ⟨g18, h⟩ := h
  refine j_zast (pc := 162) C 228 (c_228 hM).1 (c_228 hM).2 g18 dX10_squares_162 ?_
  refine gJ.nmI (fun I19 eI19 => ?_)
  have h := h I19 eI19
  obtain ⟨n20, en20⟩ : ∃ z : Int32, z = v6 + 1 := ⟨_, rfl⟩
  have h := h n20 en20
  refine j_iinc (pc := 163) (v := n20) (lv' := [(6, .int n20), (4, .int n17), (0, .ref (V.2.1 200)), (1, .int v1), (2, .int v2), (3, .int v3), (5, .int v5), (7, .int v7)]) C dX10_squares_163 6 rfl (by rw [en20]; rfl) (by decide) rfl ?_
  refine j_goto (pc := 166) (tgt := 65) C dX10_squares_166 (by decide) ?_
  refine gJ.sub [2, 3, 4, 5, 1, 6, 0] rfl ?_
  exact hK65 _ _ _ h
set_option maxRecDepth 100000 in
set_option maxHeartbeats 4000000 in
theorem t_X10_squares_65b {X : gX} {l : Launch} {D : va_G} {cy : Nat → ClassId} {nm : String} {V : gV} (hM : gModM V) (C : gC X cX10_squares RX10 (some .int) 8 rm_X10_squares) (hX : gIs X l D cy nm) {I : gI} {J : gL} {Po : Int32 → gI → Prop} (hR : gR X (gPi V (fun x I' J' => J = J' ∧ Po x I'))) {v1 : Int32} {v2 : Int32} {v3 : Int32} {v4 : Int32} {v5 : Int32} {v6 : Int32} {K54 : Int32 → Int32 → gI → Prop} {K65 : Int32 → Int32 → gI → Prop} (hK54 : ∀ (y4 : Int32) (y5 : Int32) (I1 : gI), K54 y4 y5 I1 → gJ X V 0 0 54 [(0, .ref (V.2.1 200)), (1, .int v1), (2, .int v2), (3, .int v3), (4, .int y4), (5, .int y5)] [] I1 J) (hK65 : ∀ (y4 : Int32) (y6 : Int32) (I1 : gI), K65 y4 y6 I1 → gJ X V 0 0 65 [(0, .ref (V.2.1 200)), (1, .int v1), (2, .int v2), (3, .int v3), (4, .int y4), (5, .int v5), (6, .int y6)] [] I1 J) (h : w_X10_squares_65b Po K54 K65 v1 v2 v3 v4 v5 v6 I) : gJ X V 0 0 65 [(0, .ref (V.2.1 200)), (1, .int v1), (2, .int v2), (3, .int v3), (4, .int v4), (5, .int v5), (6, .int v6)] [] I J := by
  unfold w_X10_squares_65b at h
  refine j_iload (pc := 65) C dX10_squares_65 6 rfl ?_
  refine j_iconst (pc := 67) (v := 1) C dX10_squares_67 (by decide) ?_
  refine j_iadd (pc := 68) C dX10_squares_68 ?_
  refine j_iload_n (pc := 69) C dX10_squares_69 rfl 3 rfl ?_
  refine j_icmp_ge (pc := 70) (tgt := 169) C dX10_squares_70 (by decide) (fun c8 => ?_) (fun c8 => ?_)
  · have h := h.1 c8
    obtain ⟨n9, en9⟩ : ∃ z : Int32, z = v5 + 1 := ⟨_, rfl⟩
    have h := h n9 en9
    refine j_iinc (pc := 169) (v := n9) (lv' := [(5, .int n9), (0, .ref (V.2.1 200)), (1, .int v1), (2, .int v2), (3, .int v3), (4, .int v4), (6, .int v6)]) C dX10_squares_169 5 rfl (by rw [en9]; rfl) (by decide) rfl ?_
    refine j_goto (pc := 172) (tgt := 54) C dX10_squares_172 (by decide) ?_
    refine gJ.sub [1, 2, 3, 4, 5, 0] rfl ?_
    exact hK54 _ _ _ h
  · have h := h.2 c8
    refine j_aload_n (pc := 73) C dX10_squares_73 rfl 0 rfl ?_
    refine j_iload_n (pc := 74) C dX10_squares_74 rfl 1 rfl ?_
    refine j_iload_n (pc := 75) C dX10_squares_75 rfl 2 rfl ?_
    refine j_iload (pc := 76) C dX10_squares_76 6 rfl ?_
    refine j_iload (pc := 78) C dX10_squares_78 5 rfl ?_
    refine j_callV (pc := 80) (As := [.int v1, .int v2, .int v6, .int v5]) (st := []) C hX 200 (m_X10_grown hM  h) (c_200 hM).1 (c_200 hM).2 rfl ok_X10_grown wd_1261 wd_1263 wd_62 ⟨by decide, by decide⟩ rfl rfl (Nat.le_of_ble_eq_true rfl) ⟨Nat.le_refl 0, Nat.le_refl 0⟩ dX10_squares_80 (fun r V1 I1 J1 hp => ?_)
    obtain ⟨r10, rfl, rfl, rfl, rfl, h⟩ := hp
    show gJ X V 0 0 83 _ [.int r10] _ _
    refine j_bipush (pc := 83) (v := 6) C dX10_squares_83 (by decide) ?_
    refine j_imul (pc := 85) C dX10_squares_85 ?_
    refine j_aload_n (pc := 86) C dX10_squares_86 rfl 0 rfl ?_
    refine j_iload_n (pc := 87) C dX10_squares_87 rfl 1 rfl ?_
    refine j_iload_n (pc := 88) C dX10_squares_88 rfl 2 rfl ?_
    refine j_iload (pc := 89) C dX10_squares_89 6 rfl ?_
    refine j_iconst (pc := 91) (v := 1) C dX10_squares_91 (by decide) ?_
    refine j_iadd (pc := 92) C dX10_squares_92 ?_
    refine j_iload (pc := 93) C dX10_squares_93 5 rfl ?_
    refine j_callV (pc := 95) (As := [.int v1, .int v2, .int (v6 + (1 : Int32)), .int v5]) (st := [.int (r10 * (6 : Int32))]) C hX 200 (m_X10_grown hM  h) (c_200 hM).1 (c_200 hM).2 rfl ok_X10_grown wd_1261 wd_1263 wd_62 ⟨by decide, by decide⟩ rfl rfl (Nat.le_of_ble_eq_true rfl) ⟨Nat.le_refl 0, Nat.le_refl 0⟩ dX10_squares_95 (fun r V1 I1 J1 hp => ?_)
    obtain ⟨r11, rfl, rfl, rfl, rfl, h⟩ := hp
    show gJ X V 0 0 98 _ [.int r11, .int (r10 * (6 : Int32))] _ _
    refine j_iadd (pc := 98) C dX10_squares_98 ?_
    refine j_bipush (pc := 99) (v := 6) C dX10_squares_99 (by decide) ?_
    refine j_imul (pc := 101) C dX10_squares_101 ?_
    refine j_aload_n (pc := 102) C dX10_squares_102 rfl 0 rfl ?_
    refine j_iload_n (pc := 103) C dX10_squares_103 rfl 1 rfl ?_
    refine j_iload_n (pc := 104) C dX10_squares_104 rfl 2 rfl ?_
    refine j_iload (pc := 105) C dX10_squares_105 6 rfl ?_
    refine j_iload (pc := 107) C dX10_squares_107 5 rfl ?_
    refine j_iconst (pc := 109) (v := 1) C dX10_squares_109 (by decide) ?_
    refine j_iadd (pc := 110) C dX10_squares_110 ?_
    refine j_callV (pc := 111) (As := [.int v1, .int v2, .int v6, .int (v5 + (1 : Int32))]) (st := [.int (((r10 * (6 : Int32)) + r11) * (6 : Int32))]) C hX 200 (m_X10_grown hM  h) (c_200 hM).1 (c_200 hM).2 rfl ok_X10_grown wd_1261 wd_1263 wd_62 ⟨by decide, by decide⟩ rfl rfl (Nat.le_of_ble_eq_true rfl) ⟨Nat.le_refl 0, Nat.le_refl 0⟩ dX10_squares_111 (fun r V1 I1 J1 hp => ?_)
    obtain ⟨r12, rfl, rfl, rfl, rfl, h⟩ := hp
    show gJ X V 0 0 114 _ [.int r12, .int (((r10 * (6 : Int32)) + r11) * (6 : Int32))] _ _
    refine j_iadd (pc := 114) C dX10_squares_114 ?_
    refine j_bipush (pc := 115) (v := 6) C dX10_squares_115 (by decide) ?_
    refine j_imul (pc := 117) C dX10_squares_117 ?_
    refine j_aload_n (pc := 118) C dX10_squares_118 rfl 0 rfl ?_
    refine j_iload_n (pc := 119) C dX10_squares_119 rfl 1 rfl ?_
    refine j_iload_n (pc := 120) C dX10_squares_120 rfl 2 rfl ?_
    refine j_iload (pc := 121) C dX10_squares_121 6 rfl ?_
    refine j_iconst (pc := 123) (v := 1) C dX10_squares_123 (by decide) ?_
    refine j_iadd (pc := 124) C dX10_squares_124 ?_
    refine j_iload (pc := 125) C dX10_squares_125 5 rfl ?_
    refine j_iconst (pc := 127) (v := 1) C dX10_squares_127 (by decide) ?_
    refine j_iadd (pc := 128) C dX10_squares_128 ?_
    refine j_callV (pc := 129) (As := [.int v1, .int v2, .int (v6 + (1 : Int32)), .int (v5 + (1 : Int32))]) (st := [.int (((((r10 * (6 : Int32)) + r11) * (6 : Int32)) + r12) * (6 : Int32))]) C hX 200 (m_X10_grown hM  h) (c_200 hM).1 (c_200 hM).2 rfl ok_X10_grown wd_1261 wd_1263 wd_62 ⟨by decide, by decide⟩ rfl rfl (Nat.le_of_ble_eq_true rfl) ⟨Nat.le_refl 0, Nat.le_refl 0⟩ dX10_squares_129 (fun r V1 I1 J1 hp => ?_)
    obtain ⟨r13, rfl, rfl, rfl, rfl, h⟩ := hp
    show gJ X V 0 0 132 _ [.int r13, .int (((((r10 * (6 : Int32)) + r11) * (6 : Int32)) + r12) * (6 : Int32))] _ _
    refine j_iadd (pc := 132) C dX10_squares_132 ?_
    refine gJ.topi (fun n14 en14 => ?_)
    have h := h n14 en14
    refine j_istore (pc := 133) (lv' := [(7, .int n14), (0, .ref (V.2.1 200)), (1, .int v1), (2, .int v2), (3, .int v3), (4, .int v4), (5, .int v5), (6, .int v6)]) C dX10_squares_133 (by decide) rfl ?_
    refine j_iload (pc := 135) C dX10_squares_135 5 rfl ?_
    refine j_aload_n (pc := 137) C dX10_squares_137 rfl 1 rfl ?_
    refine j_getR (pc := 138) C 200 39 228 (c_200 hM).1 (c_200 hM).2 rfl rfl (by decide) inw_X10 wd_1005 dX10_squares_138 ?_
    refine j_iload (pc := 141) C dX10_squares_141 0 rfl ?_
    obtain ⟨g15, h⟩ := h
    refine j_zald (pc := 143) C 228 (c_228 hM).1 (c_228 hM).2 g15 dX10_squares_143 ?_
    refine j_if_eq (pc := 144) (tgt := 151) C dX10_squares_144 (by decide) (fun c16 => ?_) (fun c16 => ?_)
    · have h := h.1 c16
      refine j_iconst (pc := 151) (v := 1) C dX10_squares_151 (by decide) ?_
      refine gJ.sub [1, 2, 3, 4, 6, 7, 0] rfl ?_
      exact t_X10_squares_152 hM C hX hR  hK54 hK65 h
    · have h := h.2 c16
      refine j_iconst (pc := 147) (v := 0) C dX10_squares_147 (by decide) ?_
      refine j_goto (pc := 148) (tgt := 152) C dX10_squares_148 (by decide) ?_
      refine gJ.sub [1, 2, 3, 4, 6, 7, 0] rfl ?_
      exact t_X10_squares_152 hM C hX hR  hK54 hK65 h
set_option maxRecDepth 100000 in
set_option maxHeartbeats 4000000 in
theorem t_X10_squares_65 {X : gX} {l : Launch} {D : va_G} {cy : Nat → ClassId} {nm : String} {V : gV} (hM : gModM V) (C : gC X cX10_squares RX10 (some .int) 8 rm_X10_squares) (hX : gIs X l D cy nm) {I : gI} {J : gL} {Po : Int32 → gI → Prop} (hR : gR X (gPi V (fun x I' J' => J = J' ∧ Po x I'))) {v1 : Int32} {v2 : Int32} {v3 : Int32} {v4 : Int32} {v5 : Int32} {v6 : Int32} {K54 : Int32 → Int32 → gI → Prop} (hK54 : ∀ (y4 : Int32) (y5 : Int32) (I1 : gI), K54 y4 y5 I1 → gJ X V 0 0 54 [(0, .ref (V.2.1 200)), (1, .int v1), (2, .int v2), (3, .int v3), (4, .int y4), (5, .int y5)] [] I1 J) (h : w_X10_squares_65 Po K54 v1 v2 v3 v4 v5 v6 I) : gJ X V 0 0 65 [(0, .ref (V.2.1 200)), (1, .int v1), (2, .int v2), (3, .int v3), (4, .int v4), (5, .int v5), (6, .int v6)] [] I J := by
  unfold w_X10_squares_65 at h
  obtain ⟨Inv, mu, h0, hs⟩ := h
  have key : ∀ (n : Nat) (v4 : Int32) (v6 : Int32) (I : gI), Inv v4 v6 I → mu v4 v6 I < n → gJ X V 0 0 65 [(0, .ref (V.2.1 200)), (1, .int v1), (2, .int v2), (3, .int v3), (4, .int v4), (5, .int v5), (6, .int v6)] [] I J := by
    intro n
    induction n with
    | zero => intro v4 v6 I hi hn; exact absurd hn (Nat.not_lt_zero _)
    | succ n ih =>
      intro v4 v6 I hi hn
      exact t_X10_squares_65b hM C hX hR  hK54 (fun u4 u6 I1 hk => ih u4 u6 I1 hk.1 (Nat.lt_of_lt_of_le hk.2 (Nat.le_of_lt_succ hn))) (hs v4 v6 I hi)
  exact key _ v4 v6 I h0 (Nat.lt_succ_self _)
set_option maxRecDepth 100000 in
set_option maxHeartbeats 4000000 in
theorem t_X10_squares_54b {X : gX} {l : Launch} {D : va_G} {cy : Nat → ClassId} {nm : String} {V : gV} (hM : gModM V) (C : gC X cX10_squares RX10 (some .int) 8 rm_X10_squares) (hX : gIs X l D cy nm) {I : gI} {J : gL} {Po : Int32 → gI → Prop} (hR : gR X (gPi V (fun x I' J' => J = J' ∧ Po x I'))) {v1 : Int32} {v2 : Int32} {v3 : Int32} {v4 : Int32} {v5 : Int32} {K54 : Int32 → Int32 → gI → Prop} (hK54 : ∀ (y4 : Int32) (y5 : Int32) (I1 : gI), K54 y4 y5 I1 → gJ X V 0 0 54 [(0, .ref (V.2.1 200)), (1, .int v1), (2, .int v2), (3, .int v3), (4, .int y4), (5, .int y5)] [] I1 J) (h : w_X10_squares_54b Po K54 v1 v2 v3 v4 v5 I) : gJ X V 0 0 54 [(0, .ref (V.2.1 200)), (1, .int v1), (2, .int v2), (3, .int v3), (4, .int v4), (5, .int v5)] [] I J := by
  unfold w_X10_squares_54b at h
  refine j_iload (pc := 54) C dX10_squares_54 5 rfl ?_
  refine j_iconst (pc := 56) (v := 1) C dX10_squares_56 (by decide) ?_
  refine j_iadd (pc := 57) C dX10_squares_57 ?_
  refine j_iload_n (pc := 58) C dX10_squares_58 rfl 3 rfl ?_
  refine j_icmp_ge (pc := 59) (tgt := 175) C dX10_squares_59 (by decide) (fun c7 => ?_) (fun c7 => ?_)
  · have h := h.1 c7
    refine j_iload (pc := 175) C dX10_squares_175 4 rfl ?_
    exact j_iret (pc := 177) C hR (Nat.zero_le _) (Nat.zero_le _) dX10_squares_177 ⟨_, rfl, rfl, rfl, h⟩
  · have h := h.2 c7
    refine j_iconst (pc := 62) (v := 0) C dX10_squares_62 (by decide) ?_
    refine j_istore (pc := 63) (lv' := [(6, .int (0 : Int32)), (0, .ref (V.2.1 200)), (1, .int v1), (2, .int v2), (3, .int v3), (4, .int v4), (5, .int v5)]) C dX10_squares_63 (by decide) rfl ?_
    refine gJ.sub [1, 2, 3, 4, 5, 6, 0] rfl ?_
    exact t_X10_squares_65 hM C hX hR  hK54 h
set_option maxRecDepth 100000 in
set_option maxHeartbeats 4000000 in
theorem t_X10_squares_54 {X : gX} {l : Launch} {D : va_G} {cy : Nat → ClassId} {nm : String} {V : gV} (hM : gModM V) (C : gC X cX10_squares RX10 (some .int) 8 rm_X10_squares) (hX : gIs X l D cy nm) {I : gI} {J : gL} {Po : Int32 → gI → Prop} (hR : gR X (gPi V (fun x I' J' => J = J' ∧ Po x I'))) {v1 : Int32} {v2 : Int32} {v3 : Int32} {v4 : Int32} {v5 : Int32} (h : w_X10_squares_54 Po v1 v2 v3 v4 v5 I) : gJ X V 0 0 54 [(0, .ref (V.2.1 200)), (1, .int v1), (2, .int v2), (3, .int v3), (4, .int v4), (5, .int v5)] [] I J := by
  unfold w_X10_squares_54 at h
  obtain ⟨Inv, mu, h0, hs⟩ := h
  have key : ∀ (n : Nat) (v4 : Int32) (v5 : Int32) (I : gI), Inv v4 v5 I → mu v4 v5 I < n → gJ X V 0 0 54 [(0, .ref (V.2.1 200)), (1, .int v1), (2, .int v2), (3, .int v3), (4, .int v4), (5, .int v5)] [] I J := by
    intro n
    induction n with
    | zero => intro v4 v5 I hi hn; exact absurd hn (Nat.not_lt_zero _)
    | succ n ih =>
      intro v4 v5 I hi hn
      exact t_X10_squares_54b hM C hX hR   (fun u4 u5 I1 hk => ih u4 u5 I1 hk.1 (Nat.lt_of_lt_of_le hk.2 (Nat.le_of_lt_succ hn))) (hs v4 v5 I hi)
  exact key _ v4 v5 I h0 (Nat.lt_succ_self _)
set_option maxRecDepth 100000 in
set_option maxHeartbeats 4000000 in
theorem t_X10_squares_22b {X : gX} {l : Launch} {D : va_G} {cy : Nat → ClassId} {nm : String} {V : gV} (hM : gModM V) (C : gC X cX10_squares RX10 (some .int) 8 rm_X10_squares) (hX : gIs X l D cy nm) {I : gI} {J : gL} {Po : Int32 → gI → Prop} (hR : gR X (gPi V (fun x I' J' => J = J' ∧ Po x I'))) {v1 : Int32} {v2 : Int32} {v3 : Int32} {K22 : Int32 → gI → Prop} (hK22 : ∀ (y3 : Int32) (I1 : gI), K22 y3 I1 → gJ X V 0 0 22 [(0, .ref (V.2.1 200)), (1, .int v1), (2, .int v2), (3, .int y3)] [] I1 J) (h : w_X10_squares_22b Po K22 v1 v2 v3 I) : gJ X V 0 0 22 [(0, .ref (V.2.1 200)), (1, .int v1), (2, .int v2), (3, .int v3)] [] I J := by
  unfold w_X10_squares_22b at h
  refine j_iload_n (pc := 22) C dX10_squares_22 rfl 3 rfl ?_
  refine j_sipush (pc := 23) (v := 1296) C dX10_squares_23 (by decide) ?_
  refine j_icmp_ge (pc := 26) (tgt := 42) C dX10_squares_26 (by decide) (fun c5 => ?_) (fun c5 => ?_)
  · have h := h.1 c5
    refine j_aload_n (pc := 42) C dX10_squares_42 rfl 0 rfl ?_
    refine j_iload_n (pc := 43) C dX10_squares_43 rfl 2 rfl ?_
    refine j_callV (pc := 44) (As := [.int v2]) (st := []) C hX 200 (m_X10_width hM  h) (c_200 hM).1 (c_200 hM).2 rfl ok_X10_width wd_1257 wd_1259 wd_61 ⟨by decide, by decide⟩ rfl rfl (Nat.le_of_ble_eq_true rfl) ⟨Nat.le_refl 0, Nat.le_refl 0⟩ dX10_squares_44 (fun r V1 I1 J1 hp => ?_)
    obtain ⟨r6, rfl, rfl, rfl, rfl, h⟩ := hp
    show gJ X V 0 0 47 _ [.int r6] _ _
    refine j_istore_n (pc := 47) (lv' := [(3, .int r6), (0, .ref (V.2.1 200)), (1, .int v1), (2, .int v2)]) C dX10_squares_47 rfl (by decide) rfl ?_
    refine j_iconst (pc := 48) (v := 0) C dX10_squares_48 (by decide) ?_
    refine j_istore (pc := 49) (lv' := [(4, .int (0 : Int32)), (3, .int r6), (0, .ref (V.2.1 200)), (1, .int v1), (2, .int v2)]) C dX10_squares_49 (by decide) rfl ?_
    refine j_iconst (pc := 51) (v := 0) C dX10_squares_51 (by decide) ?_
    refine j_istore (pc := 52) (lv' := [(5, .int (0 : Int32)), (4, .int (0 : Int32)), (3, .int r6), (0, .ref (V.2.1 200)), (1, .int v1), (2, .int v2)]) C dX10_squares_52 (by decide) rfl ?_
    refine gJ.sub [3, 4, 5, 2, 1, 0] rfl ?_
    exact t_X10_squares_54 hM C hX hR   h
  · have h := h.2 c5
    refine j_aload_n (pc := 29) C dX10_squares_29 rfl 0 rfl ?_
    refine j_getR (pc := 30) C 200 39 228 (c_200 hM).1 (c_200 hM).2 rfl rfl (by decide) inw_X10 wd_1005 dX10_squares_30 ?_
    refine j_iload_n (pc := 33) C dX10_squares_33 rfl 3 rfl ?_
    refine j_iconst (pc := 34) (v := 0) C dX10_squares_34 (by decide) ?_
    obtain ⟨g21, h⟩ := h
    refine j_zast (pc := 35) C 228 (c_228 hM).1 (c_228 hM).2 g21 dX10_squares_35 ?_
    refine gJ.nmI (fun I22 eI22 => ?_)
    have h := h I22 eI22
    obtain ⟨n23, en23⟩ : ∃ z : Int32, z = v3 + 1 := ⟨_, rfl⟩
    have h := h n23 en23
    refine j_iinc (pc := 36) (v := n23) (lv' := [(3, .int n23), (0, .ref (V.2.1 200)), (1, .int v1), (2, .int v2)]) C dX10_squares_36 3 rfl (by rw [en23]; rfl) (by decide) rfl ?_
    refine j_goto (pc := 39) (tgt := 22) C dX10_squares_39 (by decide) ?_
    refine gJ.sub [1, 2, 3, 0] rfl ?_
    exact hK22 _ _ h
set_option maxRecDepth 100000 in
set_option maxHeartbeats 4000000 in
theorem t_X10_squares_22 {X : gX} {l : Launch} {D : va_G} {cy : Nat → ClassId} {nm : String} {V : gV} (hM : gModM V) (C : gC X cX10_squares RX10 (some .int) 8 rm_X10_squares) (hX : gIs X l D cy nm) {I : gI} {J : gL} {Po : Int32 → gI → Prop} (hR : gR X (gPi V (fun x I' J' => J = J' ∧ Po x I'))) {v1 : Int32} {v2 : Int32} {v3 : Int32} (h : w_X10_squares_22 Po v1 v2 v3 I) : gJ X V 0 0 22 [(0, .ref (V.2.1 200)), (1, .int v1), (2, .int v2), (3, .int v3)] [] I J := by
  unfold w_X10_squares_22 at h
  obtain ⟨Inv, mu, h0, hs⟩ := h
  have key : ∀ (n : Nat) (v3 : Int32) (I : gI), Inv v3 I → mu v3 I < n → gJ X V 0 0 22 [(0, .ref (V.2.1 200)), (1, .int v1), (2, .int v2), (3, .int v3)] [] I J := by
    intro n
    induction n with
    | zero => intro v3 I hi hn; exact absurd hn (Nat.not_lt_zero _)
    | succ n ih =>
      intro v3 I hi hn
      exact t_X10_squares_22b hM C hX hR   (fun u3 I1 hk => ih u3 I1 hk.1 (Nat.lt_of_lt_of_le hk.2 (Nat.le_of_lt_succ hn))) (hs v3 I hi)
  exact key _ v3 I h0 (Nat.lt_succ_self _)
set_option maxRecDepth 100000 in
set_option maxHeartbeats 4000000 in
theorem m_X10_squares {l : Launch} {D : va_G} {cy : Nat → ClassId} {V : gV} (hM : gModM V) {a1 : Int32} {a2 : Int32} {I : gI} {J : gL} {Po : Int32 → gI → Prop} (h : wp_X10_squares a1 a2 I Po) : gMet l D cy yX10_squares cX10_squares 8 (some .int) rm_X10_squares V [.ref (V.2.1 200), .int a1, .int a2] I J (gPi V (fun x I' J' => J = J' ∧ Po x I')) := by
  refine gMet.of (by decide) (Nat.le_of_ble_eq_true rfl) (fun X hX C hR => ?_)
  have C : gC X cX10_squares RX10 (some .int) 8 rm_X10_squares := C
  show gJ X V 0 0 0 [(0, .ref (V.2.1 200)), (1, .int a1), (2, .int a2)] [] I J
  unfold wp_X10_squares at h
  refine j_aload_n (pc := 0) C dX10_squares_0 rfl 0 rfl ?_
  refine j_iload_n (pc := 1) C dX10_squares_1 rfl 1 rfl ?_
  refine j_callV (pc := 2) (As := [.int a1]) (st := []) C hX 200 (m_X10_isLetter hM  h) (c_200 hM).1 (c_200 hM).2 rfl ok_X10_isLetter wd_1245 wd_1247 wd_59 ⟨by decide, by decide⟩ rfl rfl (Nat.le_of_ble_eq_true rfl) ⟨Nat.le_refl 0, Nat.le_refl 0⟩ dX10_squares_2 (fun r V1 I1 J1 hp => ?_)
  obtain ⟨r1, rfl, rfl, rfl, rfl, h⟩ := hp
  show gJ X V 0 0 5 _ [.int r1] _ _
  refine j_if_eq (pc := 5) (tgt := 17) C dX10_squares_5 (by decide) (fun c2 => ?_) (fun c2 => ?_)
  · have h := h.1 c2
    refine j_bipush (pc := 17) (v := (-2)) C dX10_squares_17 (by decide) ?_
    exact j_iret (pc := 19) C hR (Nat.zero_le _) (Nat.zero_le _) dX10_squares_19 ⟨_, rfl, rfl, rfl, h⟩
  · have h := h.2 c2
    refine j_iload_n (pc := 8) C dX10_squares_8 rfl 2 rfl ?_
    refine j_iconst (pc := 9) (v := 0) C dX10_squares_9 (by decide) ?_
    refine j_iconst (pc := 10) (v := 5) C dX10_squares_10 (by decide) ?_
    refine j_callS (pc := 11) (As := [.int a2, .int (0 : Int32), .int (5 : Int32)]) (st := []) C hX (m_X10_isIn   h) ok_X10_isIn wd_1108 wd_1109 ⟨by decide, by decide⟩ rfl rfl (Nat.le_of_ble_eq_true rfl) ⟨Nat.le_refl 0, Nat.le_refl 0⟩ dX10_squares_11 (fun r V1 I1 J1 hp => ?_)
    obtain ⟨r3, rfl, rfl, rfl, rfl, h⟩ := hp
    show gJ X V 0 0 14 _ [.int r3] _ _
    refine j_if_ne (pc := 14) (tgt := 20) C dX10_squares_14 (by decide) (fun c4 => ?_) (fun c4 => ?_)
    · have h := h.1 c4
      refine j_iconst (pc := 20) (v := 0) C dX10_squares_20 (by decide) ?_
      refine j_istore_n (pc := 21) (lv' := [(3, .int (0 : Int32)), (0, .ref (V.2.1 200)), (1, .int a1), (2, .int a2)]) C dX10_squares_21 rfl (by decide) rfl ?_
      refine gJ.sub [1, 2, 3, 0] rfl ?_
      exact t_X10_squares_22 hM C hX hR   h
    · have h := h.2 c4
      refine j_bipush (pc := 17) (v := (-2)) C dX10_squares_17 (by decide) ?_
      exact j_iret (pc := 19) C hR (Nat.zero_le _) (Nat.zero_le _) dX10_squares_19 ⟨_, rfl, rfl, rfl, h⟩
/-! TileRulesModel.turn(I)I -/
abbrev rm_X10_turn : Room := { frames := 1, cells := 0, slots := 0, locals := 22 }
theorem ok_X10_turn : gOk yX10_turn cX10_turn 3 (some .int) 1 := ⟨wd_1292, wd_74, by decide +kernel⟩
def wp_X10_turn (a1 : Int32) (I : gI) (Po : Int32 → gI → Prop) : Prop :=
  wp_X10_isIn a1 (1 : Int32) (18 : Int32) (fun r1 => (¬ r1 = 0 → ∀ n3 : Int32, n3 = (I 200 40) → ∀ I4 : gI, I4 = gup I 200 40 a1 → Po n3 I4) ∧ (r1 = 0 → Po (-2 : Int32) I))
set_option maxRecDepth 100000 in
set_option maxHeartbeats 4000000 in
theorem m_X10_turn {l : Launch} {D : va_G} {cy : Nat → ClassId} {V : gV} (hM : gModM V) {a1 : Int32} {I : gI} {J : gL} {Po : Int32 → gI → Prop} (h : wp_X10_turn a1 I Po) : gMet l D cy yX10_turn cX10_turn 3 (some .int) rm_X10_turn V [.ref (V.2.1 200), .int a1] I J (gPi V (fun x I' J' => J = J' ∧ Po x I')) := by
  refine gMet.of (by decide) (Nat.le_of_ble_eq_true rfl) (fun X hX C hR => ?_)
  have C : gC X cX10_turn RX10 (some .int) 3 rm_X10_turn := C
  show gJ X V 0 0 0 [(0, .ref (V.2.1 200)), (1, .int a1)] [] I J
  unfold wp_X10_turn at h
  refine j_iload_n (pc := 0) C dX10_turn_0 rfl 1 rfl ?_
  refine j_iconst (pc := 1) (v := 1) C dX10_turn_1 (by decide) ?_
  refine j_bipush (pc := 2) (v := 18) C dX10_turn_2 (by decide) ?_
  refine j_callS (pc := 4) (As := [.int a1, .int (1 : Int32), .int (18 : Int32)]) (st := []) C hX (m_X10_isIn   h) ok_X10_isIn wd_1108 wd_1109 ⟨by decide, by decide⟩ rfl rfl (Nat.le_of_ble_eq_true rfl) ⟨Nat.le_refl 0, Nat.le_refl 0⟩ dX10_turn_4 (fun r V1 I1 J1 hp => ?_)
  obtain ⟨r1, rfl, rfl, rfl, rfl, h⟩ := hp
  show gJ X V 0 0 7 _ [.int r1] _ _
  refine j_if_ne (pc := 7) (tgt := 13) C dX10_turn_7 (by decide) (fun c2 => ?_) (fun c2 => ?_)
  · have h := h.1 c2
    refine j_aload_n (pc := 13) C dX10_turn_13 rfl 0 rfl ?_
    refine j_getI (pc := 14) C 200 40 (c_200 hM).1 (c_200 hM).2 rfl rfl (by decide) inw_X10 wd_1006 dX10_turn_14 ?_
    refine gJ.topi (fun n3 en3 => ?_)
    have h := h n3 en3
    refine j_istore_n (pc := 17) (lv' := [(2, .int n3), (0, .ref (V.2.1 200)), (1, .int a1)]) C dX10_turn_17 rfl (by decide) rfl ?_
    refine j_aload_n (pc := 18) C dX10_turn_18 rfl 1 rfl ?_
    refine j_iload_n (pc := 19) C dX10_turn_19 rfl 2 rfl ?_
    refine j_putI (pc := 20) (ft := .int) C tyX10 tyX10_ok nmX10 200 40 (c_200 hM).1 (c_200 hM).2 rfl rfl (by decide) inw_X10 wd_1006 rfl (by decide +kernel) rfl rfl dX10_turn_20 ?_
    refine gJ.nmI (fun I4 eI4 => ?_)
    have h := h I4 eI4
    refine j_iload_n (pc := 23) C dX10_turn_23 rfl 0 rfl ?_
    exact j_iret (pc := 24) C hR (Nat.zero_le _) (Nat.zero_le _) dX10_turn_24 ⟨_, rfl, rfl, rfl, h⟩
  · have h := h.2 c2
    refine j_bipush (pc := 10) (v := (-2)) C dX10_turn_10 (by decide) ?_
    exact j_iret (pc := 12) C hR (Nat.zero_le _) (Nat.zero_le _) dX10_turn_12 ⟨_, rfl, rfl, rfl, h⟩
/-! TileRulesModel.corner(I)I -/
abbrev rm_X10_corner : Room := { frames := 1, cells := 0, slots := 0, locals := 22 }
theorem ok_X10_corner : gOk yX10_corner cX10_corner 3 (some .int) 1 := ⟨wd_1296, wd_74, by decide +kernel⟩
def w_X10_corner_15b  (Po : Int32 → gI → Prop) (K15 : Int32 → Prop) (v1 : Int32) (v2 : Int32) (I : gI) : Prop :=
  ((I 200 41) ≤ v2 → (¬ (I 200 41) = (6 : Int32) → vp_in (I 200 41) 6 ∧ ∀ I6 : gI, I6 = gup I 229 ((I 200 41)).toNatClampNeg v1 → ∀ I7 : gI, I7 = gup I6 200 41 ((I6 200 41) + (1 : Int32)) → Po (I7 200 41) I7) ∧ ((I 200 41) = (6 : Int32) → Po (-3 : Int32) I)) ∧ (¬ (I 200 41) ≤ v2 → vp_in v2 6 ∧ (¬ (I 229 (v2).toNatClampNeg) = v1 → ∀ n10 : Int32, n10 = v2 + 1 → K15 n10) ∧ ((I 229 (v2).toNatClampNeg) = v1 → Po (-4 : Int32) I))
def w_X10_corner_15  (Po : Int32 → gI → Prop)  (v1 : Int32) (v2 : Int32) (I : gI) : Prop :=
  ∃ (Inv : Int32 → Prop) (mu : Int32 → Nat), Inv v2 ∧ ∀ (v2 : Int32), Inv v2 → w_X10_corner_15b  Po  (fun u2 => Inv u2 ∧ mu u2 < mu v2) v1 v2 I
def wp_X10_corner (a1 : Int32) (I : gI) (Po : Int32 → gI → Prop) : Prop :=
  wp_X10_isIn a1 (1 : Int32) (18 : Int32) (fun r1 => (¬ r1 = 0 → w_X10_corner_15 Po a1 (0 : Int32) I) ∧ (r1 = 0 → Po (-2 : Int32) I))
set_option maxRecDepth 100000 in
set_option maxHeartbeats 4000000 in
theorem t_X10_corner_15b {X : gX} {l : Launch} {D : va_G} {cy : Nat → ClassId} {nm : String} {V : gV} (hM : gModM V) (C : gC X cX10_corner RX10 (some .int) 3 rm_X10_corner) (hX : gIs X l D cy nm) {I : gI} {J : gL} {Po : Int32 → gI → Prop} (hR : gR X (gPi V (fun x I' J' => J = J' ∧ Po x I'))) {v1 : Int32} {v2 : Int32} {K15 : Int32 → Prop} (hK15 : ∀ (y2 : Int32), K15 y2 → gJ X V 0 0 15 [(0, .ref (V.2.1 200)), (1, .int v1), (2, .int y2)] [] I J) (h : w_X10_corner_15b Po K15 v1 v2 I) : gJ X V 0 0 15 [(0, .ref (V.2.1 200)), (1, .int v1), (2, .int v2)] [] I J := by
  unfold w_X10_corner_15b at h
  refine j_iload_n (pc := 15) C dX10_corner_15 rfl 2 rfl ?_
  refine j_aload_n (pc := 16) C dX10_corner_16 rfl 0 rfl ?_
  refine j_getI (pc := 17) C 200 41 (c_200 hM).1 (c_200 hM).2 rfl rfl (by decide) inw_X10 wd_1007 dX10_corner_17 ?_
  refine j_icmp_ge (pc := 20) (tgt := 42) C dX10_corner_20 (by decide) (fun c3 => ?_) (fun c3 => ?_)
  · have h := h.1 c3
    refine j_aload_n (pc := 42) C dX10_corner_42 rfl 0 rfl ?_
    refine j_getI (pc := 43) C 200 41 (c_200 hM).1 (c_200 hM).2 rfl rfl (by decide) inw_X10 wd_1007 dX10_corner_43 ?_
    refine j_bipush (pc := 46) (v := 6) C dX10_corner_46 (by decide) ?_
    refine j_icmp_ne (pc := 48) (tgt := 54) C dX10_corner_48 (by decide) (fun c4 => ?_) (fun c4 => ?_)
    · have h := h.1 c4
      refine j_aload_n (pc := 54) C dX10_corner_54 rfl 0 rfl ?_
      refine j_getR (pc := 55) C 200 42 229 (c_200 hM).1 (c_200 hM).2 rfl rfl (by decide) inw_X10 wd_1008 dX10_corner_55 ?_
      refine j_aload_n (pc := 58) C dX10_corner_58 rfl 0 rfl ?_
      refine j_getI (pc := 59) C 200 41 (c_200 hM).1 (c_200 hM).2 rfl rfl (by decide) inw_X10 wd_1007 dX10_corner_59 ?_
      refine j_iload_n (pc := 62) C dX10_corner_62 rfl 1 rfl ?_
      obtain ⟨g5, h⟩ := h
      refine j_iast (pc := 63) C 229 (c_229 hM).1 (c_229 hM).2 g5 dX10_corner_63 ?_
      refine gJ.nmI (fun I6 eI6 => ?_)
      have h := h I6 eI6
      refine j_aload_n (pc := 64) C dX10_corner_64 rfl 0 rfl ?_
      refine j_dup (pc := 65) C dX10_corner_65 rfl ?_
      refine j_getI (pc := 66) C 200 41 (c_200 hM).1 (c_200 hM).2 rfl rfl (by decide) inw_X10 wd_1007 dX10_corner_66 ?_
      refine j_iconst (pc := 69) (v := 1) C dX10_corner_69 (by decide) ?_
      refine j_iadd (pc := 70) C dX10_corner_70 ?_
      refine j_putI (pc := 71) (ft := .int) C tyX10 tyX10_ok nmX10 200 41 (c_200 hM).1 (c_200 hM).2 rfl rfl (by decide) inw_X10 wd_1007 rfl (by decide +kernel) rfl rfl dX10_corner_71 ?_
      refine gJ.nmI (fun I7 eI7 => ?_)
      have h := h I7 eI7
      refine j_aload_n (pc := 74) C dX10_corner_74 rfl 0 rfl ?_
      refine j_getI (pc := 75) C 200 41 (c_200 hM).1 (c_200 hM).2 rfl rfl (by decide) inw_X10 wd_1007 dX10_corner_75 ?_
      exact j_iret (pc := 78) C hR (Nat.zero_le _) (Nat.zero_le _) dX10_corner_78 ⟨_, rfl, rfl, rfl, h⟩
    · have h := h.2 c4
      refine j_bipush (pc := 51) (v := (-3)) C dX10_corner_51 (by decide) ?_
      exact j_iret (pc := 53) C hR (Nat.zero_le _) (Nat.zero_le _) dX10_corner_53 ⟨_, rfl, rfl, rfl, h⟩
  · have h := h.2 c3
    refine j_aload_n (pc := 23) C dX10_corner_23 rfl 0 rfl ?_
    refine j_getR (pc := 24) C 200 42 229 (c_200 hM).1 (c_200 hM).2 rfl rfl (by decide) inw_X10 wd_1008 dX10_corner_24 ?_
    refine j_iload_n (pc := 27) C dX10_corner_27 rfl 2 rfl ?_
    obtain ⟨g8, h⟩ := h
    refine j_iald (pc := 28) C 229 (c_229 hM).1 (c_229 hM).2 g8 dX10_corner_28 ?_
    refine j_iload_n (pc := 29) C dX10_corner_29 rfl 1 rfl ?_
    refine j_icmp_ne (pc := 30) (tgt := 36) C dX10_corner_30 (by decide) (fun c9 => ?_) (fun c9 => ?_)
    · have h := h.1 c9
      obtain ⟨n10, en10⟩ : ∃ z : Int32, z = v2 + 1 := ⟨_, rfl⟩
      have h := h n10 en10
      refine j_iinc (pc := 36) (v := n10) (lv' := [(2, .int n10), (0, .ref (V.2.1 200)), (1, .int v1)]) C dX10_corner_36 2 rfl (by rw [en10]; rfl) (by decide) rfl ?_
      refine j_goto (pc := 39) (tgt := 15) C dX10_corner_39 (by decide) ?_
      refine gJ.sub [1, 2, 0] rfl ?_
      exact hK15 _ h
    · have h := h.2 c9
      refine j_bipush (pc := 33) (v := (-4)) C dX10_corner_33 (by decide) ?_
      exact j_iret (pc := 35) C hR (Nat.zero_le _) (Nat.zero_le _) dX10_corner_35 ⟨_, rfl, rfl, rfl, h⟩
set_option maxRecDepth 100000 in
set_option maxHeartbeats 4000000 in
theorem t_X10_corner_15 {X : gX} {l : Launch} {D : va_G} {cy : Nat → ClassId} {nm : String} {V : gV} (hM : gModM V) (C : gC X cX10_corner RX10 (some .int) 3 rm_X10_corner) (hX : gIs X l D cy nm) {I : gI} {J : gL} {Po : Int32 → gI → Prop} (hR : gR X (gPi V (fun x I' J' => J = J' ∧ Po x I'))) {v1 : Int32} {v2 : Int32} (h : w_X10_corner_15 Po v1 v2 I) : gJ X V 0 0 15 [(0, .ref (V.2.1 200)), (1, .int v1), (2, .int v2)] [] I J := by
  unfold w_X10_corner_15 at h
  obtain ⟨Inv, mu, h0, hs⟩ := h
  have key : ∀ (n : Nat) (v2 : Int32), Inv v2 → mu v2 < n → gJ X V 0 0 15 [(0, .ref (V.2.1 200)), (1, .int v1), (2, .int v2)] [] I J := by
    intro n
    induction n with
    | zero => intro v2 hi hn; exact absurd hn (Nat.not_lt_zero _)
    | succ n ih =>
      intro v2 hi hn
      exact t_X10_corner_15b hM C hX hR   (fun u2 hk => ih u2 hk.1 (Nat.lt_of_lt_of_le hk.2 (Nat.le_of_lt_succ hn))) (hs v2 hi)
  exact key _ v2 h0 (Nat.lt_succ_self _)
set_option maxRecDepth 100000 in
set_option maxHeartbeats 4000000 in
theorem m_X10_corner {l : Launch} {D : va_G} {cy : Nat → ClassId} {V : gV} (hM : gModM V) {a1 : Int32} {I : gI} {J : gL} {Po : Int32 → gI → Prop} (h : wp_X10_corner a1 I Po) : gMet l D cy yX10_corner cX10_corner 3 (some .int) rm_X10_corner V [.ref (V.2.1 200), .int a1] I J (gPi V (fun x I' J' => J = J' ∧ Po x I')) := by
  refine gMet.of (by decide) (Nat.le_of_ble_eq_true rfl) (fun X hX C hR => ?_)
  have C : gC X cX10_corner RX10 (some .int) 3 rm_X10_corner := C
  show gJ X V 0 0 0 [(0, .ref (V.2.1 200)), (1, .int a1)] [] I J
  unfold wp_X10_corner at h
  refine j_iload_n (pc := 0) C dX10_corner_0 rfl 1 rfl ?_
  refine j_iconst (pc := 1) (v := 1) C dX10_corner_1 (by decide) ?_
  refine j_bipush (pc := 2) (v := 18) C dX10_corner_2 (by decide) ?_
  refine j_callS (pc := 4) (As := [.int a1, .int (1 : Int32), .int (18 : Int32)]) (st := []) C hX (m_X10_isIn   h) ok_X10_isIn wd_1108 wd_1109 ⟨by decide, by decide⟩ rfl rfl (Nat.le_of_ble_eq_true rfl) ⟨Nat.le_refl 0, Nat.le_refl 0⟩ dX10_corner_4 (fun r V1 I1 J1 hp => ?_)
  obtain ⟨r1, rfl, rfl, rfl, rfl, h⟩ := hp
  show gJ X V 0 0 7 _ [.int r1] _ _
  refine j_if_ne (pc := 7) (tgt := 13) C dX10_corner_7 (by decide) (fun c2 => ?_) (fun c2 => ?_)
  · have h := h.1 c2
    refine j_iconst (pc := 13) (v := 0) C dX10_corner_13 (by decide) ?_
    refine j_istore_n (pc := 14) (lv' := [(2, .int (0 : Int32)), (0, .ref (V.2.1 200)), (1, .int a1)]) C dX10_corner_14 rfl (by decide) rfl ?_
    refine gJ.sub [1, 2, 0] rfl ?_
    exact t_X10_corner_15 hM C hX hR   h
  · have h := h.2 c2
    refine j_bipush (pc := 10) (v := (-2)) C dX10_corner_10 (by decide) ?_
    exact j_iret (pc := 12) C hR (Nat.zero_le _) (Nat.zero_le _) dX10_corner_12 ⟨_, rfl, rfl, rfl, h⟩
/-! TileRulesModel.uncorner()I -/
abbrev rm_X10_uncorner : Room := { frames := 0, cells := 0, slots := 0, locals := 0 }
theorem ok_X10_uncorner : gOk yX10_uncorner cX10_uncorner 1 (some .int) 0 := ⟨wd_1300, wd_74, by decide +kernel⟩
def wp_X10_uncorner (I : gI) (Po : Int32 → gI → Prop) : Prop :=
  (¬ (I 200 41) = 0 → ∀ I2 : gI, I2 = gup I 200 41 ((I 200 41) - (1 : Int32)) → Po (I2 200 41) I2) ∧ ((I 200 41) = 0 → Po (-1 : Int32) I)
set_option maxRecDepth 100000 in
set_option maxHeartbeats 4000000 in
theorem m_X10_uncorner {l : Launch} {D : va_G} {cy : Nat → ClassId} {V : gV} (hM : gModM V) {I : gI} {J : gL} {Po : Int32 → gI → Prop} (h : wp_X10_uncorner I Po) : gMet l D cy yX10_uncorner cX10_uncorner 1 (some .int) rm_X10_uncorner V [.ref (V.2.1 200)] I J (gPi V (fun x I' J' => J = J' ∧ Po x I')) := by
  refine gMet.of (by decide) (Nat.le_of_ble_eq_true rfl) (fun X hX C hR => ?_)
  have C : gC X cX10_uncorner RX10 (some .int) 1 rm_X10_uncorner := C
  show gJ X V 0 0 0 [(0, .ref (V.2.1 200))] [] I J
  unfold wp_X10_uncorner at h
  refine j_aload_n (pc := 0) C dX10_uncorner_0 rfl 0 rfl ?_
  refine j_getI (pc := 1) C 200 41 (c_200 hM).1 (c_200 hM).2 rfl rfl (by decide) inw_X10 wd_1007 dX10_uncorner_1 ?_
  refine j_if_ne (pc := 4) (tgt := 9) C dX10_uncorner_4 (by decide) (fun c1 => ?_) (fun c1 => ?_)
  · have h := h.1 c1
    refine j_aload_n (pc := 9) C dX10_uncorner_9 rfl 0 rfl ?_
    refine j_dup (pc := 10) C dX10_uncorner_10 rfl ?_
    refine j_getI (pc := 11) C 200 41 (c_200 hM).1 (c_200 hM).2 rfl rfl (by decide) inw_X10 wd_1007 dX10_uncorner_11 ?_
    refine j_iconst (pc := 14) (v := 1) C dX10_uncorner_14 (by decide) ?_
    refine j_isub (pc := 15) C dX10_uncorner_15 ?_
    refine j_putI (pc := 16) (ft := .int) C tyX10 tyX10_ok nmX10 200 41 (c_200 hM).1 (c_200 hM).2 rfl rfl (by decide) inw_X10 wd_1007 rfl (by decide +kernel) rfl rfl dX10_uncorner_16 ?_
    refine gJ.nmI (fun I2 eI2 => ?_)
    have h := h I2 eI2
    refine j_aload_n (pc := 19) C dX10_uncorner_19 rfl 0 rfl ?_
    refine j_getI (pc := 20) C 200 41 (c_200 hM).1 (c_200 hM).2 rfl rfl (by decide) inw_X10 wd_1007 dX10_uncorner_20 ?_
    exact j_iret (pc := 23) C hR (Nat.zero_le _) (Nat.zero_le _) dX10_uncorner_23 ⟨_, rfl, rfl, rfl, h⟩
  · have h := h.2 c1
    refine j_iconst (pc := 7) (v := (-1)) C dX10_uncorner_7 (by decide) ?_
    exact j_iret (pc := 8) C hR (Nat.zero_le _) (Nat.zero_le _) dX10_uncorner_8 ⟨_, rfl, rfl, rfl, h⟩
/-! TileRulesModel.above(I)I -/
abbrev rm_X10_above : Room := { frames := 0, cells := 0, slots := 0, locals := 0 }
theorem ok_X10_above : gOk yX10_above cX10_above 4 (some .int) 1 := ⟨wd_1312, wd_74, by decide +kernel⟩
def w_X10_above_43  (Po : Int32 → Prop) (K5 : Int32 → Int32 → Prop) (v1 : Int32) (v3 : Int32) (s0 : Int32) (I : gI) : Prop :=
  ∀ n4 : Int32, n4 = v3 + 1 → K5 s0 n4
def w_X10_above_42  (Po : Int32 → Prop) (K5 : Int32 → Int32 → Prop) (v1 : Int32) (v2 : Int32) (v3 : Int32) (I : gI) : Prop :=
  w_X10_above_43 Po K5 v1 v3 v2 I
def w_X10_above_5b  (Po : Int32 → Prop) (K5 : Int32 → Int32 → Prop) (v1 : Int32) (v2 : Int32) (v3 : Int32) (I : gI) : Prop :=
  ((I 200 41) ≤ v3 → Po v2) ∧ (¬ (I 200 41) ≤ v3 → vp_in v3 6 ∧ ((I 229 (v3).toNatClampNeg) ≤ v1 → w_X10_above_42 Po K5 v1 v2 v3 I) ∧ (¬ (I 229 (v3).toNatClampNeg) ≤ v1 → vp_in v3 6 ∧ (v2 ≤ (I 229 (v3).toNatClampNeg) → w_X10_above_42 Po K5 v1 v2 v3 I) ∧ (¬ v2 ≤ (I 229 (v3).toNatClampNeg) → vp_in v3 6 ∧ w_X10_above_43 Po K5 v1 v3 (I 229 (v3).toNatClampNeg) I)))
def w_X10_above_5  (Po : Int32 → Prop)  (v1 : Int32) (v2 : Int32) (v3 : Int32) (I : gI) : Prop :=
  ∃ (Inv : Int32 → Int32 → Prop) (mu : Int32 → Int32 → Nat), Inv v2 v3 ∧ ∀ (v2 : Int32) (v3 : Int32), Inv v2 v3 → w_X10_above_5b  Po  (fun u2 u3 => Inv u2 u3 ∧ mu u2 u3 < mu v2 v3) v1 v2 v3 I
def wp_X10_above (a1 : Int32) (I : gI) (Po : Int32 → Prop) : Prop :=
  w_X10_above_5 Po a1 (100 : Int32) (0 : Int32) I
set_option maxRecDepth 100000 in
set_option maxHeartbeats 4000000 in
theorem t_X10_above_43 {X : gX} {l : Launch} {D : va_G} {cy : Nat → ClassId} {nm : String} {V : gV} (hM : gModM V) (C : gC X cX10_above RX10 (some .int) 4 rm_X10_above) (hX : gIs X l D cy nm) {I : gI} {J : gL} {Po : Int32 → Prop} (hR : gR X (gPi V (fun x I' J' => I = I' ∧ J = J' ∧ Po x))) {v1 : Int32} {v3 : Int32} {s0 : Int32} {K5 : Int32 → Int32 → Prop} (hK5 : ∀ (y2 : Int32) (y3 : Int32), K5 y2 y3 → gJ X V 0 0 5 [(0, .ref (V.2.1 200)), (1, .int v1), (2, .int y2), (3, .int y3)] [] I J) (h : w_X10_above_43 Po K5 v1 v3 s0 I) : gJ X V 0 0 43 [(0, .ref (V.2.1 200)), (1, .int v1), (3, .int v3)] [.int s0] I J := by
  unfold w_X10_above_43 at h
  refine j_istore_n (pc := 43) (lv' := [(2, .int s0), (0, .ref (V.2.1 200)), (1, .int v1), (3, .int v3)]) C dX10_above_43 rfl (by decide) rfl ?_
  obtain ⟨n4, en4⟩ : ∃ z : Int32, z = v3 + 1 := ⟨_, rfl⟩
  have h := h n4 en4
  refine j_iinc (pc := 44) (v := n4) (lv' := [(3, .int n4), (2, .int s0), (0, .ref (V.2.1 200)), (1, .int v1)]) C dX10_above_44 3 rfl (by rw [en4]; rfl) (by decide) rfl ?_
  refine j_goto (pc := 47) (tgt := 5) C dX10_above_47 (by decide) ?_
  refine gJ.sub [2, 3, 1, 0] rfl ?_
  exact hK5 _ _ h
set_option maxRecDepth 100000 in
set_option maxHeartbeats 4000000 in
theorem t_X10_above_42 {X : gX} {l : Launch} {D : va_G} {cy : Nat → ClassId} {nm : String} {V : gV} (hM : gModM V) (C : gC X cX10_above RX10 (some .int) 4 rm_X10_above) (hX : gIs X l D cy nm) {I : gI} {J : gL} {Po : Int32 → Prop} (hR : gR X (gPi V (fun x I' J' => I = I' ∧ J = J' ∧ Po x))) {v1 : Int32} {v2 : Int32} {v3 : Int32} {K5 : Int32 → Int32 → Prop} (hK5 : ∀ (y2 : Int32) (y3 : Int32), K5 y2 y3 → gJ X V 0 0 5 [(0, .ref (V.2.1 200)), (1, .int v1), (2, .int y2), (3, .int y3)] [] I J) (h : w_X10_above_42 Po K5 v1 v2 v3 I) : gJ X V 0 0 42 [(0, .ref (V.2.1 200)), (1, .int v1), (2, .int v2), (3, .int v3)] [] I J := by
  unfold w_X10_above_42 at h
  refine j_iload_n (pc := 42) C dX10_above_42 rfl 2 rfl ?_
  refine gJ.sub [0, 1, 3] rfl ?_
  exact t_X10_above_43 hM C hX hR  hK5 h
set_option maxRecDepth 100000 in
set_option maxHeartbeats 4000000 in
theorem t_X10_above_5b {X : gX} {l : Launch} {D : va_G} {cy : Nat → ClassId} {nm : String} {V : gV} (hM : gModM V) (C : gC X cX10_above RX10 (some .int) 4 rm_X10_above) (hX : gIs X l D cy nm) {I : gI} {J : gL} {Po : Int32 → Prop} (hR : gR X (gPi V (fun x I' J' => I = I' ∧ J = J' ∧ Po x))) {v1 : Int32} {v2 : Int32} {v3 : Int32} {K5 : Int32 → Int32 → Prop} (hK5 : ∀ (y2 : Int32) (y3 : Int32), K5 y2 y3 → gJ X V 0 0 5 [(0, .ref (V.2.1 200)), (1, .int v1), (2, .int y2), (3, .int y3)] [] I J) (h : w_X10_above_5b Po K5 v1 v2 v3 I) : gJ X V 0 0 5 [(0, .ref (V.2.1 200)), (1, .int v1), (2, .int v2), (3, .int v3)] [] I J := by
  unfold w_X10_above_5b at h
  refine j_iload_n (pc := 5) C dX10_above_5 rfl 3 rfl ?_
  refine j_aload_n (pc := 6) C dX10_above_6 rfl 0 rfl ?_
  refine j_getI (pc := 7) C 200 41 (c_200 hM).1 (c_200 hM).2 rfl rfl (by decide) inw_X10 wd_1007 dX10_above_7 ?_
  refine j_icmp_ge (pc := 10) (tgt := 50) C dX10_above_10 (by decide) (fun c1 => ?_) (fun c1 => ?_)
  · have h := h.1 c1
    refine j_iload_n (pc := 50) C dX10_above_50 rfl 2 rfl ?_
    exact j_iret (pc := 51) C hR (Nat.zero_le _) (Nat.zero_le _) dX10_above_51 ⟨_, rfl, rfl, rfl, rfl, h⟩
  · have h := h.2 c1
    refine j_aload_n (pc := 13) C dX10_above_13 rfl 0 rfl ?_
    refine j_getR (pc := 14) C 200 42 229 (c_200 hM).1 (c_200 hM).2 rfl rfl (by decide) inw_X10 wd_1008 dX10_above_14 ?_
    refine j_iload_n (pc := 17) C dX10_above_17 rfl 3 rfl ?_
    obtain ⟨g2, h⟩ := h
    refine j_iald (pc := 18) C 229 (c_229 hM).1 (c_229 hM).2 g2 dX10_above_18 ?_
    refine j_iload_n (pc := 19) C dX10_above_19 rfl 1 rfl ?_
    refine j_icmp_le (pc := 20) (tgt := 42) C dX10_above_20 (by decide) (fun c3 => ?_) (fun c3 => ?_)
    · have h := h.1 c3
      refine gJ.sub [0, 1, 2, 3] rfl ?_
      exact t_X10_above_42 hM C hX hR  hK5 h
    · have h := h.2 c3
      refine j_aload_n (pc := 23) C dX10_above_23 rfl 0 rfl ?_
      refine j_getR (pc := 24) C 200 42 229 (c_200 hM).1 (c_200 hM).2 rfl rfl (by decide) inw_X10 wd_1008 dX10_above_24 ?_
      refine j_iload_n (pc := 27) C dX10_above_27 rfl 3 rfl ?_
      obtain ⟨g5, h⟩ := h
      refine j_iald (pc := 28) C 229 (c_229 hM).1 (c_229 hM).2 g5 dX10_above_28 ?_
      refine j_iload_n (pc := 29) C dX10_above_29 rfl 2 rfl ?_
      refine j_icmp_ge (pc := 30) (tgt := 42) C dX10_above_30 (by decide) (fun c6 => ?_) (fun c6 => ?_)
      · have h := h.1 c6
        refine gJ.sub [0, 1, 2, 3] rfl ?_
        exact t_X10_above_42 hM C hX hR  hK5 h
      · have h := h.2 c6
        refine j_aload_n (pc := 33) C dX10_above_33 rfl 0 rfl ?_
        refine j_getR (pc := 34) C 200 42 229 (c_200 hM).1 (c_200 hM).2 rfl rfl (by decide) inw_X10 wd_1008 dX10_above_34 ?_
        refine j_iload_n (pc := 37) C dX10_above_37 rfl 3 rfl ?_
        obtain ⟨g7, h⟩ := h
        refine j_iald (pc := 38) C 229 (c_229 hM).1 (c_229 hM).2 g7 dX10_above_38 ?_
        refine j_goto (pc := 39) (tgt := 43) C dX10_above_39 (by decide) ?_
        refine gJ.sub [0, 1, 3] rfl ?_
        exact t_X10_above_43 hM C hX hR  hK5 h
set_option maxRecDepth 100000 in
set_option maxHeartbeats 4000000 in
theorem t_X10_above_5 {X : gX} {l : Launch} {D : va_G} {cy : Nat → ClassId} {nm : String} {V : gV} (hM : gModM V) (C : gC X cX10_above RX10 (some .int) 4 rm_X10_above) (hX : gIs X l D cy nm) {I : gI} {J : gL} {Po : Int32 → Prop} (hR : gR X (gPi V (fun x I' J' => I = I' ∧ J = J' ∧ Po x))) {v1 : Int32} {v2 : Int32} {v3 : Int32} (h : w_X10_above_5 Po v1 v2 v3 I) : gJ X V 0 0 5 [(0, .ref (V.2.1 200)), (1, .int v1), (2, .int v2), (3, .int v3)] [] I J := by
  unfold w_X10_above_5 at h
  obtain ⟨Inv, mu, h0, hs⟩ := h
  have key : ∀ (n : Nat) (v2 : Int32) (v3 : Int32), Inv v2 v3 → mu v2 v3 < n → gJ X V 0 0 5 [(0, .ref (V.2.1 200)), (1, .int v1), (2, .int v2), (3, .int v3)] [] I J := by
    intro n
    induction n with
    | zero => intro v2 v3 hi hn; exact absurd hn (Nat.not_lt_zero _)
    | succ n ih =>
      intro v2 v3 hi hn
      exact t_X10_above_5b hM C hX hR   (fun u2 u3 hk => ih u2 u3 hk.1 (Nat.lt_of_lt_of_le hk.2 (Nat.le_of_lt_succ hn))) (hs v2 v3 hi)
  exact key _ v2 v3 h0 (Nat.lt_succ_self _)
set_option maxRecDepth 100000 in
set_option maxHeartbeats 4000000 in
theorem m_X10_above {l : Launch} {D : va_G} {cy : Nat → ClassId} {V : gV} (hM : gModM V) {a1 : Int32} {I : gI} {J : gL} {Po : Int32 → Prop} (h : wp_X10_above a1 I Po) : gMet l D cy yX10_above cX10_above 4 (some .int) rm_X10_above V [.ref (V.2.1 200), .int a1] I J (gPi V (fun x I' J' => I = I' ∧ J = J' ∧ Po x)) := by
  refine gMet.of (by decide) (Nat.le_of_ble_eq_true rfl) (fun X hX C hR => ?_)
  have C : gC X cX10_above RX10 (some .int) 4 rm_X10_above := C
  show gJ X V 0 0 0 [(0, .ref (V.2.1 200)), (1, .int a1)] [] I J
  unfold wp_X10_above at h
  refine j_bipush (pc := 0) (v := 100) C dX10_above_0 (by decide) ?_
  refine j_istore_n (pc := 2) (lv' := [(2, .int (100 : Int32)), (0, .ref (V.2.1 200)), (1, .int a1)]) C dX10_above_2 rfl (by decide) rfl ?_
  refine j_iconst (pc := 3) (v := 0) C dX10_above_3 (by decide) ?_
  refine j_istore_n (pc := 4) (lv' := [(3, .int (0 : Int32)), (2, .int (100 : Int32)), (0, .ref (V.2.1 200)), (1, .int a1)]) C dX10_above_4 rfl (by decide) rfl ?_
  refine gJ.sub [2, 3, 1, 0] rfl ?_
  exact t_X10_above_5 hM C hX hR   h
/-! TileRulesModel.isLeast(Z)Z -/
abbrev rm_X10_isLeast : Room := { frames := 0, cells := 0, slots := 0, locals := 0 }
theorem ok_X10_isLeast : gOk yX10_isLeast cX10_isLeast 6 (some .boolean) 1 := ⟨wd_1316, wd_74, by decide +kernel⟩
def w_X10_isLeast_107  (Po : Int32 → Prop) (K2 : Int32 → Prop) (K12 : Int32 → Prop) (v1 : Int32) (v2 : Int32) (v3 : Int32) (I : gI) : Prop :=
  ∀ n7 : Int32, n7 = v3 + (-2) → K12 n7
def w_X10_isLeast_79  (Po : Int32 → Prop) (K2 : Int32 → Prop) (K12 : Int32 → Prop) (v1 : Int32) (v2 : Int32) (v3 : Int32) (v4 : Int32) (v5 : Int32) (I : gI) : Prop :=
  ((I 200 44) ≤ v4 → w_X10_isLeast_107 Po K2 K12 v1 v2 v3 I) ∧ (¬ (I 200 44) ≤ v4 → vp_in v5 20 ∧ vp_in v4 20 ∧ ((I 230 (v4).toNatClampNeg) ≤ (I 230 (v5).toNatClampNeg) → w_X10_isLeast_107 Po K2 K12 v1 v2 v3 I) ∧ (¬ (I 230 (v4).toNatClampNeg) ≤ (I 230 (v5).toNatClampNeg) → Po (0 : Int32)))
def w_X10_isLeast_31b  (Po : Int32 → Prop) (K2 : Int32 → Prop) (K12 : Int32 → Prop) (K31 : Int32 → Int32 → Prop) (v1 : Int32) (v2 : Int32) (v3 : Int32) (v4 : Int32) (v5 : Int32) (I : gI) : Prop :=
  ((I 200 44) ≤ v4 → w_X10_isLeast_79 Po K2 K12 v1 v2 v3 v4 v5 I) ∧ (¬ (I 200 44) ≤ v4 → vp_in v4 20 ∧ vp_in v5 20 ∧ (¬ (I 230 (v4).toNatClampNeg) = (I 230 (v5).toNatClampNeg) → w_X10_isLeast_79 Po K2 K12 v1 v2 v3 v4 v5 I) ∧ ((I 230 (v4).toNatClampNeg) = (I 230 (v5).toNatClampNeg) → ∀ n14 : Int32, n14 = v4 + 1 → ¬ (I 200 44) = 0 ∧ ∀ n16 : Int32, n16 = (((v5 + v3) + (I 200 44)) - ((v5 + v3) + (I 200 44)) / (I 200 44) * (I 200 44)) → K31 n14 n16))
def w_X10_isLeast_31  (Po : Int32 → Prop) (K2 : Int32 → Prop) (K12 : Int32 → Prop) (v1 : Int32) (v2 : Int32) (v3 : Int32) (v4 : Int32) (v5 : Int32) (I : gI) : Prop :=
  ∃ (Inv : Int32 → Int32 → Prop) (mu : Int32 → Int32 → Nat), Inv v4 v5 ∧ ∀ (v4 : Int32) (v5 : Int32), Inv v4 v5 → w_X10_isLeast_31b  Po K2 K12 (fun u4 u5 => Inv u4 u5 ∧ mu u4 u5 < mu v4 v5) v1 v2 v3 v4 v5 I
def w_X10_isLeast_22  (Po : Int32 → Prop) (K2 : Int32 → Prop) (K12 : Int32 → Prop) (v1 : Int32) (v2 : Int32) (v3 : Int32) (s0 : Int32) (s1 : Int32) (I : gI) : Prop :=
  (s1 < s0 → ∀ n4 : Int32, n4 = v2 + 1 → K2 n4) ∧ (¬ s1 < s0 → w_X10_isLeast_31 Po K2 K12 v1 v2 v3 (0 : Int32) v2 I)
def w_X10_isLeast_12b  (Po : Int32 → Prop) (K2 : Int32 → Prop) (K12 : Int32 → Prop) (v1 : Int32) (v2 : Int32) (v3 : Int32) (I : gI) : Prop :=
  (v1 = 0 → w_X10_isLeast_22 Po K2 K12 v1 v2 v3 (1 : Int32) v3 I) ∧ (¬ v1 = 0 → w_X10_isLeast_22 Po K2 K12 v1 v2 v3 (-1 : Int32) v3 I)
def w_X10_isLeast_12  (Po : Int32 → Prop) (K2 : Int32 → Prop) (v1 : Int32) (v2 : Int32) (v3 : Int32) (I : gI) : Prop :=
  ∃ (Inv : Int32 → Prop) (mu : Int32 → Nat), Inv v3 ∧ ∀ (v3 : Int32), Inv v3 → w_X10_isLeast_12b  Po K2 (fun u3 => Inv u3 ∧ mu u3 < mu v3) v1 v2 v3 I
def w_X10_isLeast_2b  (Po : Int32 → Prop) (K2 : Int32 → Prop) (v1 : Int32) (v2 : Int32) (I : gI) : Prop :=
  ((I 200 44) ≤ v2 → Po (1 : Int32)) ∧ (¬ (I 200 44) ≤ v2 → w_X10_isLeast_12 Po K2 v1 v2 (1 : Int32) I)
def w_X10_isLeast_2  (Po : Int32 → Prop)  (v1 : Int32) (v2 : Int32) (I : gI) : Prop :=
  ∃ (Inv : Int32 → Prop) (mu : Int32 → Nat), Inv v2 ∧ ∀ (v2 : Int32), Inv v2 → w_X10_isLeast_2b  Po  (fun u2 => Inv u2 ∧ mu u2 < mu v2) v1 v2 I
def wp_X10_isLeast (a1 : Int32) (I : gI) (Po : Int32 → Prop) : Prop :=
  w_X10_isLeast_2 Po a1 (0 : Int32) I
set_option maxRecDepth 100000 in
set_option maxHeartbeats 4000000 in
theorem t_X10_isLeast_107 {X : gX} {l : Launch} {D : va_G} {cy : Nat → ClassId} {nm : String} {V : gV} (hM : gModM V) (C : gC X cX10_isLeast RX10 (some .boolean) 6 rm_X10_isLeast) (hX : gIs X l D cy nm) {I : gI} {J : gL} {Po : Int32 → Prop} (hR : gR X (gPi V (fun x I' J' => I = I' ∧ J = J' ∧ Po x))) {v1 : Int32} {v2 : Int32} {v3 : Int32} {K2 : Int32 → Prop} {K12 : Int32 → Prop} (hK2 : ∀ (y2 : Int32), K2 y2 → gJ X V 0 0 2 [(0, .ref (V.2.1 200)), (1, .int v1), (2, .int y2)] [] I J) (hK12 : ∀ (y3 : Int32), K12 y3 → gJ X V 0 0 12 [(0, .ref (V.2.1 200)), (1, .int v1), (2, .int v2), (3, .int y3)] [] I J) (h : w_X10_isLeast_107 Po K2 K12 v1 v2 v3 I) : gJ X V 0 0 107 [(0, .ref (V.2.1 200)), (1, .int v1), (2, .int v2), (3, .int v3)] [] I J := by
  unfold w_X10_isLeast_107 at h
  obtain ⟨n7, en7⟩ : ∃ z : Int32, z = v3 + (-2) := ⟨_, rfl⟩
  have h := h n7 en7
  refine j_iinc (pc := 107) (v := n7) (lv' := [(3, .int n7), (0, .ref (V.2.1 200)), (1, .int v1), (2, .int v2)]) C dX10_isLeast_107 3 rfl (by rw [en7]; rfl) (by decide) rfl ?_
  refine j_goto (pc := 110) (tgt := 12) C dX10_isLeast_110 (by decide) ?_
  refine gJ.sub [1, 2, 3, 0] rfl ?_
  exact hK12 _ h
set_option maxRecDepth 100000 in
set_option maxHeartbeats 4000000 in
theorem t_X10_isLeast_79 {X : gX} {l : Launch} {D : va_G} {cy : Nat → ClassId} {nm : String} {V : gV} (hM : gModM V) (C : gC X cX10_isLeast RX10 (some .boolean) 6 rm_X10_isLeast) (hX : gIs X l D cy nm) {I : gI} {J : gL} {Po : Int32 → Prop} (hR : gR X (gPi V (fun x I' J' => I = I' ∧ J = J' ∧ Po x))) {v1 : Int32} {v2 : Int32} {v3 : Int32} {v4 : Int32} {v5 : Int32} {K2 : Int32 → Prop} {K12 : Int32 → Prop} (hK2 : ∀ (y2 : Int32), K2 y2 → gJ X V 0 0 2 [(0, .ref (V.2.1 200)), (1, .int v1), (2, .int y2)] [] I J) (hK12 : ∀ (y3 : Int32), K12 y3 → gJ X V 0 0 12 [(0, .ref (V.2.1 200)), (1, .int v1), (2, .int v2), (3, .int y3)] [] I J) (h : w_X10_isLeast_79 Po K2 K12 v1 v2 v3 v4 v5 I) : gJ X V 0 0 79 [(0, .ref (V.2.1 200)), (1, .int v1), (2, .int v2), (3, .int v3), (4, .int v4), (5, .int v5)] [] I J := by
  unfold w_X10_isLeast_79 at h
  refine j_iload (pc := 79) C dX10_isLeast_79 4 rfl ?_
  refine j_aload_n (pc := 81) C dX10_isLeast_81 rfl 0 rfl ?_
  refine j_getI (pc := 82) C 200 44 (c_200 hM).1 (c_200 hM).2 rfl rfl (by decide) inw_X10 wd_1010 dX10_isLeast_82 ?_
  refine j_icmp_ge (pc := 85) (tgt := 107) C dX10_isLeast_85 (by decide) (fun c6 => ?_) (fun c6 => ?_)
  · have h := h.1 c6
    refine gJ.sub [0, 1, 2, 3] rfl ?_
    exact t_X10_isLeast_107 hM C hX hR  hK2 hK12 h
  · have h := h.2 c6
    refine j_aload_n (pc := 88) C dX10_isLeast_88 rfl 0 rfl ?_
    refine j_getR (pc := 89) C 200 43 230 (c_200 hM).1 (c_200 hM).2 rfl rfl (by decide) inw_X10 wd_1009 dX10_isLeast_89 ?_
    refine j_iload (pc := 92) C dX10_isLeast_92 5 rfl ?_
    obtain ⟨g8, h⟩ := h
    refine j_iald (pc := 94) C 230 (c_230 hM).1 (c_230 hM).2 g8 dX10_isLeast_94 ?_
    refine j_aload_n (pc := 95) C dX10_isLeast_95 rfl 0 rfl ?_
    refine j_getR (pc := 96) C 200 43 230 (c_200 hM).1 (c_200 hM).2 rfl rfl (by decide) inw_X10 wd_1009 dX10_isLeast_96 ?_
    refine j_iload (pc := 99) C dX10_isLeast_99 4 rfl ?_
    obtain ⟨g9, h⟩ := h
    refine j_iald (pc := 101) C 230 (c_230 hM).1 (c_230 hM).2 g9 dX10_isLeast_101 ?_
    refine j_icmp_ge (pc := 102) (tgt := 107) C dX10_isLeast_102 (by decide) (fun c10 => ?_) (fun c10 => ?_)
    · have h := h.1 c10
      refine gJ.sub [0, 1, 2, 3] rfl ?_
      exact t_X10_isLeast_107 hM C hX hR  hK2 hK12 h
    · have h := h.2 c10
      refine j_iconst (pc := 105) (v := 0) C dX10_isLeast_105 (by decide) ?_
      exact j_zret (pc := 106) C hR (Or.inl rfl) (Nat.zero_le _) (Nat.zero_le _) dX10_isLeast_106 ⟨_, rfl, rfl, rfl, rfl, h⟩
set_option maxRecDepth 100000 in
set_option maxHeartbeats 4000000 in
theorem t_X10_isLeast_31b {X : gX} {l : Launch} {D : va_G} {cy : Nat → ClassId} {nm : String} {V : gV} (hM : gModM V) (C : gC X cX10_isLeast RX10 (some .boolean) 6 rm_X10_isLeast) (hX : gIs X l D cy nm) {I : gI} {J : gL} {Po : Int32 → Prop} (hR : gR X (gPi V (fun x I' J' => I = I' ∧ J = J' ∧ Po x))) {v1 : Int32} {v2 : Int32} {v3 : Int32} {v4 : Int32} {v5 : Int32} {K2 : Int32 → Prop} {K12 : Int32 → Prop} {K31 : Int32 → Int32 → Prop} (hK2 : ∀ (y2 : Int32), K2 y2 → gJ X V 0 0 2 [(0, .ref (V.2.1 200)), (1, .int v1), (2, .int y2)] [] I J) (hK12 : ∀ (y3 : Int32), K12 y3 → gJ X V 0 0 12 [(0, .ref (V.2.1 200)), (1, .int v1), (2, .int v2), (3, .int y3)] [] I J) (hK31 : ∀ (y4 : Int32) (y5 : Int32), K31 y4 y5 → gJ X V 0 0 31 [(0, .ref (V.2.1 200)), (1, .int v1), (2, .int v2), (3, .int v3), (4, .int y4), (5, .int y5)] [] I J) (h : w_X10_isLeast_31b Po K2 K12 K31 v1 v2 v3 v4 v5 I) : gJ X V 0 0 31 [(0, .ref (V.2.1 200)), (1, .int v1), (2, .int v2), (3, .int v3), (4, .int v4), (5, .int v5)] [] I J := by
  unfold w_X10_isLeast_31b at h
  refine j_iload (pc := 31) C dX10_isLeast_31 4 rfl ?_
  refine j_aload_n (pc := 33) C dX10_isLeast_33 rfl 0 rfl ?_
  refine j_getI (pc := 34) C 200 44 (c_200 hM).1 (c_200 hM).2 rfl rfl (by decide) inw_X10 wd_1010 dX10_isLeast_34 ?_
  refine j_icmp_ge (pc := 37) (tgt := 79) C dX10_isLeast_37 (by decide) (fun c5 => ?_) (fun c5 => ?_)
  · have h := h.1 c5
    refine gJ.sub [0, 1, 2, 3, 4, 5] rfl ?_
    exact t_X10_isLeast_79 hM C hX hR  hK2 hK12 h
  · have h := h.2 c5
    refine j_aload_n (pc := 40) C dX10_isLeast_40 rfl 0 rfl ?_
    refine j_getR (pc := 41) C 200 43 230 (c_200 hM).1 (c_200 hM).2 rfl rfl (by decide) inw_X10 wd_1009 dX10_isLeast_41 ?_
    refine j_iload (pc := 44) C dX10_isLeast_44 4 rfl ?_
    obtain ⟨g11, h⟩ := h
    refine j_iald (pc := 46) C 230 (c_230 hM).1 (c_230 hM).2 g11 dX10_isLeast_46 ?_
    refine j_aload_n (pc := 47) C dX10_isLeast_47 rfl 0 rfl ?_
    refine j_getR (pc := 48) C 200 43 230 (c_200 hM).1 (c_200 hM).2 rfl rfl (by decide) inw_X10 wd_1009 dX10_isLeast_48 ?_
    refine j_iload (pc := 51) C dX10_isLeast_51 5 rfl ?_
    obtain ⟨g12, h⟩ := h
    refine j_iald (pc := 53) C 230 (c_230 hM).1 (c_230 hM).2 g12 dX10_isLeast_53 ?_
    refine j_icmp_ne (pc := 54) (tgt := 79) C dX10_isLeast_54 (by decide) (fun c13 => ?_) (fun c13 => ?_)
    · have h := h.1 c13
      refine gJ.sub [0, 1, 2, 3, 4, 5] rfl ?_
      exact t_X10_isLeast_79 hM C hX hR  hK2 hK12 h
    · have h := h.2 c13
      obtain ⟨n14, en14⟩ : ∃ z : Int32, z = v4 + 1 := ⟨_, rfl⟩
      have h := h n14 en14
      refine j_iinc (pc := 57) (v := n14) (lv' := [(4, .int n14), (0, .ref (V.2.1 200)), (1, .int v1), (2, .int v2), (3, .int v3), (5, .int v5)]) C dX10_isLeast_57 4 rfl (by rw [en14]; rfl) (by decide) rfl ?_
      refine j_iload (pc := 60) C dX10_isLeast_60 5 rfl ?_
      refine j_iload_n (pc := 62) C dX10_isLeast_62 rfl 4 rfl ?_
      refine j_iadd (pc := 63) C dX10_isLeast_63 ?_
      refine j_aload_n (pc := 64) C dX10_isLeast_64 rfl 1 rfl ?_
      refine j_getI (pc := 65) C 200 44 (c_200 hM).1 (c_200 hM).2 rfl rfl (by decide) inw_X10 wd_1010 dX10_isLeast_65 ?_
      refine j_iadd (pc := 68) C dX10_isLeast_68 ?_
      refine j_aload_n (pc := 69) C dX10_isLeast_69 rfl 1 rfl ?_
      refine j_getI (pc := 70) C 200 44 (c_200 hM).1 (c_200 hM).2 rfl rfl (by decide) inw_X10 wd_1010 dX10_isLeast_70 ?_
      obtain ⟨g15, h⟩ := h
      refine j_irem (pc := 73) C dX10_isLeast_73 g15 ?_
      refine gJ.topi (fun n16 en16 => ?_)
      have h := h n16 en16
      refine j_istore (pc := 74) (lv' := [(5, .int n16), (4, .int n14), (0, .ref (V.2.1 200)), (1, .int v1), (2, .int v2), (3, .int v3)]) C dX10_isLeast_74 (by decide) rfl ?_
      refine j_goto (pc := 76) (tgt := 31) C dX10_isLeast_76 (by decide) ?_
      refine gJ.sub [2, 3, 4, 5, 1, 0] rfl ?_
      exact hK31 _ _ h
set_option maxRecDepth 100000 in
set_option maxHeartbeats 4000000 in
theorem t_X10_isLeast_31 {X : gX} {l : Launch} {D : va_G} {cy : Nat → ClassId} {nm : String} {V : gV} (hM : gModM V) (C : gC X cX10_isLeast RX10 (some .boolean) 6 rm_X10_isLeast) (hX : gIs X l D cy nm) {I : gI} {J : gL} {Po : Int32 → Prop} (hR : gR X (gPi V (fun x I' J' => I = I' ∧ J = J' ∧ Po x))) {v1 : Int32} {v2 : Int32} {v3 : Int32} {v4 : Int32} {v5 : Int32} {K2 : Int32 → Prop} {K12 : Int32 → Prop} (hK2 : ∀ (y2 : Int32), K2 y2 → gJ X V 0 0 2 [(0, .ref (V.2.1 200)), (1, .int v1), (2, .int y2)] [] I J) (hK12 : ∀ (y3 : Int32), K12 y3 → gJ X V 0 0 12 [(0, .ref (V.2.1 200)), (1, .int v1), (2, .int v2), (3, .int y3)] [] I J) (h : w_X10_isLeast_31 Po K2 K12 v1 v2 v3 v4 v5 I) : gJ X V 0 0 31 [(0, .ref (V.2.1 200)), (1, .int v1), (2, .int v2), (3, .int v3), (4, .int v4), (5, .int v5)] [] I J := by
  unfold w_X10_isLeast_31 at h
  obtain ⟨Inv, mu, h0, hs⟩ := h
  have key : ∀ (n : Nat) (v4 : Int32) (v5 : Int32), Inv v4 v5 → mu v4 v5 < n → gJ X V 0 0 31 [(0, .ref (V.2.1 200)), (1, .int v1), (2, .int v2), (3, .int v3), (4, .int v4), (5, .int v5)] [] I J := by
    intro n
    induction n with
    | zero => intro v4 v5 hi hn; exact absurd hn (Nat.not_lt_zero _)
    | succ n ih =>
      intro v4 v5 hi hn
      exact t_X10_isLeast_31b hM C hX hR  hK2 hK12 (fun u4 u5 hk => ih u4 u5 hk.1 (Nat.lt_of_lt_of_le hk.2 (Nat.le_of_lt_succ hn))) (hs v4 v5 hi)
  exact key _ v4 v5 h0 (Nat.lt_succ_self _)
set_option maxRecDepth 100000 in
set_option maxHeartbeats 4000000 in
theorem t_X10_isLeast_22 {X : gX} {l : Launch} {D : va_G} {cy : Nat → ClassId} {nm : String} {V : gV} (hM : gModM V) (C : gC X cX10_isLeast RX10 (some .boolean) 6 rm_X10_isLeast) (hX : gIs X l D cy nm) {I : gI} {J : gL} {Po : Int32 → Prop} (hR : gR X (gPi V (fun x I' J' => I = I' ∧ J = J' ∧ Po x))) {v1 : Int32} {v2 : Int32} {v3 : Int32} {s0 : Int32} {s1 : Int32} {K2 : Int32 → Prop} {K12 : Int32 → Prop} (hK2 : ∀ (y2 : Int32), K2 y2 → gJ X V 0 0 2 [(0, .ref (V.2.1 200)), (1, .int v1), (2, .int y2)] [] I J) (hK12 : ∀ (y3 : Int32), K12 y3 → gJ X V 0 0 12 [(0, .ref (V.2.1 200)), (1, .int v1), (2, .int v2), (3, .int y3)] [] I J) (h : w_X10_isLeast_22 Po K2 K12 v1 v2 v3 s0 s1 I) : gJ X V 0 0 22 [(0, .ref (V.2.1 200)), (1, .int v1), (2, .int v2), (3, .int v3)] [.int s0, .int s1] I J := by
  unfold w_X10_isLeast_22 at h
  refine j_icmp_lt (pc := 22) (tgt := 113) C dX10_isLeast_22 (by decide) (fun c3 => ?_) (fun c3 => ?_)
  · have h := h.1 c3
    obtain ⟨n4, en4⟩ : ∃ z : Int32, z = v2 + 1 := ⟨_, rfl⟩
    have h := h n4 en4
    refine j_iinc (pc := 113) (v := n4) (lv' := [(2, .int n4), (0, .ref (V.2.1 200)), (1, .int v1), (3, .int v3)]) C dX10_isLeast_113 2 rfl (by rw [en4]; rfl) (by decide) rfl ?_
    refine j_goto (pc := 116) (tgt := 2) C dX10_isLeast_116 (by decide) ?_
    refine gJ.sub [1, 2, 0] rfl ?_
    exact hK2 _ h
  · have h := h.2 c3
    refine j_iconst (pc := 25) (v := 0) C dX10_isLeast_25 (by decide) ?_
    refine j_istore (pc := 26) (lv' := [(4, .int (0 : Int32)), (0, .ref (V.2.1 200)), (1, .int v1), (2, .int v2), (3, .int v3)]) C dX10_isLeast_26 (by decide) rfl ?_
    refine j_iload_n (pc := 28) C dX10_isLeast_28 rfl 3 rfl ?_
    refine j_istore (pc := 29) (lv' := [(5, .int v2), (4, .int (0 : Int32)), (0, .ref (V.2.1 200)), (1, .int v1), (2, .int v2), (3, .int v3)]) C dX10_isLeast_29 (by decide) rfl ?_
    refine gJ.sub [2, 3, 4, 5, 1, 0] rfl ?_
    exact t_X10_isLeast_31 hM C hX hR  hK2 hK12 h
set_option maxRecDepth 100000 in
set_option maxHeartbeats 4000000 in
theorem t_X10_isLeast_12b {X : gX} {l : Launch} {D : va_G} {cy : Nat → ClassId} {nm : String} {V : gV} (hM : gModM V) (C : gC X cX10_isLeast RX10 (some .boolean) 6 rm_X10_isLeast) (hX : gIs X l D cy nm) {I : gI} {J : gL} {Po : Int32 → Prop} (hR : gR X (gPi V (fun x I' J' => I = I' ∧ J = J' ∧ Po x))) {v1 : Int32} {v2 : Int32} {v3 : Int32} {K2 : Int32 → Prop} {K12 : Int32 → Prop} (hK2 : ∀ (y2 : Int32), K2 y2 → gJ X V 0 0 2 [(0, .ref (V.2.1 200)), (1, .int v1), (2, .int y2)] [] I J) (hK12 : ∀ (y3 : Int32), K12 y3 → gJ X V 0 0 12 [(0, .ref (V.2.1 200)), (1, .int v1), (2, .int v2), (3, .int y3)] [] I J) (h : w_X10_isLeast_12b Po K2 K12 v1 v2 v3 I) : gJ X V 0 0 12 [(0, .ref (V.2.1 200)), (1, .int v1), (2, .int v2), (3, .int v3)] [] I J := by
  unfold w_X10_isLeast_12b at h
  refine j_iload_n (pc := 12) C dX10_isLeast_12 rfl 3 rfl ?_
  refine j_iload_n (pc := 13) C dX10_isLeast_13 rfl 1 rfl ?_
  refine j_if_eq (pc := 14) (tgt := 21) C dX10_isLeast_14 (by decide) (fun c2 => ?_) (fun c2 => ?_)
  · have h := h.1 c2
    refine j_iconst (pc := 21) (v := 1) C dX10_isLeast_21 (by decide) ?_
    refine gJ.sub [0, 1, 2, 3] rfl ?_
    exact t_X10_isLeast_22 hM C hX hR  hK2 hK12 h
  · have h := h.2 c2
    refine j_iconst (pc := 17) (v := (-1)) C dX10_isLeast_17 (by decide) ?_
    refine j_goto (pc := 18) (tgt := 22) C dX10_isLeast_18 (by decide) ?_
    refine gJ.sub [0, 1, 2, 3] rfl ?_
    exact t_X10_isLeast_22 hM C hX hR  hK2 hK12 h
set_option maxRecDepth 100000 in
set_option maxHeartbeats 4000000 in
theorem t_X10_isLeast_12 {X : gX} {l : Launch} {D : va_G} {cy : Nat → ClassId} {nm : String} {V : gV} (hM : gModM V) (C : gC X cX10_isLeast RX10 (some .boolean) 6 rm_X10_isLeast) (hX : gIs X l D cy nm) {I : gI} {J : gL} {Po : Int32 → Prop} (hR : gR X (gPi V (fun x I' J' => I = I' ∧ J = J' ∧ Po x))) {v1 : Int32} {v2 : Int32} {v3 : Int32} {K2 : Int32 → Prop} (hK2 : ∀ (y2 : Int32), K2 y2 → gJ X V 0 0 2 [(0, .ref (V.2.1 200)), (1, .int v1), (2, .int y2)] [] I J) (h : w_X10_isLeast_12 Po K2 v1 v2 v3 I) : gJ X V 0 0 12 [(0, .ref (V.2.1 200)), (1, .int v1), (2, .int v2), (3, .int v3)] [] I J := by
  unfold w_X10_isLeast_12 at h
  obtain ⟨Inv, mu, h0, hs⟩ := h
  have key : ∀ (n : Nat) (v3 : Int32), Inv v3 → mu v3 < n → gJ X V 0 0 12 [(0, .ref (V.2.1 200)), (1, .int v1), (2, .int v2), (3, .int v3)] [] I J := by
    intro n
    induction n with
    | zero => intro v3 hi hn; exact absurd hn (Nat.not_lt_zero _)
    | succ n ih =>
      intro v3 hi hn
      exact t_X10_isLeast_12b hM C hX hR  hK2 (fun u3 hk => ih u3 hk.1 (Nat.lt_of_lt_of_le hk.2 (Nat.le_of_lt_succ hn))) (hs v3 hi)
  exact key _ v3 h0 (Nat.lt_succ_self _)
set_option maxRecDepth 100000 in
set_option maxHeartbeats 4000000 in
theorem t_X10_isLeast_2b {X : gX} {l : Launch} {D : va_G} {cy : Nat → ClassId} {nm : String} {V : gV} (hM : gModM V) (C : gC X cX10_isLeast RX10 (some .boolean) 6 rm_X10_isLeast) (hX : gIs X l D cy nm) {I : gI} {J : gL} {Po : Int32 → Prop} (hR : gR X (gPi V (fun x I' J' => I = I' ∧ J = J' ∧ Po x))) {v1 : Int32} {v2 : Int32} {K2 : Int32 → Prop} (hK2 : ∀ (y2 : Int32), K2 y2 → gJ X V 0 0 2 [(0, .ref (V.2.1 200)), (1, .int v1), (2, .int y2)] [] I J) (h : w_X10_isLeast_2b Po K2 v1 v2 I) : gJ X V 0 0 2 [(0, .ref (V.2.1 200)), (1, .int v1), (2, .int v2)] [] I J := by
  unfold w_X10_isLeast_2b at h
  refine j_iload_n (pc := 2) C dX10_isLeast_2 rfl 2 rfl ?_
  refine j_aload_n (pc := 3) C dX10_isLeast_3 rfl 0 rfl ?_
  refine j_getI (pc := 4) C 200 44 (c_200 hM).1 (c_200 hM).2 rfl rfl (by decide) inw_X10 wd_1010 dX10_isLeast_4 ?_
  refine j_icmp_ge (pc := 7) (tgt := 119) C dX10_isLeast_7 (by decide) (fun c1 => ?_) (fun c1 => ?_)
  · have h := h.1 c1
    refine j_iconst (pc := 119) (v := 1) C dX10_isLeast_119 (by decide) ?_
    exact j_zret (pc := 120) C hR (Or.inr rfl) (Nat.zero_le _) (Nat.zero_le _) dX10_isLeast_120 ⟨_, rfl, rfl, rfl, rfl, h⟩
  · have h := h.2 c1
    refine j_iconst (pc := 10) (v := 1) C dX10_isLeast_10 (by decide) ?_
    refine j_istore_n (pc := 11) (lv' := [(3, .int (1 : Int32)), (0, .ref (V.2.1 200)), (1, .int v1), (2, .int v2)]) C dX10_isLeast_11 rfl (by decide) rfl ?_
    refine gJ.sub [1, 2, 3, 0] rfl ?_
    exact t_X10_isLeast_12 hM C hX hR  hK2 h
set_option maxRecDepth 100000 in
set_option maxHeartbeats 4000000 in
theorem t_X10_isLeast_2 {X : gX} {l : Launch} {D : va_G} {cy : Nat → ClassId} {nm : String} {V : gV} (hM : gModM V) (C : gC X cX10_isLeast RX10 (some .boolean) 6 rm_X10_isLeast) (hX : gIs X l D cy nm) {I : gI} {J : gL} {Po : Int32 → Prop} (hR : gR X (gPi V (fun x I' J' => I = I' ∧ J = J' ∧ Po x))) {v1 : Int32} {v2 : Int32} (h : w_X10_isLeast_2 Po v1 v2 I) : gJ X V 0 0 2 [(0, .ref (V.2.1 200)), (1, .int v1), (2, .int v2)] [] I J := by
  unfold w_X10_isLeast_2 at h
  obtain ⟨Inv, mu, h0, hs⟩ := h
  have key : ∀ (n : Nat) (v2 : Int32), Inv v2 → mu v2 < n → gJ X V 0 0 2 [(0, .ref (V.2.1 200)), (1, .int v1), (2, .int v2)] [] I J := by
    intro n
    induction n with
    | zero => intro v2 hi hn; exact absurd hn (Nat.not_lt_zero _)
    | succ n ih =>
      intro v2 hi hn
      exact t_X10_isLeast_2b hM C hX hR   (fun u2 hk => ih u2 hk.1 (Nat.lt_of_lt_of_le hk.2 (Nat.le_of_lt_succ hn))) (hs v2 hi)
  exact key _ v2 h0 (Nat.lt_succ_self _)
set_option maxRecDepth 100000 in
set_option maxHeartbeats 4000000 in
theorem m_X10_isLeast {l : Launch} {D : va_G} {cy : Nat → ClassId} {V : gV} (hM : gModM V) {a1 : Int32} {I : gI} {J : gL} {Po : Int32 → Prop} (h : wp_X10_isLeast a1 I Po) : gMet l D cy yX10_isLeast cX10_isLeast 6 (some .boolean) rm_X10_isLeast V [.ref (V.2.1 200), .int a1] I J (gPi V (fun x I' J' => I = I' ∧ J = J' ∧ Po x)) := by
  refine gMet.of (by decide) (Nat.le_of_ble_eq_true rfl) (fun X hX C hR => ?_)
  have C : gC X cX10_isLeast RX10 (some .boolean) 6 rm_X10_isLeast := C
  show gJ X V 0 0 0 [(0, .ref (V.2.1 200)), (1, .int a1)] [] I J
  unfold wp_X10_isLeast at h
  refine j_iconst (pc := 0) (v := 0) C dX10_isLeast_0 (by decide) ?_
  refine j_istore_n (pc := 1) (lv' := [(2, .int (0 : Int32)), (0, .ref (V.2.1 200)), (1, .int a1)]) C dX10_isLeast_1 rfl (by decide) rfl ?_
  refine gJ.sub [1, 2, 0] rfl ?_
  exact t_X10_isLeast_2 hM C hX hR   h
/-! TileRulesModel.go(ZI)I -/
abbrev rm_X10_go : Room := { frames := 1, cells := 0, slots := 0, locals := 25 }
theorem ok_X10_go : gOk yX10_go cX10_go 8 (some .int) 2 := ⟨wd_1308, wd_74, by decide +kernel⟩
def w_X10_go_143  (Po : Int32 → gI → Prop) (K16 : Int32 → Int32 → Int32 → Int32 → gI → Prop) (v1 : Int32) (v2 : Int32) (v3 : Int32) (v4 : Int32) (v5 : Int32) (v6 : Int32) (I : gI) : Prop :=
  K16 v3 v4 v5 v6 I
def w_X10_go_16b  (Po : Int32 → gI → Prop) (K16 : Int32 → Int32 → Int32 → Int32 → gI → Prop) (v1 : Int32) (v2 : Int32) (v3 : Int32) (v4 : Int32) (v5 : Int32) (v6 : Int32) (I : gI) : Prop :=
  (v6 = 0 → Po v3 I) ∧ (¬ v6 = 0 → wp_X10_above v5 I (fun r3 => ((I 200 40) < (v4 + r3) → ((I 200 44) ≤ 0 → w_X10_go_143 Po K16 v1 v2 v3 v4 v5 (0 : Int32) I) ∧ (¬ (I 200 44) ≤ 0 → ∀ I6 : gI, I6 = gup I 200 44 ((I 200 44) - (1 : Int32)) → vp_in (I6 200 44) 20 ∧ ∀ n8 : Int32, n8 = (I6 230 ((I6 200 44)).toNatClampNeg) → ∀ n9 : Int32, n9 = (v4 - n8) → w_X10_go_143 Po K16 v1 v2 v3 n9 n8 v6 I6)) ∧ (¬ (I 200 40) < (v4 + r3) → vp_in (I 200 44) 20 ∧ ∀ I11 : gI, I11 = gup I 230 ((I 200 44)).toNatClampNeg r3 → ∀ I12 : gI, I12 = gup I11 200 44 ((I11 200 44) + (1 : Int32)) → ∀ n13 : Int32, n13 = (v4 + r3) → (¬ n13 = (I12 200 40) → w_X10_go_143 Po K16 v1 v2 v3 n13 (0 : Int32) v6 I12) ∧ (n13 = (I12 200 40) → wp_X10_isLeast v1 I12 (fun r15 => (r15 = 0 → w_X10_go_143 Po K16 v1 v2 v3 n13 (0 : Int32) v6 I12) ∧ (¬ r15 = 0 → (¬ v3 = v2 → ∀ n18 : Int32, n18 = v3 + 1 → w_X10_go_143 Po K16 v1 v2 n18 n13 (0 : Int32) v6 I12) ∧ (v3 = v2 → Po v3 I12)))))))
def w_X10_go_16  (Po : Int32 → gI → Prop)  (v1 : Int32) (v2 : Int32) (v3 : Int32) (v4 : Int32) (v5 : Int32) (v6 : Int32) (I : gI) : Prop :=
  ∃ (Inv : Int32 → Int32 → Int32 → Int32 → gI → Prop) (mu : Int32 → Int32 → Int32 → Int32 → gI → Nat), Inv v3 v4 v5 v6 I ∧ ∀ (v3 : Int32) (v4 : Int32) (v5 : Int32) (v6 : Int32) (I : gI), Inv v3 v4 v5 v6 I → w_X10_go_16b  Po  (fun u3 u4 u5 u6 I1 => Inv u3 u4 u5 u6 I1 ∧ mu u3 u4 u5 u6 I1 < mu v3 v4 v5 v6 I) v1 v2 v3 v4 v5 v6 I
def wp_X10_go (a1 : Int32) (a2 : Int32) (I : gI) (Po : Int32 → gI → Prop) : Prop :=
  ∀ I1 : gI, I1 = gup I 200 44 (0 : Int32) → w_X10_go_16 Po a1 a2 (0 : Int32) (0 : Int32) (0 : Int32) (1 : Int32) I1
set_option maxRecDepth 100000 in
set_option maxHeartbeats 4000000 in
theorem t_X10_go_143 {X : gX} {l : Launch} {D : va_G} {cy : Nat → ClassId} {nm : String} {V : gV} (hM : gModM V) (C : gC X cX10_go RX10 (some .int) 8 rm_X10_go) (hX : gIs X l D cy nm) {I : gI} {J : gL} {Po : Int32 → gI → Prop} (hR : gR X (gPi V (fun x I' J' => J = J' ∧ Po x I'))) {v1 : Int32} {v2 : Int32} {v3 : Int32} {v4 : Int32} {v5 : Int32} {v6 : Int32} {K16 : Int32 → Int32 → Int32 → Int32 → gI → Prop} (hK16 : ∀ (y3 : Int32) (y4 : Int32) (y5 : Int32) (y6 : Int32) (I1 : gI), K16 y3 y4 y5 y6 I1 → gJ X V 0 0 16 [(0, .ref (V.2.1 200)), (1, .int v1), (2, .int v2), (3, .int y3), (4, .int y4), (5, .int y5), (6, .int y6)] [] I1 J) (h : w_X10_go_143 Po K16 v1 v2 v3 v4 v5 v6 I) : gJ X V 0 0 143 [(0, .ref (V.2.1 200)), (1, .int v1), (2, .int v2), (3, .int v3), (4, .int v4), (5, .int v5), (6, .int v6)] [] I J := by
  unfold w_X10_go_143 at h
  refine j_goto (pc := 143) (tgt := 16) C dX10_go_143 (by decide) ?_
  refine gJ.sub [0, 1, 2, 3, 4, 5, 6] rfl ?_
  exact hK16 _ _ _ _ _ h
set_option maxRecDepth 100000 in
set_option maxHeartbeats 4000000 in
theorem t_X10_go_16b {X : gX} {l : Launch} {D : va_G} {cy : Nat → ClassId} {nm : String} {V : gV} (hM : gModM V) (C : gC X cX10_go RX10 (some .int) 8 rm_X10_go) (hX : gIs X l D cy nm) {I : gI} {J : gL} {Po : Int32 → gI → Prop} (hR : gR X (gPi V (fun x I' J' => J = J' ∧ Po x I'))) {v1 : Int32} {v2 : Int32} {v3 : Int32} {v4 : Int32} {v5 : Int32} {v6 : Int32} {K16 : Int32 → Int32 → Int32 → Int32 → gI → Prop} (hK16 : ∀ (y3 : Int32) (y4 : Int32) (y5 : Int32) (y6 : Int32) (I1 : gI), K16 y3 y4 y5 y6 I1 → gJ X V 0 0 16 [(0, .ref (V.2.1 200)), (1, .int v1), (2, .int v2), (3, .int y3), (4, .int y4), (5, .int y5), (6, .int y6)] [] I1 J) (h : w_X10_go_16b Po K16 v1 v2 v3 v4 v5 v6 I) : gJ X V 0 0 16 [(0, .ref (V.2.1 200)), (1, .int v1), (2, .int v2), (3, .int v3), (4, .int v4), (5, .int v5), (6, .int v6)] [] I J := by
  unfold w_X10_go_16b at h
  refine j_iload (pc := 16) C dX10_go_16 6 rfl ?_
  refine j_if_eq (pc := 18) (tgt := 146) C dX10_go_18 (by decide) (fun c2 => ?_) (fun c2 => ?_)
  · have h := h.1 c2
    refine j_iload_n (pc := 146) C dX10_go_146 rfl 3 rfl ?_
    exact j_iret (pc := 147) C hR (Nat.zero_le _) (Nat.zero_le _) dX10_go_147 ⟨_, rfl, rfl, rfl, h⟩
  · have h := h.2 c2
    refine j_aload_n (pc := 21) C dX10_go_21 rfl 0 rfl ?_
    refine j_iload (pc := 22) C dX10_go_22 5 rfl ?_
    refine j_callV (pc := 24) (As := [.int v5]) (st := []) C hX 200 (m_X10_above hM  h) (c_200 hM).1 (c_200 hM).2 rfl ok_X10_above wd_1309 wd_1311 wd_66 ⟨by decide, by decide⟩ rfl rfl (Nat.le_of_ble_eq_true rfl) ⟨Nat.le_refl 0, Nat.le_refl 0⟩ dX10_go_24 (fun r V1 I1 J1 hp => ?_)
    obtain ⟨r3, rfl, rfl, rfl, rfl, h⟩ := hp
    show gJ X V 0 0 27 _ [.int r3] _ _
    refine j_istore (pc := 27) (lv' := [(7, .int r3), (0, .ref (V.2.1 200)), (1, .int v1), (2, .int v2), (3, .int v3), (4, .int v4), (5, .int v5), (6, .int v6)]) C dX10_go_27 (by decide) rfl ?_
    refine j_iload (pc := 29) C dX10_go_29 5 rfl ?_
    refine j_iload (pc := 31) C dX10_go_31 0 rfl ?_
    refine j_iadd (pc := 33) C dX10_go_33 ?_
    refine j_aload_n (pc := 34) C dX10_go_34 rfl 1 rfl ?_
    refine j_getI (pc := 35) C 200 40 (c_200 hM).1 (c_200 hM).2 rfl rfl (by decide) inw_X10 wd_1006 dX10_go_35 ?_
    refine j_icmp_gt (pc := 38) (tgt := 102) C dX10_go_38 (by decide) (fun c4 => ?_) (fun c4 => ?_)
    · have h := h.1 c4
      refine j_aload_n (pc := 102) C dX10_go_102 rfl 1 rfl ?_
      refine j_getI (pc := 103) C 200 44 (c_200 hM).1 (c_200 hM).2 rfl rfl (by decide) inw_X10 wd_1010 dX10_go_103 ?_
      refine j_if_le (pc := 106) (tgt := 140) C dX10_go_106 (by decide) (fun c5 => ?_) (fun c5 => ?_)
      · have h := h.1 c5
        refine j_iconst (pc := 140) (v := 0) C dX10_go_140 (by decide) ?_
        refine j_istore (pc := 141) (lv' := [(6, .int (0 : Int32)), (7, .int r3), (0, .ref (V.2.1 200)), (1, .int v1), (2, .int v2), (3, .int v3), (4, .int v4), (5, .int v5)]) C dX10_go_141 (by decide) rfl ?_
        refine gJ.sub [2, 3, 4, 5, 6, 7, 0] rfl ?_
        exact t_X10_go_143 hM C hX hR  hK16 h
      · have h := h.2 c5
        refine j_aload_n (pc := 109) C dX10_go_109 rfl 1 rfl ?_
        refine j_dup (pc := 110) C dX10_go_110 rfl ?_
        refine j_getI (pc := 111) C 200 44 (c_200 hM).1 (c_200 hM).2 rfl rfl (by decide) inw_X10 wd_1010 dX10_go_111 ?_
        refine j_iconst (pc := 114) (v := 1) C dX10_go_114 (by decide) ?_
        refine j_isub (pc := 115) C dX10_go_115 ?_
        refine j_putI (pc := 116) (ft := .int) C tyX10 tyX10_ok nmX10 200 44 (c_200 hM).1 (c_200 hM).2 rfl rfl (by decide) inw_X10 wd_1010 rfl (by decide +kernel) rfl rfl dX10_go_116 ?_
        refine gJ.nmI (fun I6 eI6 => ?_)
        have h := h I6 eI6
        refine j_aload_n (pc := 119) C dX10_go_119 rfl 1 rfl ?_
        refine j_getR (pc := 120) C 200 43 230 (c_200 hM).1 (c_200 hM).2 rfl rfl (by decide) inw_X10 wd_1009 dX10_go_120 ?_
        refine j_aload_n (pc := 123) C dX10_go_123 rfl 1 rfl ?_
        refine j_getI (pc := 124) C 200 44 (c_200 hM).1 (c_200 hM).2 rfl rfl (by decide) inw_X10 wd_1010 dX10_go_124 ?_
        obtain ⟨g7, h⟩ := h
        refine j_iald (pc := 127) C 230 (c_230 hM).1 (c_230 hM).2 g7 dX10_go_127 ?_
        refine gJ.topi (fun n8 en8 => ?_)
        have h := h n8 en8
        refine j_istore (pc := 128) (lv' := [(5, .int n8), (7, .int r3), (0, .ref (V.2.1 200)), (1, .int v1), (2, .int v2), (3, .int v3), (4, .int v4), (6, .int v6)]) C dX10_go_128 (by decide) rfl ?_
        refine j_iload (pc := 130) C dX10_go_130 6 rfl ?_
        refine j_iload (pc := 132) C dX10_go_132 0 rfl ?_
        refine j_isub (pc := 134) C dX10_go_134 ?_
        refine gJ.topi (fun n9 en9 => ?_)
        have h := h n9 en9
        refine j_istore (pc := 135) (lv' := [(4, .int n9), (5, .int n8), (7, .int r3), (0, .ref (V.2.1 200)), (1, .int v1), (2, .int v2), (3, .int v3), (6, .int v6)]) C dX10_go_135 (by decide) rfl ?_
        refine j_goto (pc := 137) (tgt := 143) C dX10_go_137 (by decide) ?_
        refine gJ.sub [3, 4, 5, 6, 0, 1, 7] rfl ?_
        exact t_X10_go_143 hM C hX hR  hK16 h
    · have h := h.2 c4
      refine j_aload_n (pc := 41) C dX10_go_41 rfl 1 rfl ?_
      refine j_getR (pc := 42) C 200 43 230 (c_200 hM).1 (c_200 hM).2 rfl rfl (by decide) inw_X10 wd_1009 dX10_go_42 ?_
      refine j_aload_n (pc := 45) C dX10_go_45 rfl 1 rfl ?_
      refine j_getI (pc := 46) C 200 44 (c_200 hM).1 (c_200 hM).2 rfl rfl (by decide) inw_X10 wd_1010 dX10_go_46 ?_
      refine j_iload (pc := 49) C dX10_go_49 0 rfl ?_
      obtain ⟨g10, h⟩ := h
      refine j_iast (pc := 51) C 230 (c_230 hM).1 (c_230 hM).2 g10 dX10_go_51 ?_
      refine gJ.nmI (fun I11 eI11 => ?_)
      have h := h I11 eI11
      refine j_aload_n (pc := 52) C dX10_go_52 rfl 1 rfl ?_
      refine j_dup (pc := 53) C dX10_go_53 rfl ?_
      refine j_getI (pc := 54) C 200 44 (c_200 hM).1 (c_200 hM).2 rfl rfl (by decide) inw_X10 wd_1010 dX10_go_54 ?_
      refine j_iconst (pc := 57) (v := 1) C dX10_go_57 (by decide) ?_
      refine j_iadd (pc := 58) C dX10_go_58 ?_
      refine j_putI (pc := 59) (ft := .int) C tyX10 tyX10_ok nmX10 200 44 (c_200 hM).1 (c_200 hM).2 rfl rfl (by decide) inw_X10 wd_1010 rfl (by decide +kernel) rfl rfl dX10_go_59 ?_
      refine gJ.nmI (fun I12 eI12 => ?_)
      have h := h I12 eI12
      refine j_iload (pc := 62) C dX10_go_62 5 rfl ?_
      refine j_iload (pc := 64) C dX10_go_64 0 rfl ?_
      refine j_iadd (pc := 66) C dX10_go_66 ?_
      refine gJ.topi (fun n13 en13 => ?_)
      have h := h n13 en13
      refine j_istore (pc := 67) (lv' := [(4, .int n13), (7, .int r3), (0, .ref (V.2.1 200)), (1, .int v1), (2, .int v2), (3, .int v3), (5, .int v5), (6, .int v6)]) C dX10_go_67 (by decide) rfl ?_
      refine j_iconst (pc := 69) (v := 0) C dX10_go_69 (by decide) ?_
      refine j_istore (pc := 70) (lv' := [(5, .int (0 : Int32)), (4, .int n13), (7, .int r3), (0, .ref (V.2.1 200)), (1, .int v1), (2, .int v2), (3, .int v3), (6, .int v6)]) C dX10_go_70 (by decide) rfl ?_
      refine j_iload (pc := 72) C dX10_go_72 1 rfl ?_
      refine j_aload_n (pc := 74) C dX10_go_74 rfl 3 rfl ?_
      refine j_getI (pc := 75) C 200 40 (c_200 hM).1 (c_200 hM).2 rfl rfl (by decide) inw_X10 wd_1006 dX10_go_75 ?_
      refine j_icmp_ne (pc := 78) (tgt := 143) C dX10_go_78 (by decide) (fun c14 => ?_) (fun c14 => ?_)
      · have h := h.1 c14
        refine gJ.sub [3, 4, 5, 6, 1, 0, 7] rfl ?_
        exact t_X10_go_143 hM C hX hR  hK16 h
      · have h := h.2 c14
        refine j_aload_n (pc := 81) C dX10_go_81 rfl 3 rfl ?_
        refine j_iload_n (pc := 82) C dX10_go_82 rfl 4 rfl ?_
        refine j_callV (pc := 83) (As := [.int v1]) (st := []) C hX 200 (m_X10_isLeast hM  h) (c_200 hM).1 (c_200 hM).2 rfl ok_X10_isLeast wd_1313 wd_1315 wd_67 ⟨by decide, by decide⟩ rfl rfl (Nat.le_of_ble_eq_true rfl) ⟨Nat.le_refl 0, Nat.le_refl 0⟩ dX10_go_83 (fun r V1 I1 J1 hp => ?_)
        obtain ⟨r15, rfl, rfl, rfl, rfl, h⟩ := hp
        show gJ X V 0 0 86 _ [.int r15] _ _
        refine j_if_eq (pc := 86) (tgt := 143) C dX10_go_86 (by decide) (fun c16 => ?_) (fun c16 => ?_)
        · have h := h.1 c16
          refine gJ.sub [3, 4, 5, 6, 1, 0, 7] rfl ?_
          exact t_X10_go_143 hM C hX hR  hK16 h
        · have h := h.2 c16
          refine j_iload_n (pc := 89) C dX10_go_89 rfl 6 rfl ?_
          refine j_iload_n (pc := 90) C dX10_go_90 rfl 5 rfl ?_
          refine j_icmp_ne (pc := 91) (tgt := 96) C dX10_go_91 (by decide) (fun c17 => ?_) (fun c17 => ?_)
          · have h := h.1 c17
            obtain ⟨n18, en18⟩ : ∃ z : Int32, z = v3 + 1 := ⟨_, rfl⟩
            have h := h n18 en18
            refine j_iinc (pc := 96) (v := n18) (lv' := [(3, .int n18), (5, .int (0 : Int32)), (4, .int n13), (7, .int r3), (0, .ref (V.2.1 200)), (1, .int v1), (2, .int v2), (6, .int v6)]) C dX10_go_96 6 rfl (by rw [en18]; rfl) (by decide) rfl ?_
            refine j_goto (pc := 99) (tgt := 143) C dX10_go_99 (by decide) ?_
            refine gJ.sub [4, 5, 6, 0, 2, 1, 7] rfl ?_
            exact t_X10_go_143 hM C hX hR  hK16 h
          · have h := h.2 c17
            refine j_iload_n (pc := 94) C dX10_go_94 rfl 6 rfl ?_
            exact j_iret (pc := 95) C hR (Nat.zero_le _) (Nat.zero_le _) dX10_go_95 ⟨_, rfl, rfl, rfl, h⟩
set_option maxRecDepth 100000 in
set_option maxHeartbeats 4000000 in
theorem t_X10_go_16 {X : gX} {l : Launch} {D : va_G} {cy : Nat → ClassId} {nm : String} {V : gV} (hM : gModM V) (C : gC X cX10_go RX10 (some .int) 8 rm_X10_go) (hX : gIs X l D cy nm) {I : gI} {J : gL} {Po : Int32 → gI → Prop} (hR : gR X (gPi V (fun x I' J' => J = J' ∧ Po x I'))) {v1 : Int32} {v2 : Int32} {v3 : Int32} {v4 : Int32} {v5 : Int32} {v6 : Int32} (h : w_X10_go_16 Po v1 v2 v3 v4 v5 v6 I) : gJ X V 0 0 16 [(0, .ref (V.2.1 200)), (1, .int v1), (2, .int v2), (3, .int v3), (4, .int v4), (5, .int v5), (6, .int v6)] [] I J := by
  unfold w_X10_go_16 at h
  obtain ⟨Inv, mu, h0, hs⟩ := h
  have key : ∀ (n : Nat) (v3 : Int32) (v4 : Int32) (v5 : Int32) (v6 : Int32) (I : gI), Inv v3 v4 v5 v6 I → mu v3 v4 v5 v6 I < n → gJ X V 0 0 16 [(0, .ref (V.2.1 200)), (1, .int v1), (2, .int v2), (3, .int v3), (4, .int v4), (5, .int v5), (6, .int v6)] [] I J := by
    intro n
    induction n with
    | zero => intro v3 v4 v5 v6 I hi hn; exact absurd hn (Nat.not_lt_zero _)
    | succ n ih =>
      intro v3 v4 v5 v6 I hi hn
      exact t_X10_go_16b hM C hX hR   (fun u3 u4 u5 u6 I1 hk => ih u3 u4 u5 u6 I1 hk.1 (Nat.lt_of_lt_of_le hk.2 (Nat.le_of_lt_succ hn))) (hs v3 v4 v5 v6 I hi)
  exact key _ v3 v4 v5 v6 I h0 (Nat.lt_succ_self _)
set_option maxRecDepth 100000 in
set_option maxHeartbeats 4000000 in
theorem m_X10_go {l : Launch} {D : va_G} {cy : Nat → ClassId} {V : gV} (hM : gModM V) {a1 : Int32} {a2 : Int32} {I : gI} {J : gL} {Po : Int32 → gI → Prop} (h : wp_X10_go a1 a2 I Po) : gMet l D cy yX10_go cX10_go 8 (some .int) rm_X10_go V [.ref (V.2.1 200), .int a1, .int a2] I J (gPi V (fun x I' J' => J = J' ∧ Po x I')) := by
  refine gMet.of (by decide) (Nat.le_of_ble_eq_true rfl) (fun X hX C hR => ?_)
  have C : gC X cX10_go RX10 (some .int) 8 rm_X10_go := C
  show gJ X V 0 0 0 [(0, .ref (V.2.1 200)), (1, .int a1), (2, .int a2)] [] I J
  unfold wp_X10_go at h
  refine j_iconst (pc := 0) (v := 0) C dX10_go_0 (by decide) ?_
  refine j_istore_n (pc := 1) (lv' := [(3, .int (0 : Int32)), (0, .ref (V.2.1 200)), (1, .int a1), (2, .int a2)]) C dX10_go_1 rfl (by decide) rfl ?_
  refine j_iconst (pc := 2) (v := 0) C dX10_go_2 (by decide) ?_
  refine j_istore (pc := 3) (lv' := [(4, .int (0 : Int32)), (3, .int (0 : Int32)), (0, .ref (V.2.1 200)), (1, .int a1), (2, .int a2)]) C dX10_go_3 (by decide) rfl ?_
  refine j_aload_n (pc := 5) C dX10_go_5 rfl 2 rfl ?_
  refine j_iconst (pc := 6) (v := 0) C dX10_go_6 (by decide) ?_
  refine j_putI (pc := 7) (ft := .int) C tyX10 tyX10_ok nmX10 200 44 (c_200 hM).1 (c_200 hM).2 rfl rfl (by decide) inw_X10 wd_1010 rfl (by decide +kernel) rfl rfl dX10_go_7 ?_
  refine gJ.nmI (fun I1 eI1 => ?_)
  have h := h I1 eI1
  refine j_iconst (pc := 10) (v := 0) C dX10_go_10 (by decide) ?_
  refine j_istore (pc := 11) (lv' := [(5, .int (0 : Int32)), (4, .int (0 : Int32)), (3, .int (0 : Int32)), (0, .ref (V.2.1 200)), (1, .int a1), (2, .int a2)]) C dX10_go_11 (by decide) rfl ?_
  refine j_iconst (pc := 13) (v := 1) C dX10_go_13 (by decide) ?_
  refine j_istore (pc := 14) (lv' := [(6, .int (1 : Int32)), (5, .int (0 : Int32)), (4, .int (0 : Int32)), (3, .int (0 : Int32)), (0, .ref (V.2.1 200)), (1, .int a1), (2, .int a2)]) C dX10_go_14 (by decide) rfl ?_
  refine gJ.sub [4, 5, 6, 3, 2, 1, 0] rfl ?_
  exact t_X10_go_16 hM C hX hR   h
/-! TileRulesModel.rounds(Z)I -/
abbrev rm_X10_rounds : Room := { frames := 2, cells := 0, slots := 0, locals := 52 }
theorem ok_X10_rounds : gOk yX10_rounds cX10_rounds 2 (some .int) 1 := ⟨wd_1304, wd_74, by decide +kernel⟩
def wp_X10_rounds (a1 : Int32) (I : gI) (Po : Int32 → gI → Prop) : Prop :=
  wp_X10_go a1 (-1 : Int32) I (fun r1 I2 => Po r1 I2)
set_option maxRecDepth 100000 in
set_option maxHeartbeats 4000000 in
theorem m_X10_rounds {l : Launch} {D : va_G} {cy : Nat → ClassId} {V : gV} (hM : gModM V) {a1 : Int32} {I : gI} {J : gL} {Po : Int32 → gI → Prop} (h : wp_X10_rounds a1 I Po) : gMet l D cy yX10_rounds cX10_rounds 2 (some .int) rm_X10_rounds V [.ref (V.2.1 200), .int a1] I J (gPi V (fun x I' J' => J = J' ∧ Po x I')) := by
  refine gMet.of (by decide) (Nat.le_of_ble_eq_true rfl) (fun X hX C hR => ?_)
  have C : gC X cX10_rounds RX10 (some .int) 2 rm_X10_rounds := C
  show gJ X V 0 0 0 [(0, .ref (V.2.1 200)), (1, .int a1)] [] I J
  unfold wp_X10_rounds at h
  refine j_aload_n (pc := 0) C dX10_rounds_0 rfl 0 rfl ?_
  refine j_iload_n (pc := 1) C dX10_rounds_1 rfl 1 rfl ?_
  refine j_iconst (pc := 2) (v := (-1)) C dX10_rounds_2 (by decide) ?_
  refine j_callV (pc := 3) (As := [.int a1, .int (-1 : Int32)]) (st := []) C hX 200 (m_X10_go hM  h) (c_200 hM).1 (c_200 hM).2 rfl ok_X10_go wd_1305 wd_1307 wd_65 ⟨by decide, by decide⟩ rfl rfl (Nat.le_of_ble_eq_true rfl) ⟨Nat.le_refl 0, Nat.le_refl 0⟩ dX10_rounds_3 (fun r V1 I2 J1 hp => ?_)
  obtain ⟨r1, rfl, rfl, rfl, h⟩ := hp
  show gJ X V 0 0 6 _ [.int r1] _ _
  exact j_iret (pc := 6) C hR (Nat.zero_le _) (Nat.zero_le _) dX10_rounds_6 ⟨_, rfl, rfl, rfl, h⟩
/-! TileRulesModel.round(ZII)I -/
abbrev rm_X10_round : Room := { frames := 2, cells := 0, slots := 0, locals := 52 }
theorem ok_X10_round : gOk yX10_round cX10_round 5 (some .int) 3 := ⟨wd_1320, wd_74, by decide +kernel⟩
def wp_X10_round (a1 : Int32) (a2 : Int32) (a3 : Int32) (I : gI) (Po : Int32 → gI → Prop) : Prop :=
  (a2 < 0 → Po (-1 : Int32) I) ∧ (¬ a2 < 0 → ((-1 : Int32) ≤ a3 → wp_X10_go a1 a2 I (fun r3 I4 => ((I4 200 44) = 0 → Po (-1 : Int32) I4) ∧ (¬ (I4 200 44) = 0 → (r3 = a2 → (¬ a3 = (-1 : Int32) → ((I4 200 44) ≤ a3 → Po (-1 : Int32) I4) ∧ (¬ (I4 200 44) ≤ a3 → vp_in a3 20 ∧ Po (I4 230 (a3).toNatClampNeg) I4)) ∧ (a3 = (-1 : Int32) → Po (I4 200 44) I4)) ∧ (¬ r3 = a2 → Po (-1 : Int32) I4)))) ∧ (¬ (-1 : Int32) ≤ a3 → Po (-1 : Int32) I))
set_option maxRecDepth 100000 in
set_option maxHeartbeats 4000000 in
theorem m_X10_round {l : Launch} {D : va_G} {cy : Nat → ClassId} {V : gV} (hM : gModM V) {a1 : Int32} {a2 : Int32} {a3 : Int32} {I : gI} {J : gL} {Po : Int32 → gI → Prop} (h : wp_X10_round a1 a2 a3 I Po) : gMet l D cy yX10_round cX10_round 5 (some .int) rm_X10_round V [.ref (V.2.1 200), .int a1, .int a2, .int a3] I J (gPi V (fun x I' J' => J = J' ∧ Po x I')) := by
  refine gMet.of (by decide) (Nat.le_of_ble_eq_true rfl) (fun X hX C hR => ?_)
  have C : gC X cX10_round RX10 (some .int) 5 rm_X10_round := C
  show gJ X V 0 0 0 [(0, .ref (V.2.1 200)), (1, .int a1), (2, .int a2), (3, .int a3)] [] I J
  unfold wp_X10_round at h
  refine j_iload_n (pc := 0) C dX10_round_0 rfl 2 rfl ?_
  refine j_if_lt (pc := 1) (tgt := 9) C dX10_round_1 (by decide) (fun c1 => ?_) (fun c1 => ?_)
  · have h := h.1 c1
    refine j_iconst (pc := 9) (v := (-1)) C dX10_round_9 (by decide) ?_
    exact j_iret (pc := 10) C hR (Nat.zero_le _) (Nat.zero_le _) dX10_round_10 ⟨_, rfl, rfl, rfl, h⟩
  · have h := h.2 c1
    refine j_iload_n (pc := 4) C dX10_round_4 rfl 3 rfl ?_
    refine j_iconst (pc := 5) (v := (-1)) C dX10_round_5 (by decide) ?_
    refine j_icmp_ge (pc := 6) (tgt := 11) C dX10_round_6 (by decide) (fun c2 => ?_) (fun c2 => ?_)
    · have h := h.1 c2
      refine j_aload_n (pc := 11) C dX10_round_11 rfl 0 rfl ?_
      refine j_iload_n (pc := 12) C dX10_round_12 rfl 1 rfl ?_
      refine j_iload_n (pc := 13) C dX10_round_13 rfl 2 rfl ?_
      refine j_callV (pc := 14) (As := [.int a1, .int a2]) (st := []) C hX 200 (m_X10_go hM  h) (c_200 hM).1 (c_200 hM).2 rfl ok_X10_go wd_1305 wd_1307 wd_65 ⟨by decide, by decide⟩ rfl rfl (Nat.le_of_ble_eq_true rfl) ⟨Nat.le_refl 0, Nat.le_refl 0⟩ dX10_round_14 (fun r V1 I4 J1 hp => ?_)
      obtain ⟨r3, rfl, rfl, rfl, h⟩ := hp
      show gJ X V 0 0 17 _ [.int r3] _ _
      refine j_istore (pc := 17) (lv' := [(4, .int r3), (0, .ref (V.2.1 200)), (1, .int a1), (2, .int a2), (3, .int a3)]) C dX10_round_17 (by decide) rfl ?_
      refine j_aload_n (pc := 19) C dX10_round_19 rfl 1 rfl ?_
      refine j_getI (pc := 20) C 200 44 (c_200 hM).1 (c_200 hM).2 rfl rfl (by decide) inw_X10 wd_1010 dX10_round_20 ?_
      refine j_if_eq (pc := 23) (tgt := 32) C dX10_round_23 (by decide) (fun c5 => ?_) (fun c5 => ?_)
      · have h := h.1 c5
        refine j_iconst (pc := 32) (v := (-1)) C dX10_round_32 (by decide) ?_
        exact j_iret (pc := 33) C hR (Nat.zero_le _) (Nat.zero_le _) dX10_round_33 ⟨_, rfl, rfl, rfl, h⟩
      · have h := h.2 c5
        refine j_iload (pc := 26) C dX10_round_26 0 rfl ?_
        refine j_iload_n (pc := 28) C dX10_round_28 rfl 3 rfl ?_
        refine j_icmp_eq (pc := 29) (tgt := 34) C dX10_round_29 (by decide) (fun c6 => ?_) (fun c6 => ?_)
        · have h := h.1 c6
          refine j_iload_n (pc := 34) C dX10_round_34 rfl 4 rfl ?_
          refine j_iconst (pc := 35) (v := (-1)) C dX10_round_35 (by decide) ?_
          refine j_icmp_ne (pc := 36) (tgt := 46) C dX10_round_36 (by decide) (fun c7 => ?_) (fun c7 => ?_)
          · have h := h.1 c7
            refine j_iload_n (pc := 46) C dX10_round_46 rfl 4 rfl ?_
            refine j_aload_n (pc := 47) C dX10_round_47 rfl 1 rfl ?_
            refine j_getI (pc := 48) C 200 44 (c_200 hM).1 (c_200 hM).2 rfl rfl (by decide) inw_X10 wd_1010 dX10_round_48 ?_
            refine j_icmp_ge (pc := 51) (tgt := 63) C dX10_round_51 (by decide) (fun c8 => ?_) (fun c8 => ?_)
            · have h := h.1 c8
              refine j_iconst (pc := 63) (v := (-1)) C dX10_round_63 (by decide) ?_
              exact j_iret (pc := 64) C hR (Nat.zero_le _) (Nat.zero_le _) dX10_round_64 ⟨_, rfl, rfl, rfl, h⟩
            · have h := h.2 c8
              refine j_aload_n (pc := 54) C dX10_round_54 rfl 1 rfl ?_
              refine j_getR (pc := 55) C 200 43 230 (c_200 hM).1 (c_200 hM).2 rfl rfl (by decide) inw_X10 wd_1009 dX10_round_55 ?_
              refine j_iload_n (pc := 58) C dX10_round_58 rfl 4 rfl ?_
              obtain ⟨g9, h⟩ := h
              refine j_iald (pc := 59) C 230 (c_230 hM).1 (c_230 hM).2 g9 dX10_round_59 ?_
              refine j_goto (pc := 60) (tgt := 64) C dX10_round_60 (by decide) ?_
              exact j_iret (pc := 64) C hR (Nat.zero_le _) (Nat.zero_le _) dX10_round_64 ⟨_, rfl, rfl, rfl, h⟩
          · have h := h.2 c7
            refine j_aload_n (pc := 39) C dX10_round_39 rfl 1 rfl ?_
            refine j_getI (pc := 40) C 200 44 (c_200 hM).1 (c_200 hM).2 rfl rfl (by decide) inw_X10 wd_1010 dX10_round_40 ?_
            refine j_goto (pc := 43) (tgt := 64) C dX10_round_43 (by decide) ?_
            exact j_iret (pc := 64) C hR (Nat.zero_le _) (Nat.zero_le _) dX10_round_64 ⟨_, rfl, rfl, rfl, h⟩
        · have h := h.2 c6
          refine j_iconst (pc := 32) (v := (-1)) C dX10_round_32 (by decide) ?_
          exact j_iret (pc := 33) C hR (Nat.zero_le _) (Nat.zero_le _) dX10_round_33 ⟨_, rfl, rfl, rfl, h⟩
    · have h := h.2 c2
      refine j_iconst (pc := 9) (v := (-1)) C dX10_round_9 (by decide) ?_
      exact j_iret (pc := 10) C hR (Nat.zero_le _) (Nat.zero_le _) dX10_round_10 ⟨_, rfl, rfl, rfl, h⟩
/-! TileRulesModel.count(I)I -/
abbrev rm_X10_count : Room := { frames := 0, cells := 0, slots := 0, locals := 0 }
theorem ok_X10_count : gOk yX10_count cX10_count 2 (some .int) 1 := ⟨wd_1324, wd_74, by decide +kernel⟩
def wp_X10_count (a1 : Int32) (I : gI) (Po : Int32 → Prop) : Prop :=
  ((a1).toInt < 0 ∨ 5 < (a1).toInt → Po (-2 : Int32)) ∧ ((a1).toInt = 0 → Po (I 200 0)) ∧ ((a1).toInt = 1 → Po (I 200 11)) ∧ ((a1).toInt = 2 → Po (I 200 41)) ∧ ((a1).toInt = 3 → Po (I 200 31)) ∧ ((a1).toInt = 4 → Po ((I 200 13) * (I 200 14))) ∧ ((a1).toInt = 5 → Po (I 200 40))
set_option maxRecDepth 100000 in
set_option maxHeartbeats 4000000 in
theorem m_X10_count {l : Launch} {D : va_G} {cy : Nat → ClassId} {V : gV} (hM : gModM V) {a1 : Int32} {I : gI} {J : gL} {Po : Int32 → Prop} (h : wp_X10_count a1 I Po) : gMet l D cy yX10_count cX10_count 2 (some .int) rm_X10_count V [.ref (V.2.1 200), .int a1] I J (gPi V (fun x I' J' => I = I' ∧ J = J' ∧ Po x)) := by
  refine gMet.of (by decide) (Nat.le_of_ble_eq_true rfl) (fun X hX C hR => ?_)
  have C : gC X cX10_count RX10 (some .int) 2 rm_X10_count := C
  show gJ X V 0 0 0 [(0, .ref (V.2.1 200)), (1, .int a1)] [] I J
  unfold wp_X10_count at h
  refine j_iload_n (pc := 0) C dX10_count_0 rfl 1 rfl ?_
  by_cases ctab : (a1).toInt < 0 ∨ 5 < (a1).toInt
  · have h := h.1 ctab
    refine j_tableOut (pc := 1) (tgt := 75) C dX10_count_1 ctab (by decide) ?_
    refine j_bipush (pc := 75) (v := (-2)) C dX10_count_75 (by decide) ?_
    exact j_iret (pc := 77) C hR (Nat.zero_le _) (Nat.zero_le _) dX10_count_77 ⟨_, rfl, rfl, rfl, rfl, h⟩
  · have h := h.2
    rcases (show (a1).toInt = 0 ∨ (a1).toInt = 1 ∨ (a1).toInt = 2 ∨ (a1).toInt = 3 ∨ (a1).toInt = 4 ∨ (a1).toInt = 5 by omega) with ctab2 | ctab2 | ctab2 | ctab2 | ctab2 | ctab2
    · have h := h.1 ctab2
      refine j_tableIn (pc := 1) (off := 39) (tgt := 40) C dX10_count_1 (by omega) (by omega) (by rw [ctab2]; rfl) (by decide) ?_
      refine j_aload_n (pc := 40) C dX10_count_40 rfl 0 rfl ?_
      refine j_getI (pc := 41) C 200 0 (c_200 hM).1 (c_200 hM).2 rfl rfl (by decide) inw_X10 wd_966 dX10_count_41 ?_
      exact j_iret (pc := 44) C hR (Nat.zero_le _) (Nat.zero_le _) dX10_count_44 ⟨_, rfl, rfl, rfl, rfl, h⟩
    · have h := h.2.1 ctab2
      refine j_tableIn (pc := 1) (off := 44) (tgt := 45) C dX10_count_1 (by omega) (by omega) (by rw [ctab2]; rfl) (by decide) ?_
      refine j_aload_n (pc := 45) C dX10_count_45 rfl 0 rfl ?_
      refine j_getI (pc := 46) C 200 11 (c_200 hM).1 (c_200 hM).2 rfl rfl (by decide) inw_X10 wd_977 dX10_count_46 ?_
      exact j_iret (pc := 49) C hR (Nat.zero_le _) (Nat.zero_le _) dX10_count_49 ⟨_, rfl, rfl, rfl, rfl, h⟩
    · have h := h.2.2.1 ctab2
      refine j_tableIn (pc := 1) (off := 49) (tgt := 50) C dX10_count_1 (by omega) (by omega) (by rw [ctab2]; rfl) (by decide) ?_
      refine j_aload_n (pc := 50) C dX10_count_50 rfl 0 rfl ?_
      refine j_getI (pc := 51) C 200 41 (c_200 hM).1 (c_200 hM).2 rfl rfl (by decide) inw_X10 wd_1007 dX10_count_51 ?_
      exact j_iret (pc := 54) C hR (Nat.zero_le _) (Nat.zero_le _) dX10_count_54 ⟨_, rfl, rfl, rfl, rfl, h⟩
    · have h := h.2.2.2.1 ctab2
      refine j_tableIn (pc := 1) (off := 54) (tgt := 55) C dX10_count_1 (by omega) (by omega) (by rw [ctab2]; rfl) (by decide) ?_
      refine j_aload_n (pc := 55) C dX10_count_55 rfl 0 rfl ?_
      refine j_getI (pc := 56) C 200 31 (c_200 hM).1 (c_200 hM).2 rfl rfl (by decide) inw_X10 wd_997 dX10_count_56 ?_
      exact j_iret (pc := 59) C hR (Nat.zero_le _) (Nat.zero_le _) dX10_count_59 ⟨_, rfl, rfl, rfl, rfl, h⟩
    · have h := h.2.2.2.2.1 ctab2
      refine j_tableIn (pc := 1) (off := 59) (tgt := 60) C dX10_count_1 (by omega) (by omega) (by rw [ctab2]; rfl) (by decide) ?_
      refine j_aload_n (pc := 60) C dX10_count_60 rfl 0 rfl ?_
      refine j_getI (pc := 61) C 200 13 (c_200 hM).1 (c_200 hM).2 rfl rfl (by decide) inw_X10 wd_979 dX10_count_61 ?_
      refine j_aload_n (pc := 64) C dX10_count_64 rfl 0 rfl ?_
      refine j_getI (pc := 65) C 200 14 (c_200 hM).1 (c_200 hM).2 rfl rfl (by decide) inw_X10 wd_980 dX10_count_65 ?_
      refine j_imul (pc := 68) C dX10_count_68 ?_
      exact j_iret (pc := 69) C hR (Nat.zero_le _) (Nat.zero_le _) dX10_count_69 ⟨_, rfl, rfl, rfl, rfl, h⟩
    · have h := h.2.2.2.2.2 ctab2
      refine j_tableIn (pc := 1) (off := 69) (tgt := 70) C dX10_count_1 (by omega) (by omega) (by rw [ctab2]; rfl) (by decide) ?_
      refine j_aload_n (pc := 70) C dX10_count_70 rfl 0 rfl ?_
      refine j_getI (pc := 71) C 200 40 (c_200 hM).1 (c_200 hM).2 rfl rfl (by decide) inw_X10 wd_1006 dX10_count_71 ?_
      exact j_iret (pc := 74) C hR (Nat.zero_le _) (Nat.zero_le _) dX10_count_74 ⟨_, rfl, rfl, rfl, rfl, h⟩
