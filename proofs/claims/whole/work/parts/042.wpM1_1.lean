/-! TileRulesModel.insert(III)I -/
abbrev rm_X10_insert : Room := { frames := 0, cells := 0, slots := 0, locals := 0 }
theorem ok_X10_insert : gOk yX10_insert cX10_insert 6 (some .int) 3 := ⟨wd_1197, wd_74, by decide +kernel⟩
def w_X10_insert_52b  (Po : Int32 → gI → Prop) (K52 : Int32 → gI → Prop) (v2 : Int32) (v3 : Int32) (v4 : Int32) (v5 : Int32) (I : gI) : Prop :=
  (v5 ≤ v4 → vp_in v4 1200 ∧ ∀ I5 : gI, I5 = gup I 211 (v4).toNatClampNeg v3 → Po (v2 + (1 : Int32)) I5) ∧ (¬ v5 ≤ v4 → vp_in (v5 - (1 : Int32)) 1200 ∧ vp_in v5 1200 ∧ ∀ I8 : gI, I8 = gup I 211 (v5).toNatClampNeg (I 211 ((v5 - (1 : Int32))).toNatClampNeg) → ∀ n9 : Int32, n9 = v5 + (-1) → K52 n9 I8)
def w_X10_insert_52  (Po : Int32 → gI → Prop)  (v2 : Int32) (v3 : Int32) (v4 : Int32) (v5 : Int32) (I : gI) : Prop :=
  ∃ (Inv : Int32 → gI → Prop) (mu : Int32 → gI → Nat), Inv v5 I ∧ ∀ (v5 : Int32) (I : gI), Inv v5 I → w_X10_insert_52b  Po  (fun u5 I1 => Inv u5 I1 ∧ mu u5 I1 < mu v5 I) v2 v3 v4 v5 I
def w_X10_insert_49  (Po : Int32 → gI → Prop)  (v2 : Int32) (v3 : Int32) (v4 : Int32) (I : gI) : Prop :=
  w_X10_insert_52 Po v2 v3 v4 v2 I
def w_X10_insert_28  (Po : Int32 → gI → Prop)  (v1 : Int32) (v2 : Int32) (v3 : Int32) (v4 : Int32) (I : gI) : Prop :=
  (v4 ≤ v1 → w_X10_insert_49 Po v2 v3 v4 I) ∧ (¬ v4 ≤ v1 → vp_in (v4 - (1 : Int32)) 1200 ∧ (¬ (I 211 ((v4 - (1 : Int32))).toNatClampNeg) = v3 → w_X10_insert_49 Po v2 v3 v4 I) ∧ ((I 211 ((v4 - (1 : Int32))).toNatClampNeg) = v3 → Po v2 I))
def w_X10_insert_3b  (Po : Int32 → gI → Prop) (K3 : Int32 → Prop) (v1 : Int32) (v2 : Int32) (v3 : Int32) (v4 : Int32) (I : gI) : Prop :=
  (v4 ≤ v1 → w_X10_insert_28 Po v1 v2 v3 v4 I) ∧ (¬ v4 ≤ v1 → vp_in (v4 - (1 : Int32)) 1200 ∧ ((I 211 ((v4 - (1 : Int32))).toNatClampNeg) ≤ v3 → w_X10_insert_28 Po v1 v2 v3 v4 I) ∧ (¬ (I 211 ((v4 - (1 : Int32))).toNatClampNeg) ≤ v3 → ∀ n14 : Int32, n14 = v4 + (-1) → K3 n14))
def w_X10_insert_3  (Po : Int32 → gI → Prop)  (v1 : Int32) (v2 : Int32) (v3 : Int32) (v4 : Int32) (I : gI) : Prop :=
  ∃ (Inv : Int32 → Prop) (mu : Int32 → Nat), Inv v4 ∧ ∀ (v4 : Int32), Inv v4 → w_X10_insert_3b  Po  (fun u4 => Inv u4 ∧ mu u4 < mu v4) v1 v2 v3 v4 I
def wp_X10_insert (a1 : Int32) (a2 : Int32) (a3 : Int32) (I : gI) (Po : Int32 → gI → Prop) : Prop :=
  w_X10_insert_3 Po a1 a2 a3 a2 I
set_option maxRecDepth 100000 in
set_option maxHeartbeats 4000000 in
theorem t_X10_insert_52b {X : gX} {l : Launch} {D : va_G} {cy : Nat → ClassId} {nm : String} {V : gV} (hM : gModM V) (C : gC X cX10_insert RX10 (some .int) 6 rm_X10_insert) (hX : gIs X l D cy nm) {I : gI} {J : gL} {Po : Int32 → gI → Prop} (hR : gR X (gPi V (fun x I' J' => J = J' ∧ Po x I'))) {v2 : Int32} {v3 : Int32} {v4 : Int32} {v5 : Int32} {K52 : Int32 → gI → Prop} (hK52 : ∀ (y5 : Int32) (I1 : gI), K52 y5 I1 → gJ X V 0 0 52 [(0, .ref (V.2.1 200)), (2, .int v2), (3, .int v3), (4, .int v4), (5, .int y5)] [] I1 J) (h : w_X10_insert_52b Po K52 v2 v3 v4 v5 I) : gJ X V 0 0 52 [(0, .ref (V.2.1 200)), (2, .int v2), (3, .int v3), (4, .int v4), (5, .int v5)] [] I J := by
  unfold w_X10_insert_52b at h
  refine j_iload (pc := 52) C dX10_insert_52 4 rfl ?_
  refine j_iload (pc := 54) C dX10_insert_54 3 rfl ?_
  refine j_icmp_le (pc := 56) (tgt := 81) C dX10_insert_56 (by decide) (fun c3 => ?_) (fun c3 => ?_)
  · have h := h.1 c3
    refine j_aload_n (pc := 81) C dX10_insert_81 rfl 0 rfl ?_
    refine j_getR (pc := 82) C 200 18 211 (c_200 hM).1 (c_200 hM).2 rfl rfl (by decide) inw_X10 wd_984 dX10_insert_82 ?_
    refine j_iload (pc := 85) C dX10_insert_85 3 rfl ?_
    refine j_iload_n (pc := 87) C dX10_insert_87 rfl 2 rfl ?_
    obtain ⟨g4, h⟩ := h
    refine j_iast (pc := 88) C 211 (c_211 hM).1 (c_211 hM).2 g4 dX10_insert_88 ?_
    refine gJ.nmI (fun I5 eI5 => ?_)
    have h := h I5 eI5
    refine j_iload_n (pc := 89) C dX10_insert_89 rfl 1 rfl ?_
    refine j_iconst (pc := 90) (v := 1) C dX10_insert_90 (by decide) ?_
    refine j_iadd (pc := 91) C dX10_insert_91 ?_
    exact j_iret (pc := 92) C hR (Nat.zero_le _) (Nat.zero_le _) dX10_insert_92 ⟨_, rfl, rfl, rfl, h⟩
  · have h := h.2 c3
    refine j_aload_n (pc := 59) C dX10_insert_59 rfl 0 rfl ?_
    refine j_getR (pc := 60) C 200 18 211 (c_200 hM).1 (c_200 hM).2 rfl rfl (by decide) inw_X10 wd_984 dX10_insert_60 ?_
    refine j_iload (pc := 63) C dX10_insert_63 4 rfl ?_
    refine j_aload_n (pc := 65) C dX10_insert_65 rfl 0 rfl ?_
    refine j_getR (pc := 66) C 200 18 211 (c_200 hM).1 (c_200 hM).2 rfl rfl (by decide) inw_X10 wd_984 dX10_insert_66 ?_
    refine j_iload (pc := 69) C dX10_insert_69 4 rfl ?_
    refine j_iconst (pc := 71) (v := 1) C dX10_insert_71 (by decide) ?_
    refine j_isub (pc := 72) C dX10_insert_72 ?_
    obtain ⟨g6, h⟩ := h
    refine j_iald (pc := 73) C 211 (c_211 hM).1 (c_211 hM).2 g6 dX10_insert_73 ?_
    obtain ⟨g7, h⟩ := h
    refine j_iast (pc := 74) C 211 (c_211 hM).1 (c_211 hM).2 g7 dX10_insert_74 ?_
    refine gJ.nmI (fun I8 eI8 => ?_)
    have h := h I8 eI8
    obtain ⟨n9, en9⟩ : ∃ z : Int32, z = v5 + (-1) := ⟨_, rfl⟩
    have h := h n9 en9
    refine j_iinc (pc := 75) (v := n9) (lv' := [(5, .int n9), (0, .ref (V.2.1 200)), (2, .int v2), (3, .int v3), (4, .int v4)]) C dX10_insert_75 4 rfl (by rw [en9]; rfl) (by decide) rfl ?_
    refine j_goto (pc := 78) (tgt := 52) C dX10_insert_78 (by decide) ?_
    refine gJ.sub [1, 2, 3, 4, 0] rfl ?_
    exact hK52 _ _ h
set_option maxRecDepth 100000 in
set_option maxHeartbeats 4000000 in
theorem t_X10_insert_52 {X : gX} {l : Launch} {D : va_G} {cy : Nat → ClassId} {nm : String} {V : gV} (hM : gModM V) (C : gC X cX10_insert RX10 (some .int) 6 rm_X10_insert) (hX : gIs X l D cy nm) {I : gI} {J : gL} {Po : Int32 → gI → Prop} (hR : gR X (gPi V (fun x I' J' => J = J' ∧ Po x I'))) {v2 : Int32} {v3 : Int32} {v4 : Int32} {v5 : Int32} (h : w_X10_insert_52 Po v2 v3 v4 v5 I) : gJ X V 0 0 52 [(0, .ref (V.2.1 200)), (2, .int v2), (3, .int v3), (4, .int v4), (5, .int v5)] [] I J := by
  unfold w_X10_insert_52 at h
  obtain ⟨Inv, mu, h0, hs⟩ := h
  have key : ∀ (n : Nat) (v5 : Int32) (I : gI), Inv v5 I → mu v5 I < n → gJ X V 0 0 52 [(0, .ref (V.2.1 200)), (2, .int v2), (3, .int v3), (4, .int v4), (5, .int v5)] [] I J := by
    intro n
    induction n with
    | zero => intro v5 I hi hn; exact absurd hn (Nat.not_lt_zero _)
    | succ n ih =>
      intro v5 I hi hn
      exact t_X10_insert_52b hM C hX hR   (fun u5 I1 hk => ih u5 I1 hk.1 (Nat.lt_of_lt_of_le hk.2 (Nat.le_of_lt_succ hn))) (hs v5 I hi)
  exact key _ v5 I h0 (Nat.lt_succ_self _)
set_option maxRecDepth 100000 in
set_option maxHeartbeats 4000000 in
theorem t_X10_insert_49 {X : gX} {l : Launch} {D : va_G} {cy : Nat → ClassId} {nm : String} {V : gV} (hM : gModM V) (C : gC X cX10_insert RX10 (some .int) 6 rm_X10_insert) (hX : gIs X l D cy nm) {I : gI} {J : gL} {Po : Int32 → gI → Prop} (hR : gR X (gPi V (fun x I' J' => J = J' ∧ Po x I'))) {v2 : Int32} {v3 : Int32} {v4 : Int32} (h : w_X10_insert_49 Po v2 v3 v4 I) : gJ X V 0 0 49 [(0, .ref (V.2.1 200)), (2, .int v2), (3, .int v3), (4, .int v4)] [] I J := by
  unfold w_X10_insert_49 at h
  refine j_iload_n (pc := 49) C dX10_insert_49 rfl 1 rfl ?_
  refine j_istore (pc := 50) (lv' := [(5, .int v2), (0, .ref (V.2.1 200)), (2, .int v2), (3, .int v3), (4, .int v4)]) C dX10_insert_50 (by decide) rfl ?_
  refine gJ.sub [1, 2, 3, 4, 0] rfl ?_
  exact t_X10_insert_52 hM C hX hR   h
set_option maxRecDepth 100000 in
set_option maxHeartbeats 4000000 in
theorem t_X10_insert_28 {X : gX} {l : Launch} {D : va_G} {cy : Nat → ClassId} {nm : String} {V : gV} (hM : gModM V) (C : gC X cX10_insert RX10 (some .int) 6 rm_X10_insert) (hX : gIs X l D cy nm) {I : gI} {J : gL} {Po : Int32 → gI → Prop} (hR : gR X (gPi V (fun x I' J' => J = J' ∧ Po x I'))) {v1 : Int32} {v2 : Int32} {v3 : Int32} {v4 : Int32} (h : w_X10_insert_28 Po v1 v2 v3 v4 I) : gJ X V 0 0 28 [(0, .ref (V.2.1 200)), (1, .int v1), (2, .int v2), (3, .int v3), (4, .int v4)] [] I J := by
  unfold w_X10_insert_28 at h
  refine j_iload (pc := 28) C dX10_insert_28 4 rfl ?_
  refine j_iload_n (pc := 30) C dX10_insert_30 rfl 1 rfl ?_
  refine j_icmp_le (pc := 31) (tgt := 49) C dX10_insert_31 (by decide) (fun c2 => ?_) (fun c2 => ?_)
  · have h := h.1 c2
    refine gJ.sub [0, 2, 3, 4] rfl ?_
    exact t_X10_insert_49 hM C hX hR   h
  · have h := h.2 c2
    refine j_aload_n (pc := 34) C dX10_insert_34 rfl 0 rfl ?_
    refine j_getR (pc := 35) C 200 18 211 (c_200 hM).1 (c_200 hM).2 rfl rfl (by decide) inw_X10 wd_984 dX10_insert_35 ?_
    refine j_iload (pc := 38) C dX10_insert_38 4 rfl ?_
    refine j_iconst (pc := 40) (v := 1) C dX10_insert_40 (by decide) ?_
    refine j_isub (pc := 41) C dX10_insert_41 ?_
    obtain ⟨g10, h⟩ := h
    refine j_iald (pc := 42) C 211 (c_211 hM).1 (c_211 hM).2 g10 dX10_insert_42 ?_
    refine j_iload_n (pc := 43) C dX10_insert_43 rfl 3 rfl ?_
    refine j_icmp_ne (pc := 44) (tgt := 49) C dX10_insert_44 (by decide) (fun c11 => ?_) (fun c11 => ?_)
    · have h := h.1 c11
      refine gJ.sub [0, 2, 3, 4] rfl ?_
      exact t_X10_insert_49 hM C hX hR   h
    · have h := h.2 c11
      refine j_iload_n (pc := 47) C dX10_insert_47 rfl 2 rfl ?_
      exact j_iret (pc := 48) C hR (Nat.zero_le _) (Nat.zero_le _) dX10_insert_48 ⟨_, rfl, rfl, rfl, h⟩
set_option maxRecDepth 100000 in
set_option maxHeartbeats 4000000 in
theorem t_X10_insert_3b {X : gX} {l : Launch} {D : va_G} {cy : Nat → ClassId} {nm : String} {V : gV} (hM : gModM V) (C : gC X cX10_insert RX10 (some .int) 6 rm_X10_insert) (hX : gIs X l D cy nm) {I : gI} {J : gL} {Po : Int32 → gI → Prop} (hR : gR X (gPi V (fun x I' J' => J = J' ∧ Po x I'))) {v1 : Int32} {v2 : Int32} {v3 : Int32} {v4 : Int32} {K3 : Int32 → Prop} (hK3 : ∀ (y4 : Int32), K3 y4 → gJ X V 0 0 3 [(0, .ref (V.2.1 200)), (1, .int v1), (2, .int v2), (3, .int v3), (4, .int y4)] [] I J) (h : w_X10_insert_3b Po K3 v1 v2 v3 v4 I) : gJ X V 0 0 3 [(0, .ref (V.2.1 200)), (1, .int v1), (2, .int v2), (3, .int v3), (4, .int v4)] [] I J := by
  unfold w_X10_insert_3b at h
  refine j_iload (pc := 3) C dX10_insert_3 4 rfl ?_
  refine j_iload_n (pc := 5) C dX10_insert_5 rfl 1 rfl ?_
  refine j_icmp_le (pc := 6) (tgt := 28) C dX10_insert_6 (by decide) (fun c1 => ?_) (fun c1 => ?_)
  · have h := h.1 c1
    refine gJ.sub [0, 1, 2, 3, 4] rfl ?_
    exact t_X10_insert_28 hM C hX hR   h
  · have h := h.2 c1
    refine j_aload_n (pc := 9) C dX10_insert_9 rfl 0 rfl ?_
    refine j_getR (pc := 10) C 200 18 211 (c_200 hM).1 (c_200 hM).2 rfl rfl (by decide) inw_X10 wd_984 dX10_insert_10 ?_
    refine j_iload (pc := 13) C dX10_insert_13 4 rfl ?_
    refine j_iconst (pc := 15) (v := 1) C dX10_insert_15 (by decide) ?_
    refine j_isub (pc := 16) C dX10_insert_16 ?_
    obtain ⟨g12, h⟩ := h
    refine j_iald (pc := 17) C 211 (c_211 hM).1 (c_211 hM).2 g12 dX10_insert_17 ?_
    refine j_iload_n (pc := 18) C dX10_insert_18 rfl 3 rfl ?_
    refine j_icmp_le (pc := 19) (tgt := 28) C dX10_insert_19 (by decide) (fun c13 => ?_) (fun c13 => ?_)
    · have h := h.1 c13
      refine gJ.sub [0, 1, 2, 3, 4] rfl ?_
      exact t_X10_insert_28 hM C hX hR   h
    · have h := h.2 c13
      obtain ⟨n14, en14⟩ : ∃ z : Int32, z = v4 + (-1) := ⟨_, rfl⟩
      have h := h n14 en14
      refine j_iinc (pc := 22) (v := n14) (lv' := [(4, .int n14), (0, .ref (V.2.1 200)), (1, .int v1), (2, .int v2), (3, .int v3)]) C dX10_insert_22 4 rfl (by rw [en14]; rfl) (by decide) rfl ?_
      refine j_goto (pc := 25) (tgt := 3) C dX10_insert_25 (by decide) ?_
      refine gJ.sub [1, 2, 3, 4, 0] rfl ?_
      exact hK3 _ h
set_option maxRecDepth 100000 in
set_option maxHeartbeats 4000000 in
theorem t_X10_insert_3 {X : gX} {l : Launch} {D : va_G} {cy : Nat → ClassId} {nm : String} {V : gV} (hM : gModM V) (C : gC X cX10_insert RX10 (some .int) 6 rm_X10_insert) (hX : gIs X l D cy nm) {I : gI} {J : gL} {Po : Int32 → gI → Prop} (hR : gR X (gPi V (fun x I' J' => J = J' ∧ Po x I'))) {v1 : Int32} {v2 : Int32} {v3 : Int32} {v4 : Int32} (h : w_X10_insert_3 Po v1 v2 v3 v4 I) : gJ X V 0 0 3 [(0, .ref (V.2.1 200)), (1, .int v1), (2, .int v2), (3, .int v3), (4, .int v4)] [] I J := by
  unfold w_X10_insert_3 at h
  obtain ⟨Inv, mu, h0, hs⟩ := h
  have key : ∀ (n : Nat) (v4 : Int32), Inv v4 → mu v4 < n → gJ X V 0 0 3 [(0, .ref (V.2.1 200)), (1, .int v1), (2, .int v2), (3, .int v3), (4, .int v4)] [] I J := by
    intro n
    induction n with
    | zero => intro v4 hi hn; exact absurd hn (Nat.not_lt_zero _)
    | succ n ih =>
      intro v4 hi hn
      exact t_X10_insert_3b hM C hX hR   (fun u4 hk => ih u4 hk.1 (Nat.lt_of_lt_of_le hk.2 (Nat.le_of_lt_succ hn))) (hs v4 hi)
  exact key _ v4 h0 (Nat.lt_succ_self _)
set_option maxRecDepth 100000 in
set_option maxHeartbeats 4000000 in
theorem m_X10_insert {l : Launch} {D : va_G} {cy : Nat → ClassId} {V : gV} (hM : gModM V) {a1 : Int32} {a2 : Int32} {a3 : Int32} {I : gI} {J : gL} {Po : Int32 → gI → Prop} (h : wp_X10_insert a1 a2 a3 I Po) : gMet l D cy yX10_insert cX10_insert 6 (some .int) rm_X10_insert V [.ref (V.2.1 200), .int a1, .int a2, .int a3] I J (gPi V (fun x I' J' => J = J' ∧ Po x I')) := by
  refine gMet.of (by decide) (Nat.le_of_ble_eq_true rfl) (fun X hX C hR => ?_)
  have C : gC X cX10_insert RX10 (some .int) 6 rm_X10_insert := C
  show gJ X V 0 0 0 [(0, .ref (V.2.1 200)), (1, .int a1), (2, .int a2), (3, .int a3)] [] I J
  unfold wp_X10_insert at h
  refine j_iload_n (pc := 0) C dX10_insert_0 rfl 2 rfl ?_
  refine j_istore (pc := 1) (lv' := [(4, .int a2), (0, .ref (V.2.1 200)), (1, .int a1), (2, .int a2), (3, .int a3)]) C dX10_insert_1 (by decide) rfl ?_
  refine gJ.sub [1, 2, 3, 4, 0] rfl ?_
  exact t_X10_insert_3 hM C hX hR   h
/-! TileRulesModel.sortLow()V -/
abbrev rm_X10_sortLow : Room := { frames := 0, cells := 0, slots := 0, locals := 0 }
theorem ok_X10_sortLow : gOk yX10_sortLow cX10_sortLow 5 none 0 := ⟨wd_1201, wd_74, by decide +kernel⟩
def w_X10_sortLow_99  (Po : gI → Prop) (K4 : Int32 → Int32 → gI → Prop) (K19 : Int32 → Int32 → gI → Prop) (K35 : Int32 → Int32 → gI → Prop) (v1 : Int32) (v2 : Int32) (v3 : Int32) (v4 : Int32) (I : gI) : Prop :=
  ∀ n14 : Int32, n14 = v4 + 1 → K35 v1 n14 I
def w_X10_sortLow_35b  (Po : gI → Prop) (K4 : Int32 → Int32 → gI → Prop) (K19 : Int32 → Int32 → gI → Prop) (K35 : Int32 → Int32 → gI → Prop) (v1 : Int32) (v2 : Int32) (v3 : Int32) (v4 : Int32) (I : gI) : Prop :=
  vp_in (v3 + (1 : Int32)) 7 ∧ ((I 212 ((v3 + (1 : Int32))).toNatClampNeg) ≤ v4 → ∀ n12 : Int32, n12 = v3 + 1 → K19 v1 n12 I) ∧ (¬ (I 212 ((v3 + (1 : Int32))).toNatClampNeg) ≤ v4 → ((20 : Int32) ≤ v2 → w_X10_sortLow_99 Po K4 K19 K35 v1 v2 v3 v4 I) ∧ (¬ (20 : Int32) ≤ v2 → vp_in v4 1200 ∧ vp_in v4 1200 ∧ (¬ ((I 211 (v4).toNatClampNeg) &&& (-(I 211 (v4).toNatClampNeg))) = ((1 : Int32) <<< (v2 &&& 31)) → w_X10_sortLow_99 Po K4 K19 K35 v1 v2 v3 v4 I) ∧ (((I 211 (v4).toNatClampNeg) &&& (-(I 211 (v4).toNatClampNeg))) = ((1 : Int32) <<< (v2 &&& 31)) → vp_in v4 1200 ∧ vp_in v1 1200 ∧ ∀ I20 : gI, I20 = gup I 213 (v1).toNatClampNeg (I 211 (v4).toNatClampNeg) → vp_in v1 1200 ∧ ∀ I22 : gI, I22 = gup I20 214 (v1).toNatClampNeg v3 → ∀ n23 : Int32, n23 = v1 + 1 → w_X10_sortLow_99 Po K4 K19 K35 n23 v2 v3 v4 I22)))
def w_X10_sortLow_35  (Po : gI → Prop) (K4 : Int32 → Int32 → gI → Prop) (K19 : Int32 → Int32 → gI → Prop) (v1 : Int32) (v2 : Int32) (v3 : Int32) (v4 : Int32) (I : gI) : Prop :=
  ∃ (Inv : Int32 → Int32 → gI → Prop) (mu : Int32 → Int32 → gI → Nat), Inv v1 v4 I ∧ ∀ (v1 : Int32) (v4 : Int32) (I : gI), Inv v1 v4 I → w_X10_sortLow_35b  Po K4 K19 (fun u1 u4 I1 => Inv u1 u4 I1 ∧ mu u1 u4 I1 < mu v1 v4 I) v1 v2 v3 v4 I
def w_X10_sortLow_19b  (Po : gI → Prop) (K4 : Int32 → Int32 → gI → Prop) (K19 : Int32 → Int32 → gI → Prop) (v1 : Int32) (v2 : Int32) (v3 : Int32) (I : gI) : Prop :=
  ((I 200 11) ≤ v3 → ∀ n7 : Int32, n7 = v2 + 1 → K4 v1 n7 I) ∧ (¬ (I 200 11) ≤ v3 → vp_in v3 7 ∧ ∀ n9 : Int32, n9 = (I 212 (v3).toNatClampNeg) → w_X10_sortLow_35 Po K4 K19 v1 v2 v3 n9 I)
def w_X10_sortLow_19  (Po : gI → Prop) (K4 : Int32 → Int32 → gI → Prop) (v1 : Int32) (v2 : Int32) (v3 : Int32) (I : gI) : Prop :=
  ∃ (Inv : Int32 → Int32 → gI → Prop) (mu : Int32 → Int32 → gI → Nat), Inv v1 v3 I ∧ ∀ (v1 : Int32) (v3 : Int32) (I : gI), Inv v1 v3 I → w_X10_sortLow_19b  Po K4 (fun u1 u3 I1 => Inv u1 u3 I1 ∧ mu u1 u3 I1 < mu v1 v3 I) v1 v2 v3 I
def w_X10_sortLow_4b  (Po : gI → Prop) (K4 : Int32 → Int32 → gI → Prop) (v1 : Int32) (v2 : Int32) (I : gI) : Prop :=
  ((21 : Int32) ≤ v2 → vp_in (21 : Int32) 22 ∧ ∀ I3 : gI, I3 = gup I 215 ((21 : Int32)).toNatClampNeg v1 → Po I3) ∧ (¬ (21 : Int32) ≤ v2 → vp_in v2 22 ∧ ∀ I5 : gI, I5 = gup I 215 (v2).toNatClampNeg v1 → w_X10_sortLow_19 Po K4 v1 v2 (0 : Int32) I5)
def w_X10_sortLow_4  (Po : gI → Prop)  (v1 : Int32) (v2 : Int32) (I : gI) : Prop :=
  ∃ (Inv : Int32 → Int32 → gI → Prop) (mu : Int32 → Int32 → gI → Nat), Inv v1 v2 I ∧ ∀ (v1 : Int32) (v2 : Int32) (I : gI), Inv v1 v2 I → w_X10_sortLow_4b  Po  (fun u1 u2 I1 => Inv u1 u2 I1 ∧ mu u1 u2 I1 < mu v1 v2 I) v1 v2 I
def wp_X10_sortLow (I : gI) (Po : gI → Prop) : Prop :=
  w_X10_sortLow_4 Po (0 : Int32) (0 : Int32) I
set_option maxRecDepth 100000 in
set_option maxHeartbeats 4000000 in
theorem t_X10_sortLow_99 {X : gX} {l : Launch} {D : va_G} {cy : Nat → ClassId} {nm : String} {V : gV} (hM : gModM V) (C : gC X cX10_sortLow RX10 none 5 rm_X10_sortLow) (hX : gIs X l D cy nm) {I : gI} {J : gL} {Po : gI → Prop} (hR : gR X (gPv V (fun I' J' => J = J' ∧ Po I'))) {v1 : Int32} {v2 : Int32} {v3 : Int32} {v4 : Int32} {K4 : Int32 → Int32 → gI → Prop} {K19 : Int32 → Int32 → gI → Prop} {K35 : Int32 → Int32 → gI → Prop} (hK4 : ∀ (y1 : Int32) (y2 : Int32) (I1 : gI), K4 y1 y2 I1 → gJ X V 0 0 4 [(0, .ref (V.2.1 200)), (1, .int y1), (2, .int y2)] [] I1 J) (hK19 : ∀ (y1 : Int32) (y3 : Int32) (I1 : gI), K19 y1 y3 I1 → gJ X V 0 0 19 [(0, .ref (V.2.1 200)), (1, .int y1), (2, .int v2), (3, .int y3)] [] I1 J) (hK35 : ∀ (y1 : Int32) (y4 : Int32) (I1 : gI), K35 y1 y4 I1 → gJ X V 0 0 35 [(0, .ref (V.2.1 200)), (1, .int y1), (2, .int v2), (3, .int v3), (4, .int y4)] [] I1 J) (h : w_X10_sortLow_99 Po K4 K19 K35 v1 v2 v3 v4 I) : gJ X V 0 0 99 [(0, .ref (V.2.1 200)), (1, .int v1), (2, .int v2), (3, .int v3), (4, .int v4)] [] I J := by
  unfold w_X10_sortLow_99 at h
  obtain ⟨n14, en14⟩ : ∃ z : Int32, z = v4 + 1 := ⟨_, rfl⟩
  have h := h n14 en14
  refine j_iinc (pc := 99) (v := n14) (lv' := [(4, .int n14), (0, .ref (V.2.1 200)), (1, .int v1), (2, .int v2), (3, .int v3)]) C dX10_sortLow_99 4 rfl (by rw [en14]; rfl) (by decide) rfl ?_
  refine j_goto (pc := 102) (tgt := 35) C dX10_sortLow_102 (by decide) ?_
  refine gJ.sub [1, 2, 3, 4, 0] rfl ?_
  exact hK35 _ _ _ h
set_option maxRecDepth 100000 in
set_option maxHeartbeats 4000000 in
theorem t_X10_sortLow_35b {X : gX} {l : Launch} {D : va_G} {cy : Nat → ClassId} {nm : String} {V : gV} (hM : gModM V) (C : gC X cX10_sortLow RX10 none 5 rm_X10_sortLow) (hX : gIs X l D cy nm) {I : gI} {J : gL} {Po : gI → Prop} (hR : gR X (gPv V (fun I' J' => J = J' ∧ Po I'))) {v1 : Int32} {v2 : Int32} {v3 : Int32} {v4 : Int32} {K4 : Int32 → Int32 → gI → Prop} {K19 : Int32 → Int32 → gI → Prop} {K35 : Int32 → Int32 → gI → Prop} (hK4 : ∀ (y1 : Int32) (y2 : Int32) (I1 : gI), K4 y1 y2 I1 → gJ X V 0 0 4 [(0, .ref (V.2.1 200)), (1, .int y1), (2, .int y2)] [] I1 J) (hK19 : ∀ (y1 : Int32) (y3 : Int32) (I1 : gI), K19 y1 y3 I1 → gJ X V 0 0 19 [(0, .ref (V.2.1 200)), (1, .int y1), (2, .int v2), (3, .int y3)] [] I1 J) (hK35 : ∀ (y1 : Int32) (y4 : Int32) (I1 : gI), K35 y1 y4 I1 → gJ X V 0 0 35 [(0, .ref (V.2.1 200)), (1, .int y1), (2, .int v2), (3, .int v3), (4, .int y4)] [] I1 J) (h : w_X10_sortLow_35b Po K4 K19 K35 v1 v2 v3 v4 I) : gJ X V 0 0 35 [(0, .ref (V.2.1 200)), (1, .int v1), (2, .int v2), (3, .int v3), (4, .int v4)] [] I J := by
  unfold w_X10_sortLow_35b at h
  refine j_iload (pc := 35) C dX10_sortLow_35 4 rfl ?_
  refine j_aload_n (pc := 37) C dX10_sortLow_37 rfl 0 rfl ?_
  refine j_getR (pc := 38) C 200 19 212 (c_200 hM).1 (c_200 hM).2 rfl rfl (by decide) inw_X10 wd_985 dX10_sortLow_38 ?_
  refine j_iload_n (pc := 41) C dX10_sortLow_41 rfl 3 rfl ?_
  refine j_iconst (pc := 42) (v := 1) C dX10_sortLow_42 (by decide) ?_
  refine j_iadd (pc := 43) C dX10_sortLow_43 ?_
  obtain ⟨g10, h⟩ := h
  refine j_iald (pc := 44) C 212 (c_212 hM).1 (c_212 hM).2 g10 dX10_sortLow_44 ?_
  refine j_icmp_ge (pc := 45) (tgt := 105) C dX10_sortLow_45 (by decide) (fun c11 => ?_) (fun c11 => ?_)
  · have h := h.1 c11
    obtain ⟨n12, en12⟩ : ∃ z : Int32, z = v3 + 1 := ⟨_, rfl⟩
    have h := h n12 en12
    refine j_iinc (pc := 105) (v := n12) (lv' := [(3, .int n12), (0, .ref (V.2.1 200)), (1, .int v1), (2, .int v2), (4, .int v4)]) C dX10_sortLow_105 3 rfl (by rw [en12]; rfl) (by decide) rfl ?_
    refine j_goto (pc := 108) (tgt := 19) C dX10_sortLow_108 (by decide) ?_
    refine gJ.sub [1, 2, 3, 0] rfl ?_
    exact hK19 _ _ _ h
  · have h := h.2 c11
    refine j_iload_n (pc := 48) C dX10_sortLow_48 rfl 2 rfl ?_
    refine j_bipush (pc := 49) (v := 20) C dX10_sortLow_49 (by decide) ?_
    refine j_icmp_ge (pc := 51) (tgt := 99) C dX10_sortLow_51 (by decide) (fun c13 => ?_) (fun c13 => ?_)
    · have h := h.1 c13
      refine gJ.sub [0, 1, 2, 3, 4] rfl ?_
      exact t_X10_sortLow_99 hM C hX hR  hK4 hK19 hK35 h
    · have h := h.2 c13
      refine j_aload_n (pc := 54) C dX10_sortLow_54 rfl 0 rfl ?_
      refine j_getR (pc := 55) C 200 18 211 (c_200 hM).1 (c_200 hM).2 rfl rfl (by decide) inw_X10 wd_984 dX10_sortLow_55 ?_
      refine j_iload (pc := 58) C dX10_sortLow_58 4 rfl ?_
      obtain ⟨g15, h⟩ := h
      refine j_iald (pc := 60) C 211 (c_211 hM).1 (c_211 hM).2 g15 dX10_sortLow_60 ?_
      refine j_aload_n (pc := 61) C dX10_sortLow_61 rfl 0 rfl ?_
      refine j_getR (pc := 62) C 200 18 211 (c_200 hM).1 (c_200 hM).2 rfl rfl (by decide) inw_X10 wd_984 dX10_sortLow_62 ?_
      refine j_iload (pc := 65) C dX10_sortLow_65 4 rfl ?_
      obtain ⟨g16, h⟩ := h
      refine j_iald (pc := 67) C 211 (c_211 hM).1 (c_211 hM).2 g16 dX10_sortLow_67 ?_
      refine j_ineg (pc := 68) C dX10_sortLow_68 ?_
      refine j_iand (pc := 69) C dX10_sortLow_69 ?_
      refine j_iconst (pc := 70) (v := 1) C dX10_sortLow_70 (by decide) ?_
      refine j_iload_n (pc := 71) C dX10_sortLow_71 rfl 2 rfl ?_
      refine j_ishl (pc := 72) C dX10_sortLow_72 ?_
      refine j_icmp_ne (pc := 73) (tgt := 99) C dX10_sortLow_73 (by decide) (fun c17 => ?_) (fun c17 => ?_)
      · have h := h.1 c17
        refine gJ.sub [0, 1, 2, 3, 4] rfl ?_
        exact t_X10_sortLow_99 hM C hX hR  hK4 hK19 hK35 h
      · have h := h.2 c17
        refine j_aload_n (pc := 76) C dX10_sortLow_76 rfl 0 rfl ?_
        refine j_getR (pc := 77) C 200 20 213 (c_200 hM).1 (c_200 hM).2 rfl rfl (by decide) inw_X10 wd_986 dX10_sortLow_77 ?_
        refine j_iload_n (pc := 80) C dX10_sortLow_80 rfl 1 rfl ?_
        refine j_aload_n (pc := 81) C dX10_sortLow_81 rfl 0 rfl ?_
        refine j_getR (pc := 82) C 200 18 211 (c_200 hM).1 (c_200 hM).2 rfl rfl (by decide) inw_X10 wd_984 dX10_sortLow_82 ?_
        refine j_iload (pc := 85) C dX10_sortLow_85 4 rfl ?_
        obtain ⟨g18, h⟩ := h
        refine j_iald (pc := 87) C 211 (c_211 hM).1 (c_211 hM).2 g18 dX10_sortLow_87 ?_
        obtain ⟨g19, h⟩ := h
        refine j_iast (pc := 88) C 213 (c_213 hM).1 (c_213 hM).2 g19 dX10_sortLow_88 ?_
        refine gJ.nmI (fun I20 eI20 => ?_)
        have h := h I20 eI20
        refine j_aload_n (pc := 89) C dX10_sortLow_89 rfl 0 rfl ?_
        refine j_getR (pc := 90) C 200 21 214 (c_200 hM).1 (c_200 hM).2 rfl rfl (by decide) inw_X10 wd_987 dX10_sortLow_90 ?_
        refine j_iload_n (pc := 93) C dX10_sortLow_93 rfl 1 rfl ?_
        refine j_iload_n (pc := 94) C dX10_sortLow_94 rfl 3 rfl ?_
        obtain ⟨g21, h⟩ := h
        refine j_iast (pc := 95) C 214 (c_214 hM).1 (c_214 hM).2 g21 dX10_sortLow_95 ?_
        refine gJ.nmI (fun I22 eI22 => ?_)
        have h := h I22 eI22
        obtain ⟨n23, en23⟩ : ∃ z : Int32, z = v1 + 1 := ⟨_, rfl⟩
        have h := h n23 en23
        refine j_iinc (pc := 96) (v := n23) (lv' := [(1, .int n23), (0, .ref (V.2.1 200)), (2, .int v2), (3, .int v3), (4, .int v4)]) C dX10_sortLow_96 1 rfl (by rw [en23]; rfl) (by decide) rfl ?_
        refine gJ.sub [1, 0, 2, 3, 4] rfl ?_
        exact t_X10_sortLow_99 hM C hX hR  hK4 hK19 hK35 h
set_option maxRecDepth 100000 in
set_option maxHeartbeats 4000000 in
theorem t_X10_sortLow_35 {X : gX} {l : Launch} {D : va_G} {cy : Nat → ClassId} {nm : String} {V : gV} (hM : gModM V) (C : gC X cX10_sortLow RX10 none 5 rm_X10_sortLow) (hX : gIs X l D cy nm) {I : gI} {J : gL} {Po : gI → Prop} (hR : gR X (gPv V (fun I' J' => J = J' ∧ Po I'))) {v1 : Int32} {v2 : Int32} {v3 : Int32} {v4 : Int32} {K4 : Int32 → Int32 → gI → Prop} {K19 : Int32 → Int32 → gI → Prop} (hK4 : ∀ (y1 : Int32) (y2 : Int32) (I1 : gI), K4 y1 y2 I1 → gJ X V 0 0 4 [(0, .ref (V.2.1 200)), (1, .int y1), (2, .int y2)] [] I1 J) (hK19 : ∀ (y1 : Int32) (y3 : Int32) (I1 : gI), K19 y1 y3 I1 → gJ X V 0 0 19 [(0, .ref (V.2.1 200)), (1, .int y1), (2, .int v2), (3, .int y3)] [] I1 J) (h : w_X10_sortLow_35 Po K4 K19 v1 v2 v3 v4 I) : gJ X V 0 0 35 [(0, .ref (V.2.1 200)), (1, .int v1), (2, .int v2), (3, .int v3), (4, .int v4)] [] I J := by
  unfold w_X10_sortLow_35 at h
  obtain ⟨Inv, mu, h0, hs⟩ := h
  have key : ∀ (n : Nat) (v1 : Int32) (v4 : Int32) (I : gI), Inv v1 v4 I → mu v1 v4 I < n → gJ X V 0 0 35 [(0, .ref (V.2.1 200)), (1, .int v1), (2, .int v2), (3, .int v3), (4, .int v4)] [] I J := by
    intro n
    induction n with
    | zero => intro v1 v4 I hi hn; exact absurd hn (Nat.not_lt_zero _)
    | succ n ih =>
      intro v1 v4 I hi hn
      exact t_X10_sortLow_35b hM C hX hR  hK4 hK19 (fun u1 u4 I1 hk => ih u1 u4 I1 hk.1 (Nat.lt_of_lt_of_le hk.2 (Nat.le_of_lt_succ hn))) (hs v1 v4 I hi)
  exact key _ v1 v4 I h0 (Nat.lt_succ_self _)
set_option maxRecDepth 100000 in
set_option maxHeartbeats 4000000 in
theorem t_X10_sortLow_19b {X : gX} {l : Launch} {D : va_G} {cy : Nat → ClassId} {nm : String} {V : gV} (hM : gModM V) (C : gC X cX10_sortLow RX10 none 5 rm_X10_sortLow) (hX : gIs X l D cy nm) {I : gI} {J : gL} {Po : gI → Prop} (hR : gR X (gPv V (fun I' J' => J = J' ∧ Po I'))) {v1 : Int32} {v2 : Int32} {v3 : Int32} {K4 : Int32 → Int32 → gI → Prop} {K19 : Int32 → Int32 → gI → Prop} (hK4 : ∀ (y1 : Int32) (y2 : Int32) (I1 : gI), K4 y1 y2 I1 → gJ X V 0 0 4 [(0, .ref (V.2.1 200)), (1, .int y1), (2, .int y2)] [] I1 J) (hK19 : ∀ (y1 : Int32) (y3 : Int32) (I1 : gI), K19 y1 y3 I1 → gJ X V 0 0 19 [(0, .ref (V.2.1 200)), (1, .int y1), (2, .int v2), (3, .int y3)] [] I1 J) (h : w_X10_sortLow_19b Po K4 K19 v1 v2 v3 I) : gJ X V 0 0 19 [(0, .ref (V.2.1 200)), (1, .int v1), (2, .int v2), (3, .int v3)] [] I J := by
  unfold w_X10_sortLow_19b at h
  refine j_iload_n (pc := 19) C dX10_sortLow_19 rfl 3 rfl ?_
  refine j_aload_n (pc := 20) C dX10_sortLow_20 rfl 0 rfl ?_
  refine j_getI (pc := 21) C 200 11 (c_200 hM).1 (c_200 hM).2 rfl rfl (by decide) inw_X10 wd_977 dX10_sortLow_21 ?_
  refine j_icmp_ge (pc := 24) (tgt := 111) C dX10_sortLow_24 (by decide) (fun c6 => ?_) (fun c6 => ?_)
  · have h := h.1 c6
    obtain ⟨n7, en7⟩ : ∃ z : Int32, z = v2 + 1 := ⟨_, rfl⟩
    have h := h n7 en7
    refine j_iinc (pc := 111) (v := n7) (lv' := [(2, .int n7), (0, .ref (V.2.1 200)), (1, .int v1), (3, .int v3)]) C dX10_sortLow_111 2 rfl (by rw [en7]; rfl) (by decide) rfl ?_
    refine j_goto (pc := 114) (tgt := 4) C dX10_sortLow_114 (by decide) ?_
    refine gJ.sub [1, 2, 0] rfl ?_
    exact hK4 _ _ _ h
  · have h := h.2 c6
    refine j_aload_n (pc := 27) C dX10_sortLow_27 rfl 0 rfl ?_
    refine j_getR (pc := 28) C 200 19 212 (c_200 hM).1 (c_200 hM).2 rfl rfl (by decide) inw_X10 wd_985 dX10_sortLow_28 ?_
    refine j_iload_n (pc := 31) C dX10_sortLow_31 rfl 3 rfl ?_
    obtain ⟨g8, h⟩ := h
    refine j_iald (pc := 32) C 212 (c_212 hM).1 (c_212 hM).2 g8 dX10_sortLow_32 ?_
    refine gJ.topi (fun n9 en9 => ?_)
    have h := h n9 en9
    refine j_istore (pc := 33) (lv' := [(4, .int n9), (0, .ref (V.2.1 200)), (1, .int v1), (2, .int v2), (3, .int v3)]) C dX10_sortLow_33 (by decide) rfl ?_
    refine gJ.sub [1, 2, 3, 4, 0] rfl ?_
    exact t_X10_sortLow_35 hM C hX hR  hK4 hK19 h
set_option maxRecDepth 100000 in
set_option maxHeartbeats 4000000 in
theorem t_X10_sortLow_19 {X : gX} {l : Launch} {D : va_G} {cy : Nat → ClassId} {nm : String} {V : gV} (hM : gModM V) (C : gC X cX10_sortLow RX10 none 5 rm_X10_sortLow) (hX : gIs X l D cy nm) {I : gI} {J : gL} {Po : gI → Prop} (hR : gR X (gPv V (fun I' J' => J = J' ∧ Po I'))) {v1 : Int32} {v2 : Int32} {v3 : Int32} {K4 : Int32 → Int32 → gI → Prop} (hK4 : ∀ (y1 : Int32) (y2 : Int32) (I1 : gI), K4 y1 y2 I1 → gJ X V 0 0 4 [(0, .ref (V.2.1 200)), (1, .int y1), (2, .int y2)] [] I1 J) (h : w_X10_sortLow_19 Po K4 v1 v2 v3 I) : gJ X V 0 0 19 [(0, .ref (V.2.1 200)), (1, .int v1), (2, .int v2), (3, .int v3)] [] I J := by
  unfold w_X10_sortLow_19 at h
  obtain ⟨Inv, mu, h0, hs⟩ := h
  have key : ∀ (n : Nat) (v1 : Int32) (v3 : Int32) (I : gI), Inv v1 v3 I → mu v1 v3 I < n → gJ X V 0 0 19 [(0, .ref (V.2.1 200)), (1, .int v1), (2, .int v2), (3, .int v3)] [] I J := by
    intro n
    induction n with
    | zero => intro v1 v3 I hi hn; exact absurd hn (Nat.not_lt_zero _)
    | succ n ih =>
      intro v1 v3 I hi hn
      exact t_X10_sortLow_19b hM C hX hR  hK4 (fun u1 u3 I1 hk => ih u1 u3 I1 hk.1 (Nat.lt_of_lt_of_le hk.2 (Nat.le_of_lt_succ hn))) (hs v1 v3 I hi)
  exact key _ v1 v3 I h0 (Nat.lt_succ_self _)
set_option maxRecDepth 100000 in
set_option maxHeartbeats 4000000 in
theorem t_X10_sortLow_4b {X : gX} {l : Launch} {D : va_G} {cy : Nat → ClassId} {nm : String} {V : gV} (hM : gModM V) (C : gC X cX10_sortLow RX10 none 5 rm_X10_sortLow) (hX : gIs X l D cy nm) {I : gI} {J : gL} {Po : gI → Prop} (hR : gR X (gPv V (fun I' J' => J = J' ∧ Po I'))) {v1 : Int32} {v2 : Int32} {K4 : Int32 → Int32 → gI → Prop} (hK4 : ∀ (y1 : Int32) (y2 : Int32) (I1 : gI), K4 y1 y2 I1 → gJ X V 0 0 4 [(0, .ref (V.2.1 200)), (1, .int y1), (2, .int y2)] [] I1 J) (h : w_X10_sortLow_4b Po K4 v1 v2 I) : gJ X V 0 0 4 [(0, .ref (V.2.1 200)), (1, .int v1), (2, .int v2)] [] I J := by
  unfold w_X10_sortLow_4b at h
  refine j_iload_n (pc := 4) C dX10_sortLow_4 rfl 2 rfl ?_
  refine j_bipush (pc := 5) (v := 21) C dX10_sortLow_5 (by decide) ?_
  refine j_icmp_ge (pc := 7) (tgt := 117) C dX10_sortLow_7 (by decide) (fun c1 => ?_) (fun c1 => ?_)
  · have h := h.1 c1
    refine j_aload_n (pc := 117) C dX10_sortLow_117 rfl 0 rfl ?_
    refine j_getR (pc := 118) C 200 22 215 (c_200 hM).1 (c_200 hM).2 rfl rfl (by decide) inw_X10 wd_988 dX10_sortLow_118 ?_
    refine j_bipush (pc := 121) (v := 21) C dX10_sortLow_121 (by decide) ?_
    refine j_iload_n (pc := 123) C dX10_sortLow_123 rfl 1 rfl ?_
    obtain ⟨g2, h⟩ := h
    refine j_iast (pc := 124) C 215 (c_215 hM).1 (c_215 hM).2 g2 dX10_sortLow_124 ?_
    refine gJ.nmI (fun I3 eI3 => ?_)
    have h := h I3 eI3
    exact j_vret (pc := 125) C hR (Nat.zero_le _) (Nat.zero_le _) dX10_sortLow_125 ⟨rfl, rfl, rfl, h⟩
  · have h := h.2 c1
    refine j_aload_n (pc := 10) C dX10_sortLow_10 rfl 0 rfl ?_
    refine j_getR (pc := 11) C 200 22 215 (c_200 hM).1 (c_200 hM).2 rfl rfl (by decide) inw_X10 wd_988 dX10_sortLow_11 ?_
    refine j_iload_n (pc := 14) C dX10_sortLow_14 rfl 2 rfl ?_
    refine j_iload_n (pc := 15) C dX10_sortLow_15 rfl 1 rfl ?_
    obtain ⟨g4, h⟩ := h
    refine j_iast (pc := 16) C 215 (c_215 hM).1 (c_215 hM).2 g4 dX10_sortLow_16 ?_
    refine gJ.nmI (fun I5 eI5 => ?_)
    have h := h I5 eI5
    refine j_iconst (pc := 17) (v := 0) C dX10_sortLow_17 (by decide) ?_
    refine j_istore_n (pc := 18) (lv' := [(3, .int (0 : Int32)), (0, .ref (V.2.1 200)), (1, .int v1), (2, .int v2)]) C dX10_sortLow_18 rfl (by decide) rfl ?_
    refine gJ.sub [1, 2, 3, 0] rfl ?_
    exact t_X10_sortLow_19 hM C hX hR  hK4 h
set_option maxRecDepth 100000 in
set_option maxHeartbeats 4000000 in
theorem t_X10_sortLow_4 {X : gX} {l : Launch} {D : va_G} {cy : Nat → ClassId} {nm : String} {V : gV} (hM : gModM V) (C : gC X cX10_sortLow RX10 none 5 rm_X10_sortLow) (hX : gIs X l D cy nm) {I : gI} {J : gL} {Po : gI → Prop} (hR : gR X (gPv V (fun I' J' => J = J' ∧ Po I'))) {v1 : Int32} {v2 : Int32} (h : w_X10_sortLow_4 Po v1 v2 I) : gJ X V 0 0 4 [(0, .ref (V.2.1 200)), (1, .int v1), (2, .int v2)] [] I J := by
  unfold w_X10_sortLow_4 at h
  obtain ⟨Inv, mu, h0, hs⟩ := h
  have key : ∀ (n : Nat) (v1 : Int32) (v2 : Int32) (I : gI), Inv v1 v2 I → mu v1 v2 I < n → gJ X V 0 0 4 [(0, .ref (V.2.1 200)), (1, .int v1), (2, .int v2)] [] I J := by
    intro n
    induction n with
    | zero => intro v1 v2 I hi hn; exact absurd hn (Nat.not_lt_zero _)
    | succ n ih =>
      intro v1 v2 I hi hn
      exact t_X10_sortLow_4b hM C hX hR   (fun u1 u2 I1 hk => ih u1 u2 I1 hk.1 (Nat.lt_of_lt_of_le hk.2 (Nat.le_of_lt_succ hn))) (hs v1 v2 I hi)
  exact key _ v1 v2 I h0 (Nat.lt_succ_self _)
set_option maxRecDepth 100000 in
set_option maxHeartbeats 4000000 in
theorem m_X10_sortLow {l : Launch} {D : va_G} {cy : Nat → ClassId} {V : gV} (hM : gModM V) {I : gI} {J : gL} {Po : gI → Prop} (h : wp_X10_sortLow I Po) : gMet l D cy yX10_sortLow cX10_sortLow 5 none rm_X10_sortLow V [.ref (V.2.1 200)] I J (gPv V (fun I' J' => J = J' ∧ Po I')) := by
  refine gMet.of (by decide) (Nat.le_of_ble_eq_true rfl) (fun X hX C hR => ?_)
  have C : gC X cX10_sortLow RX10 none 5 rm_X10_sortLow := C
  show gJ X V 0 0 0 [(0, .ref (V.2.1 200))] [] I J
  unfold wp_X10_sortLow at h
  refine j_iconst (pc := 0) (v := 0) C dX10_sortLow_0 (by decide) ?_
  refine j_istore_n (pc := 1) (lv' := [(1, .int (0 : Int32)), (0, .ref (V.2.1 200))]) C dX10_sortLow_1 rfl (by decide) rfl ?_
  refine j_iconst (pc := 2) (v := 0) C dX10_sortLow_2 (by decide) ?_
  refine j_istore_n (pc := 3) (lv' := [(2, .int (0 : Int32)), (1, .int (0 : Int32)), (0, .ref (V.2.1 200))]) C dX10_sortLow_3 rfl (by decide) rfl ?_
  refine gJ.sub [2, 1, 0] rfl ?_
  exact t_X10_sortLow_4 hM C hX hR   h
/-! TileRulesModel.placeAll()V -/
abbrev rm_X10_placeAll : Room := { frames := 2, cells := 0, slots := 0, locals := 53 }
theorem ok_X10_placeAll : gOk yX10_placeAll cX10_placeAll 7 none 0 := ⟨wd_1189, wd_74, by decide +kernel⟩
def w_X10_placeAll_133  (Po : gI → Prop) (K4 : Int32 → Int32 → gI → Prop) (K21 : Int32 → Int32 → gI → Prop) (v1 : Int32) (v2 : Int32) (v3 : Int32) (I : gI) : Prop :=
  ∀ n12 : Int32, n12 = v3 + 1 → K21 v1 n12 I
def w_X10_placeAll_121  (Po : gI → Prop) (K4 : Int32 → Int32 → gI → Prop) (K21 : Int32 → Int32 → gI → Prop) (K56 : Int32 → Int32 → gI → Prop) (K66 : Int32 → Int32 → gI → Prop) (v1 : Int32) (v2 : Int32) (v3 : Int32) (v4 : Int32) (v5 : Int32) (I : gI) : Prop :=
  ∀ n20 : Int32, n20 = v5 + 1 → K66 v1 n20 I
def w_X10_placeAll_92  (Po : gI → Prop) (K4 : Int32 → Int32 → gI → Prop) (K21 : Int32 → Int32 → gI → Prop) (K56 : Int32 → Int32 → gI → Prop) (K66 : Int32 → Int32 → gI → Prop) (v1 : Int32) (v2 : Int32) (v3 : Int32) (v4 : Int32) (v5 : Int32) (s0 : Int32) (s1 : Int32) (s2 : Int32) (I : gI) : Prop :=
  wp_X10_lay s2 s1 s0 v4 v5 I (fun r18 => (r18 = (-1 : Int32) → w_X10_placeAll_121 Po K4 K21 K56 K66 v1 v2 v3 v4 v5 I) ∧ (¬ r18 = (-1 : Int32) → vp_in v2 7 ∧ wp_X10_insert (I 212 (v2).toNatClampNeg) v1 r18 I (fun r22 I23 => w_X10_placeAll_121 Po K4 K21 K56 K66 r22 v2 v3 v4 v5 I23)))
def w_X10_placeAll_66b  (Po : gI → Prop) (K4 : Int32 → Int32 → gI → Prop) (K21 : Int32 → Int32 → gI → Prop) (K56 : Int32 → Int32 → gI → Prop) (K66 : Int32 → Int32 → gI → Prop) (v1 : Int32) (v2 : Int32) (v3 : Int32) (v4 : Int32) (v5 : Int32) (I : gI) : Prop :=
  ((4 : Int32) < v5 → ∀ n14 : Int32, n14 = v4 + 1 → K56 v1 n14 I) ∧ (¬ (4 : Int32) < v5 → vp_in v2 6 ∧ ¬ (4 : Int32) = 0 ∧ (v3 ≤ (3 : Int32) → w_X10_placeAll_92 Po K4 K21 K56 K66 v1 v2 v3 v4 v5 (0 : Int32) (v3 - v3 / (4 : Int32) * (4 : Int32)) (I 210 (v2).toNatClampNeg) I) ∧ (¬ v3 ≤ (3 : Int32) → w_X10_placeAll_92 Po K4 K21 K56 K66 v1 v2 v3 v4 v5 (1 : Int32) (v3 - v3 / (4 : Int32) * (4 : Int32)) (I 210 (v2).toNatClampNeg) I))
def w_X10_placeAll_66  (Po : gI → Prop) (K4 : Int32 → Int32 → gI → Prop) (K21 : Int32 → Int32 → gI → Prop) (K56 : Int32 → Int32 → gI → Prop) (v1 : Int32) (v2 : Int32) (v3 : Int32) (v4 : Int32) (v5 : Int32) (I : gI) : Prop :=
  ∃ (Inv : Int32 → Int32 → gI → Prop) (mu : Int32 → Int32 → gI → Nat), Inv v1 v5 I ∧ ∀ (v1 : Int32) (v5 : Int32) (I : gI), Inv v1 v5 I → w_X10_placeAll_66b  Po K4 K21 K56 (fun u1 u5 I1 => Inv u1 u5 I1 ∧ mu u1 u5 I1 < mu v1 v5 I) v1 v2 v3 v4 v5 I
def w_X10_placeAll_56b  (Po : gI → Prop) (K4 : Int32 → Int32 → gI → Prop) (K21 : Int32 → Int32 → gI → Prop) (K56 : Int32 → Int32 → gI → Prop) (v1 : Int32) (v2 : Int32) (v3 : Int32) (v4 : Int32) (I : gI) : Prop :=
  ((4 : Int32) < v4 → w_X10_placeAll_133 Po K4 K21 v1 v2 v3 I) ∧ (¬ (4 : Int32) < v4 → w_X10_placeAll_66 Po K4 K21 K56 v1 v2 v3 v4 (-4 : Int32) I)
def w_X10_placeAll_56  (Po : gI → Prop) (K4 : Int32 → Int32 → gI → Prop) (K21 : Int32 → Int32 → gI → Prop) (v1 : Int32) (v2 : Int32) (v3 : Int32) (v4 : Int32) (I : gI) : Prop :=
  ∃ (Inv : Int32 → Int32 → gI → Prop) (mu : Int32 → Int32 → gI → Nat), Inv v1 v4 I ∧ ∀ (v1 : Int32) (v4 : Int32) (I : gI), Inv v1 v4 I → w_X10_placeAll_56b  Po K4 K21 (fun u1 u4 I1 => Inv u1 u4 I1 ∧ mu u1 u4 I1 < mu v1 v4 I) v1 v2 v3 v4 I
def w_X10_placeAll_52  (Po : gI → Prop) (K4 : Int32 → Int32 → gI → Prop) (K21 : Int32 → Int32 → gI → Prop) (v1 : Int32) (v2 : Int32) (v3 : Int32) (I : gI) : Prop :=
  w_X10_placeAll_56 Po K4 K21 v1 v2 v3 (-4 : Int32) I
def w_X10_placeAll_40  (Po : gI → Prop) (K4 : Int32 → Int32 → gI → Prop) (K21 : Int32 → Int32 → gI → Prop) (v1 : Int32) (v2 : Int32) (v3 : Int32) (I : gI) : Prop :=
  (¬ (I 200 17) = 0 → w_X10_placeAll_52 Po K4 K21 v1 v2 v3 I) ∧ ((I 200 17) = 0 → ((4 : Int32) ≤ v3 → w_X10_placeAll_133 Po K4 K21 v1 v2 v3 I) ∧ (¬ (4 : Int32) ≤ v3 → w_X10_placeAll_52 Po K4 K21 v1 v2 v3 I))
def w_X10_placeAll_21b  (Po : gI → Prop) (K4 : Int32 → Int32 → gI → Prop) (K21 : Int32 → Int32 → gI → Prop) (v1 : Int32) (v2 : Int32) (v3 : Int32) (I : gI) : Prop :=
  ((8 : Int32) ≤ v3 → ∀ n8 : Int32, n8 = v2 + 1 → K4 v1 n8 I) ∧ (¬ (8 : Int32) ≤ v3 → (¬ (I 200 16) = 0 → w_X10_placeAll_40 Po K4 K21 v1 v2 v3 I) ∧ ((I 200 16) = 0 → ¬ (4 : Int32) = 0 ∧ (¬ (v3 - v3 / (4 : Int32) * (4 : Int32)) = 0 → w_X10_placeAll_133 Po K4 K21 v1 v2 v3 I) ∧ ((v3 - v3 / (4 : Int32) * (4 : Int32)) = 0 → w_X10_placeAll_40 Po K4 K21 v1 v2 v3 I)))
def w_X10_placeAll_21  (Po : gI → Prop) (K4 : Int32 → Int32 → gI → Prop) (v1 : Int32) (v2 : Int32) (v3 : Int32) (I : gI) : Prop :=
  ∃ (Inv : Int32 → Int32 → gI → Prop) (mu : Int32 → Int32 → gI → Nat), Inv v1 v3 I ∧ ∀ (v1 : Int32) (v3 : Int32) (I : gI), Inv v1 v3 I → w_X10_placeAll_21b  Po K4 (fun u1 u3 I1 => Inv u1 u3 I1 ∧ mu u1 u3 I1 < mu v1 v3 I) v1 v2 v3 I
def w_X10_placeAll_4b  (Po : gI → Prop) (K4 : Int32 → Int32 → gI → Prop) (v1 : Int32) (v2 : Int32) (I : gI) : Prop :=
  ((I 200 11) ≤ v2 → vp_in (I 200 11) 7 ∧ ∀ I3 : gI, I3 = gup I 212 ((I 200 11)).toNatClampNeg v1 → wp_X10_sortLow I3 (fun I4 => Po I4)) ∧ (¬ (I 200 11) ≤ v2 → vp_in v2 7 ∧ ∀ I6 : gI, I6 = gup I 212 (v2).toNatClampNeg v1 → w_X10_placeAll_21 Po K4 v1 v2 (0 : Int32) I6)
def w_X10_placeAll_4  (Po : gI → Prop)  (v1 : Int32) (v2 : Int32) (I : gI) : Prop :=
  ∃ (Inv : Int32 → Int32 → gI → Prop) (mu : Int32 → Int32 → gI → Nat), Inv v1 v2 I ∧ ∀ (v1 : Int32) (v2 : Int32) (I : gI), Inv v1 v2 I → w_X10_placeAll_4b  Po  (fun u1 u2 I1 => Inv u1 u2 I1 ∧ mu u1 u2 I1 < mu v1 v2 I) v1 v2 I
def wp_X10_placeAll (I : gI) (Po : gI → Prop) : Prop :=
  w_X10_placeAll_4 Po (0 : Int32) (0 : Int32) I
set_option maxRecDepth 100000 in
set_option maxHeartbeats 4000000 in
theorem t_X10_placeAll_133 {X : gX} {l : Launch} {D : va_G} {cy : Nat → ClassId} {nm : String} {V : gV} (hM : gModM V) (C : gC X cX10_placeAll RX10 none 7 rm_X10_placeAll) (hX : gIs X l D cy nm) {I : gI} {J : gL} {Po : gI → Prop} (hR : gR X (gPv V (fun I' J' => J = J' ∧ Po I'))) {v1 : Int32} {v2 : Int32} {v3 : Int32} {K4 : Int32 → Int32 → gI → Prop} {K21 : Int32 → Int32 → gI → Prop} (hK4 : ∀ (y1 : Int32) (y2 : Int32) (I1 : gI), K4 y1 y2 I1 → gJ X V 0 0 4 [(0, .ref (V.2.1 200)), (1, .int y1), (2, .int y2)] [] I1 J) (hK21 : ∀ (y1 : Int32) (y3 : Int32) (I1 : gI), K21 y1 y3 I1 → gJ X V 0 0 21 [(0, .ref (V.2.1 200)), (1, .int y1), (2, .int v2), (3, .int y3)] [] I1 J) (h : w_X10_placeAll_133 Po K4 K21 v1 v2 v3 I) : gJ X V 0 0 133 [(0, .ref (V.2.1 200)), (1, .int v1), (2, .int v2), (3, .int v3)] [] I J := by
  unfold w_X10_placeAll_133 at h
  obtain ⟨n12, en12⟩ : ∃ z : Int32, z = v3 + 1 := ⟨_, rfl⟩
  have h := h n12 en12
  refine j_iinc (pc := 133) (v := n12) (lv' := [(3, .int n12), (0, .ref (V.2.1 200)), (1, .int v1), (2, .int v2)]) C dX10_placeAll_133 3 rfl (by rw [en12]; rfl) (by decide) rfl ?_
  refine j_goto (pc := 136) (tgt := 21) C dX10_placeAll_136 (by decide) ?_
  refine gJ.sub [1, 2, 3, 0] rfl ?_
  exact hK21 _ _ _ h
set_option maxRecDepth 100000 in
set_option maxHeartbeats 4000000 in
theorem t_X10_placeAll_121 {X : gX} {l : Launch} {D : va_G} {cy : Nat → ClassId} {nm : String} {V : gV} (hM : gModM V) (C : gC X cX10_placeAll RX10 none 7 rm_X10_placeAll) (hX : gIs X l D cy nm) {I : gI} {J : gL} {Po : gI → Prop} (hR : gR X (gPv V (fun I' J' => J = J' ∧ Po I'))) {v1 : Int32} {v2 : Int32} {v3 : Int32} {v4 : Int32} {v5 : Int32} {K4 : Int32 → Int32 → gI → Prop} {K21 : Int32 → Int32 → gI → Prop} {K56 : Int32 → Int32 → gI → Prop} {K66 : Int32 → Int32 → gI → Prop} (hK4 : ∀ (y1 : Int32) (y2 : Int32) (I1 : gI), K4 y1 y2 I1 → gJ X V 0 0 4 [(0, .ref (V.2.1 200)), (1, .int y1), (2, .int y2)] [] I1 J) (hK21 : ∀ (y1 : Int32) (y3 : Int32) (I1 : gI), K21 y1 y3 I1 → gJ X V 0 0 21 [(0, .ref (V.2.1 200)), (1, .int y1), (2, .int v2), (3, .int y3)] [] I1 J) (hK56 : ∀ (y1 : Int32) (y4 : Int32) (I1 : gI), K56 y1 y4 I1 → gJ X V 0 0 56 [(0, .ref (V.2.1 200)), (1, .int y1), (2, .int v2), (3, .int v3), (4, .int y4)] [] I1 J) (hK66 : ∀ (y1 : Int32) (y5 : Int32) (I1 : gI), K66 y1 y5 I1 → gJ X V 0 0 66 [(0, .ref (V.2.1 200)), (1, .int y1), (2, .int v2), (3, .int v3), (4, .int v4), (5, .int y5)] [] I1 J) (h : w_X10_placeAll_121 Po K4 K21 K56 K66 v1 v2 v3 v4 v5 I) : gJ X V 0 0 121 [(0, .ref (V.2.1 200)), (1, .int v1), (2, .int v2), (3, .int v3), (4, .int v4), (5, .int v5)] [] I J := by
  unfold w_X10_placeAll_121 at h
  obtain ⟨n20, en20⟩ : ∃ z : Int32, z = v5 + 1 := ⟨_, rfl⟩
  have h := h n20 en20
  refine j_iinc (pc := 121) (v := n20) (lv' := [(5, .int n20), (0, .ref (V.2.1 200)), (1, .int v1), (2, .int v2), (3, .int v3), (4, .int v4)]) C dX10_placeAll_121 5 rfl (by rw [en20]; rfl) (by decide) rfl ?_
  refine j_goto (pc := 124) (tgt := 66) C dX10_placeAll_124 (by decide) ?_
  refine gJ.sub [1, 2, 3, 4, 5, 0] rfl ?_
  exact hK66 _ _ _ h
set_option maxRecDepth 100000 in
set_option maxHeartbeats 4000000 in
theorem t_X10_placeAll_92 {X : gX} {l : Launch} {D : va_G} {cy : Nat → ClassId} {nm : String} {V : gV} (hM : gModM V) (C : gC X cX10_placeAll RX10 none 7 rm_X10_placeAll) (hX : gIs X l D cy nm) {I : gI} {J : gL} {Po : gI → Prop} (hR : gR X (gPv V (fun I' J' => J = J' ∧ Po I'))) {v1 : Int32} {v2 : Int32} {v3 : Int32} {v4 : Int32} {v5 : Int32} {s0 : Int32} {s1 : Int32} {s2 : Int32} {K4 : Int32 → Int32 → gI → Prop} {K21 : Int32 → Int32 → gI → Prop} {K56 : Int32 → Int32 → gI → Prop} {K66 : Int32 → Int32 → gI → Prop} (hK4 : ∀ (y1 : Int32) (y2 : Int32) (I1 : gI), K4 y1 y2 I1 → gJ X V 0 0 4 [(0, .ref (V.2.1 200)), (1, .int y1), (2, .int y2)] [] I1 J) (hK21 : ∀ (y1 : Int32) (y3 : Int32) (I1 : gI), K21 y1 y3 I1 → gJ X V 0 0 21 [(0, .ref (V.2.1 200)), (1, .int y1), (2, .int v2), (3, .int y3)] [] I1 J) (hK56 : ∀ (y1 : Int32) (y4 : Int32) (I1 : gI), K56 y1 y4 I1 → gJ X V 0 0 56 [(0, .ref (V.2.1 200)), (1, .int y1), (2, .int v2), (3, .int v3), (4, .int y4)] [] I1 J) (hK66 : ∀ (y1 : Int32) (y5 : Int32) (I1 : gI), K66 y1 y5 I1 → gJ X V 0 0 66 [(0, .ref (V.2.1 200)), (1, .int y1), (2, .int v2), (3, .int v3), (4, .int v4), (5, .int y5)] [] I1 J) (h : w_X10_placeAll_92 Po K4 K21 K56 K66 v1 v2 v3 v4 v5 s0 s1 s2 I) : gJ X V 0 0 92 [(0, .ref (V.2.1 200)), (1, .int v1), (2, .int v2), (3, .int v3), (4, .int v4), (5, .int v5)] [.int s0, .int s1, .int s2, .ref (V.2.1 200)] I J := by
  unfold w_X10_placeAll_92 at h
  refine j_iload (pc := 92) C dX10_placeAll_92 4 rfl ?_
  refine j_iload (pc := 94) C dX10_placeAll_94 5 rfl ?_
  refine j_callV (pc := 96) (As := [.int s2, .int s1, .int s0, .int v4, .int v5]) (st := []) C hX 200 (m_X10_lay hM  h) (c_200 hM).1 (c_200 hM).2 rfl ok_X10_lay wd_1190 wd_1192 wd_51 ⟨by decide, by decide⟩ rfl rfl (Nat.le_of_ble_eq_true rfl) ⟨Nat.le_refl 0, Nat.le_refl 0⟩ dX10_placeAll_96 (fun r V1 I1 J1 hp => ?_)
  obtain ⟨r18, rfl, rfl, rfl, rfl, h⟩ := hp
  show gJ X V 0 0 99 _ [.int r18] _ _
  refine j_istore (pc := 99) (lv' := [(6, .int r18), (0, .ref (V.2.1 200)), (1, .int v1), (2, .int v2), (3, .int v3), (4, .int v4), (5, .int v5)]) C dX10_placeAll_99 (by decide) rfl ?_
  refine j_iload (pc := 101) C dX10_placeAll_101 0 rfl ?_
  refine j_iconst (pc := 103) (v := (-1)) C dX10_placeAll_103 (by decide) ?_
  refine j_icmp_eq (pc := 104) (tgt := 121) C dX10_placeAll_104 (by decide) (fun c19 => ?_) (fun c19 => ?_)
  · have h := h.1 c19
    refine gJ.sub [1, 2, 3, 4, 5, 6] rfl ?_
    exact t_X10_placeAll_121 hM C hX hR  hK4 hK21 hK56 hK66 h
  · have h := h.2 c19
    refine j_aload_n (pc := 107) C dX10_placeAll_107 rfl 1 rfl ?_
    refine j_aload_n (pc := 108) C dX10_placeAll_108 rfl 1 rfl ?_
    refine j_getR (pc := 109) C 200 19 212 (c_200 hM).1 (c_200 hM).2 rfl rfl (by decide) inw_X10 wd_985 dX10_placeAll_109 ?_
    refine j_iload_n (pc := 112) C dX10_placeAll_112 rfl 3 rfl ?_
    obtain ⟨g21, h⟩ := h
    refine j_iald (pc := 113) C 212 (c_212 hM).1 (c_212 hM).2 g21 dX10_placeAll_113 ?_
    refine j_iload_n (pc := 114) C dX10_placeAll_114 rfl 2 rfl ?_
    refine j_iload (pc := 115) C dX10_placeAll_115 0 rfl ?_
    refine j_callV (pc := 117) (As := [.int (I 212 (v2).toNatClampNeg), .int v1, .int r18]) (st := []) C hX 200 (m_X10_insert hM  h) (c_200 hM).1 (c_200 hM).2 rfl ok_X10_insert wd_1194 wd_1196 wd_52 ⟨by decide, by decide⟩ rfl rfl (Nat.le_of_ble_eq_true rfl) ⟨Nat.le_refl 0, Nat.le_refl 0⟩ dX10_placeAll_117 (fun r V1 I23 J1 hp => ?_)
    obtain ⟨r22, rfl, rfl, rfl, h⟩ := hp
    show gJ X V 0 0 120 _ [.int r22] _ _
    refine j_istore_n (pc := 120) (lv' := [(1, .int r22), (6, .int r18), (0, .ref (V.2.1 200)), (2, .int v2), (3, .int v3), (4, .int v4), (5, .int v5)]) C dX10_placeAll_120 rfl (by decide) rfl ?_
    refine gJ.sub [2, 0, 3, 4, 5, 6] rfl ?_
    exact t_X10_placeAll_121 hM C hX hR  hK4 hK21 hK56 hK66 h
set_option maxRecDepth 100000 in
set_option maxHeartbeats 4000000 in
theorem t_X10_placeAll_66b {X : gX} {l : Launch} {D : va_G} {cy : Nat → ClassId} {nm : String} {V : gV} (hM : gModM V) (C : gC X cX10_placeAll RX10 none 7 rm_X10_placeAll) (hX : gIs X l D cy nm) {I : gI} {J : gL} {Po : gI → Prop} (hR : gR X (gPv V (fun I' J' => J = J' ∧ Po I'))) {v1 : Int32} {v2 : Int32} {v3 : Int32} {v4 : Int32} {v5 : Int32} {K4 : Int32 → Int32 → gI → Prop} {K21 : Int32 → Int32 → gI → Prop} {K56 : Int32 → Int32 → gI → Prop} {K66 : Int32 → Int32 → gI → Prop} (hK4 : ∀ (y1 : Int32) (y2 : Int32) (I1 : gI), K4 y1 y2 I1 → gJ X V 0 0 4 [(0, .ref (V.2.1 200)), (1, .int y1), (2, .int y2)] [] I1 J) (hK21 : ∀ (y1 : Int32) (y3 : Int32) (I1 : gI), K21 y1 y3 I1 → gJ X V 0 0 21 [(0, .ref (V.2.1 200)), (1, .int y1), (2, .int v2), (3, .int y3)] [] I1 J) (hK56 : ∀ (y1 : Int32) (y4 : Int32) (I1 : gI), K56 y1 y4 I1 → gJ X V 0 0 56 [(0, .ref (V.2.1 200)), (1, .int y1), (2, .int v2), (3, .int v3), (4, .int y4)] [] I1 J) (hK66 : ∀ (y1 : Int32) (y5 : Int32) (I1 : gI), K66 y1 y5 I1 → gJ X V 0 0 66 [(0, .ref (V.2.1 200)), (1, .int y1), (2, .int v2), (3, .int v3), (4, .int v4), (5, .int y5)] [] I1 J) (h : w_X10_placeAll_66b Po K4 K21 K56 K66 v1 v2 v3 v4 v5 I) : gJ X V 0 0 66 [(0, .ref (V.2.1 200)), (1, .int v1), (2, .int v2), (3, .int v3), (4, .int v4), (5, .int v5)] [] I J := by
  unfold w_X10_placeAll_66b at h
  refine j_iload (pc := 66) C dX10_placeAll_66 5 rfl ?_
  refine j_iconst (pc := 68) (v := 4) C dX10_placeAll_68 (by decide) ?_
  refine j_icmp_gt (pc := 69) (tgt := 127) C dX10_placeAll_69 (by decide) (fun c13 => ?_) (fun c13 => ?_)
  · have h := h.1 c13
    obtain ⟨n14, en14⟩ : ∃ z : Int32, z = v4 + 1 := ⟨_, rfl⟩
    have h := h n14 en14
    refine j_iinc (pc := 127) (v := n14) (lv' := [(4, .int n14), (0, .ref (V.2.1 200)), (1, .int v1), (2, .int v2), (3, .int v3), (5, .int v5)]) C dX10_placeAll_127 4 rfl (by rw [en14]; rfl) (by decide) rfl ?_
    refine j_goto (pc := 130) (tgt := 56) C dX10_placeAll_130 (by decide) ?_
    refine gJ.sub [1, 2, 3, 4, 0] rfl ?_
    exact hK56 _ _ _ h
  · have h := h.2 c13
    refine j_aload_n (pc := 72) C dX10_placeAll_72 rfl 0 rfl ?_
    refine j_aload_n (pc := 73) C dX10_placeAll_73 rfl 0 rfl ?_
    refine j_getR (pc := 74) C 200 12 210 (c_200 hM).1 (c_200 hM).2 rfl rfl (by decide) inw_X10 wd_978 dX10_placeAll_74 ?_
    refine j_iload_n (pc := 77) C dX10_placeAll_77 rfl 2 rfl ?_
    obtain ⟨g15, h⟩ := h
    refine j_iald (pc := 78) C 210 (c_210 hM).1 (c_210 hM).2 g15 dX10_placeAll_78 ?_
    refine j_iload_n (pc := 79) C dX10_placeAll_79 rfl 3 rfl ?_
    refine j_iconst (pc := 80) (v := 4) C dX10_placeAll_80 (by decide) ?_
    obtain ⟨g16, h⟩ := h
    refine j_irem (pc := 81) C dX10_placeAll_81 g16 ?_
    refine j_iload_n (pc := 82) C dX10_placeAll_82 rfl 3 rfl ?_
    refine j_iconst (pc := 83) (v := 3) C dX10_placeAll_83 (by decide) ?_
    refine j_icmp_le (pc := 84) (tgt := 91) C dX10_placeAll_84 (by decide) (fun c17 => ?_) (fun c17 => ?_)
    · have h := h.1 c17
      refine j_iconst (pc := 91) (v := 0) C dX10_placeAll_91 (by decide) ?_
      refine gJ.sub [0, 1, 2, 3, 4, 5] rfl ?_
      exact t_X10_placeAll_92 hM C hX hR  hK4 hK21 hK56 hK66 h
    · have h := h.2 c17
      refine j_iconst (pc := 87) (v := 1) C dX10_placeAll_87 (by decide) ?_
      refine j_goto (pc := 88) (tgt := 92) C dX10_placeAll_88 (by decide) ?_
      refine gJ.sub [0, 1, 2, 3, 4, 5] rfl ?_
      exact t_X10_placeAll_92 hM C hX hR  hK4 hK21 hK56 hK66 h
set_option maxRecDepth 100000 in
set_option maxHeartbeats 4000000 in
theorem t_X10_placeAll_66 {X : gX} {l : Launch} {D : va_G} {cy : Nat → ClassId} {nm : String} {V : gV} (hM : gModM V) (C : gC X cX10_placeAll RX10 none 7 rm_X10_placeAll) (hX : gIs X l D cy nm) {I : gI} {J : gL} {Po : gI → Prop} (hR : gR X (gPv V (fun I' J' => J = J' ∧ Po I'))) {v1 : Int32} {v2 : Int32} {v3 : Int32} {v4 : Int32} {v5 : Int32} {K4 : Int32 → Int32 → gI → Prop} {K21 : Int32 → Int32 → gI → Prop} {K56 : Int32 → Int32 → gI → Prop} (hK4 : ∀ (y1 : Int32) (y2 : Int32) (I1 : gI), K4 y1 y2 I1 → gJ X V 0 0 4 [(0, .ref (V.2.1 200)), (1, .int y1), (2, .int y2)] [] I1 J) (hK21 : ∀ (y1 : Int32) (y3 : Int32) (I1 : gI), K21 y1 y3 I1 → gJ X V 0 0 21 [(0, .ref (V.2.1 200)), (1, .int y1), (2, .int v2), (3, .int y3)] [] I1 J) (hK56 : ∀ (y1 : Int32) (y4 : Int32) (I1 : gI), K56 y1 y4 I1 → gJ X V 0 0 56 [(0, .ref (V.2.1 200)), (1, .int y1), (2, .int v2), (3, .int v3), (4, .int y4)] [] I1 J) (h : w_X10_placeAll_66 Po K4 K21 K56 v1 v2 v3 v4 v5 I) : gJ X V 0 0 66 [(0, .ref (V.2.1 200)), (1, .int v1), (2, .int v2), (3, .int v3), (4, .int v4), (5, .int v5)] [] I J := by
  unfold w_X10_placeAll_66 at h
  obtain ⟨Inv, mu, h0, hs⟩ := h
  have key : ∀ (n : Nat) (v1 : Int32) (v5 : Int32) (I : gI), Inv v1 v5 I → mu v1 v5 I < n → gJ X V 0 0 66 [(0, .ref (V.2.1 200)), (1, .int v1), (2, .int v2), (3, .int v3), (4, .int v4), (5, .int v5)] [] I J := by
    intro n
    induction n with
    | zero => intro v1 v5 I hi hn; exact absurd hn (Nat.not_lt_zero _)
    | succ n ih =>
      intro v1 v5 I hi hn
      exact t_X10_placeAll_66b hM C hX hR  hK4 hK21 hK56 (fun u1 u5 I1 hk => ih u1 u5 I1 hk.1 (Nat.lt_of_lt_of_le hk.2 (Nat.le_of_lt_succ hn))) (hs v1 v5 I hi)
  exact key _ v1 v5 I h0 (Nat.lt_succ_self _)
set_option maxRecDepth 100000 in
set_option maxHeartbeats 4000000 in
theorem t_X10_placeAll_56b {X : gX} {l : Launch} {D : va_G} {cy : Nat → ClassId} {nm : String} {V : gV} (hM : gModM V) (C : gC X cX10_placeAll RX10 none 7 rm_X10_placeAll) (hX : gIs X l D cy nm) {I : gI} {J : gL} {Po : gI → Prop} (hR : gR X (gPv V (fun I' J' => J = J' ∧ Po I'))) {v1 : Int32} {v2 : Int32} {v3 : Int32} {v4 : Int32} {K4 : Int32 → Int32 → gI → Prop} {K21 : Int32 → Int32 → gI → Prop} {K56 : Int32 → Int32 → gI → Prop} (hK4 : ∀ (y1 : Int32) (y2 : Int32) (I1 : gI), K4 y1 y2 I1 → gJ X V 0 0 4 [(0, .ref (V.2.1 200)), (1, .int y1), (2, .int y2)] [] I1 J) (hK21 : ∀ (y1 : Int32) (y3 : Int32) (I1 : gI), K21 y1 y3 I1 → gJ X V 0 0 21 [(0, .ref (V.2.1 200)), (1, .int y1), (2, .int v2), (3, .int y3)] [] I1 J) (hK56 : ∀ (y1 : Int32) (y4 : Int32) (I1 : gI), K56 y1 y4 I1 → gJ X V 0 0 56 [(0, .ref (V.2.1 200)), (1, .int y1), (2, .int v2), (3, .int v3), (4, .int y4)] [] I1 J) (h : w_X10_placeAll_56b Po K4 K21 K56 v1 v2 v3 v4 I) : gJ X V 0 0 56 [(0, .ref (V.2.1 200)), (1, .int v1), (2, .int v2), (3, .int v3), (4, .int v4)] [] I J := by
  unfold w_X10_placeAll_56b at h
  refine j_iload (pc := 56) C dX10_placeAll_56 4 rfl ?_
  refine j_iconst (pc := 58) (v := 4) C dX10_placeAll_58 (by decide) ?_
  refine j_icmp_gt (pc := 59) (tgt := 133) C dX10_placeAll_59 (by decide) (fun c11 => ?_) (fun c11 => ?_)
  · have h := h.1 c11
    refine gJ.sub [0, 1, 2, 3] rfl ?_
    exact t_X10_placeAll_133 hM C hX hR  hK4 hK21 h
  · have h := h.2 c11
    refine j_bipush (pc := 62) (v := (-4)) C dX10_placeAll_62 (by decide) ?_
    refine j_istore (pc := 64) (lv' := [(5, .int (-4 : Int32)), (0, .ref (V.2.1 200)), (1, .int v1), (2, .int v2), (3, .int v3), (4, .int v4)]) C dX10_placeAll_64 (by decide) rfl ?_
    refine gJ.sub [1, 2, 3, 4, 5, 0] rfl ?_
    exact t_X10_placeAll_66 hM C hX hR  hK4 hK21 hK56 h
set_option maxRecDepth 100000 in
set_option maxHeartbeats 4000000 in
theorem t_X10_placeAll_56 {X : gX} {l : Launch} {D : va_G} {cy : Nat → ClassId} {nm : String} {V : gV} (hM : gModM V) (C : gC X cX10_placeAll RX10 none 7 rm_X10_placeAll) (hX : gIs X l D cy nm) {I : gI} {J : gL} {Po : gI → Prop} (hR : gR X (gPv V (fun I' J' => J = J' ∧ Po I'))) {v1 : Int32} {v2 : Int32} {v3 : Int32} {v4 : Int32} {K4 : Int32 → Int32 → gI → Prop} {K21 : Int32 → Int32 → gI → Prop} (hK4 : ∀ (y1 : Int32) (y2 : Int32) (I1 : gI), K4 y1 y2 I1 → gJ X V 0 0 4 [(0, .ref (V.2.1 200)), (1, .int y1), (2, .int y2)] [] I1 J) (hK21 : ∀ (y1 : Int32) (y3 : Int32) (I1 : gI), K21 y1 y3 I1 → gJ X V 0 0 21 [(0, .ref (V.2.1 200)), (1, .int y1), (2, .int v2), (3, .int y3)] [] I1 J) (h : w_X10_placeAll_56 Po K4 K21 v1 v2 v3 v4 I) : gJ X V 0 0 56 [(0, .ref (V.2.1 200)), (1, .int v1), (2, .int v2), (3, .int v3), (4, .int v4)] [] I J := by
  unfold w_X10_placeAll_56 at h
  obtain ⟨Inv, mu, h0, hs⟩ := h
  have key : ∀ (n : Nat) (v1 : Int32) (v4 : Int32) (I : gI), Inv v1 v4 I → mu v1 v4 I < n → gJ X V 0 0 56 [(0, .ref (V.2.1 200)), (1, .int v1), (2, .int v2), (3, .int v3), (4, .int v4)] [] I J := by
    intro n
    induction n with
    | zero => intro v1 v4 I hi hn; exact absurd hn (Nat.not_lt_zero _)
    | succ n ih =>
      intro v1 v4 I hi hn
      exact t_X10_placeAll_56b hM C hX hR  hK4 hK21 (fun u1 u4 I1 hk => ih u1 u4 I1 hk.1 (Nat.lt_of_lt_of_le hk.2 (Nat.le_of_lt_succ hn))) (hs v1 v4 I hi)
  exact key _ v1 v4 I h0 (Nat.lt_succ_self _)
set_option maxRecDepth 100000 in
set_option maxHeartbeats 4000000 in
theorem t_X10_placeAll_52 {X : gX} {l : Launch} {D : va_G} {cy : Nat → ClassId} {nm : String} {V : gV} (hM : gModM V) (C : gC X cX10_placeAll RX10 none 7 rm_X10_placeAll) (hX : gIs X l D cy nm) {I : gI} {J : gL} {Po : gI → Prop} (hR : gR X (gPv V (fun I' J' => J = J' ∧ Po I'))) {v1 : Int32} {v2 : Int32} {v3 : Int32} {K4 : Int32 → Int32 → gI → Prop} {K21 : Int32 → Int32 → gI → Prop} (hK4 : ∀ (y1 : Int32) (y2 : Int32) (I1 : gI), K4 y1 y2 I1 → gJ X V 0 0 4 [(0, .ref (V.2.1 200)), (1, .int y1), (2, .int y2)] [] I1 J) (hK21 : ∀ (y1 : Int32) (y3 : Int32) (I1 : gI), K21 y1 y3 I1 → gJ X V 0 0 21 [(0, .ref (V.2.1 200)), (1, .int y1), (2, .int v2), (3, .int y3)] [] I1 J) (h : w_X10_placeAll_52 Po K4 K21 v1 v2 v3 I) : gJ X V 0 0 52 [(0, .ref (V.2.1 200)), (1, .int v1), (2, .int v2), (3, .int v3)] [] I J := by
  unfold w_X10_placeAll_52 at h
  refine j_bipush (pc := 52) (v := (-4)) C dX10_placeAll_52 (by decide) ?_
  refine j_istore (pc := 54) (lv' := [(4, .int (-4 : Int32)), (0, .ref (V.2.1 200)), (1, .int v1), (2, .int v2), (3, .int v3)]) C dX10_placeAll_54 (by decide) rfl ?_
  refine gJ.sub [1, 2, 3, 4, 0] rfl ?_
  exact t_X10_placeAll_56 hM C hX hR  hK4 hK21 h
set_option maxRecDepth 100000 in
set_option maxHeartbeats 4000000 in
theorem t_X10_placeAll_40 {X : gX} {l : Launch} {D : va_G} {cy : Nat → ClassId} {nm : String} {V : gV} (hM : gModM V) (C : gC X cX10_placeAll RX10 none 7 rm_X10_placeAll) (hX : gIs X l D cy nm) {I : gI} {J : gL} {Po : gI → Prop} (hR : gR X (gPv V (fun I' J' => J = J' ∧ Po I'))) {v1 : Int32} {v2 : Int32} {v3 : Int32} {K4 : Int32 → Int32 → gI → Prop} {K21 : Int32 → Int32 → gI → Prop} (hK4 : ∀ (y1 : Int32) (y2 : Int32) (I1 : gI), K4 y1 y2 I1 → gJ X V 0 0 4 [(0, .ref (V.2.1 200)), (1, .int y1), (2, .int y2)] [] I1 J) (hK21 : ∀ (y1 : Int32) (y3 : Int32) (I1 : gI), K21 y1 y3 I1 → gJ X V 0 0 21 [(0, .ref (V.2.1 200)), (1, .int y1), (2, .int v2), (3, .int y3)] [] I1 J) (h : w_X10_placeAll_40 Po K4 K21 v1 v2 v3 I) : gJ X V 0 0 40 [(0, .ref (V.2.1 200)), (1, .int v1), (2, .int v2), (3, .int v3)] [] I J := by
  unfold w_X10_placeAll_40 at h
  refine j_aload_n (pc := 40) C dX10_placeAll_40 rfl 0 rfl ?_
  refine j_getI (pc := 41) C 200 17 (c_200 hM).1 (c_200 hM).2 rfl rfl (by decide) inw_X10 wd_983 dX10_placeAll_41 ?_
  refine j_if_ne (pc := 44) (tgt := 52) C dX10_placeAll_44 (by decide) (fun c10 => ?_) (fun c10 => ?_)
  · have h := h.1 c10
    refine gJ.sub [0, 1, 2, 3] rfl ?_
    exact t_X10_placeAll_52 hM C hX hR  hK4 hK21 h
  · have h := h.2 c10
    refine j_iload_n (pc := 47) C dX10_placeAll_47 rfl 3 rfl ?_
    refine j_iconst (pc := 48) (v := 4) C dX10_placeAll_48 (by decide) ?_
    refine j_icmp_ge (pc := 49) (tgt := 133) C dX10_placeAll_49 (by decide) (fun c24 => ?_) (fun c24 => ?_)
    · have h := h.1 c24
      refine gJ.sub [0, 1, 2, 3] rfl ?_
      exact t_X10_placeAll_133 hM C hX hR  hK4 hK21 h
    · have h := h.2 c24
      refine gJ.sub [0, 1, 2, 3] rfl ?_
      exact t_X10_placeAll_52 hM C hX hR  hK4 hK21 h
set_option maxRecDepth 100000 in
set_option maxHeartbeats 4000000 in
theorem t_X10_placeAll_21b {X : gX} {l : Launch} {D : va_G} {cy : Nat → ClassId} {nm : String} {V : gV} (hM : gModM V) (C : gC X cX10_placeAll RX10 none 7 rm_X10_placeAll) (hX : gIs X l D cy nm) {I : gI} {J : gL} {Po : gI → Prop} (hR : gR X (gPv V (fun I' J' => J = J' ∧ Po I'))) {v1 : Int32} {v2 : Int32} {v3 : Int32} {K4 : Int32 → Int32 → gI → Prop} {K21 : Int32 → Int32 → gI → Prop} (hK4 : ∀ (y1 : Int32) (y2 : Int32) (I1 : gI), K4 y1 y2 I1 → gJ X V 0 0 4 [(0, .ref (V.2.1 200)), (1, .int y1), (2, .int y2)] [] I1 J) (hK21 : ∀ (y1 : Int32) (y3 : Int32) (I1 : gI), K21 y1 y3 I1 → gJ X V 0 0 21 [(0, .ref (V.2.1 200)), (1, .int y1), (2, .int v2), (3, .int y3)] [] I1 J) (h : w_X10_placeAll_21b Po K4 K21 v1 v2 v3 I) : gJ X V 0 0 21 [(0, .ref (V.2.1 200)), (1, .int v1), (2, .int v2), (3, .int v3)] [] I J := by
  unfold w_X10_placeAll_21b at h
  refine j_iload_n (pc := 21) C dX10_placeAll_21 rfl 3 rfl ?_
  refine j_bipush (pc := 22) (v := 8) C dX10_placeAll_22 (by decide) ?_
  refine j_icmp_ge (pc := 24) (tgt := 139) C dX10_placeAll_24 (by decide) (fun c7 => ?_) (fun c7 => ?_)
  · have h := h.1 c7
    obtain ⟨n8, en8⟩ : ∃ z : Int32, z = v2 + 1 := ⟨_, rfl⟩
    have h := h n8 en8
    refine j_iinc (pc := 139) (v := n8) (lv' := [(2, .int n8), (0, .ref (V.2.1 200)), (1, .int v1), (3, .int v3)]) C dX10_placeAll_139 2 rfl (by rw [en8]; rfl) (by decide) rfl ?_
    refine j_goto (pc := 142) (tgt := 4) C dX10_placeAll_142 (by decide) ?_
    refine gJ.sub [1, 2, 0] rfl ?_
    exact hK4 _ _ _ h
  · have h := h.2 c7
    refine j_aload_n (pc := 27) C dX10_placeAll_27 rfl 0 rfl ?_
    refine j_getI (pc := 28) C 200 16 (c_200 hM).1 (c_200 hM).2 rfl rfl (by decide) inw_X10 wd_982 dX10_placeAll_28 ?_
    refine j_if_ne (pc := 31) (tgt := 40) C dX10_placeAll_31 (by decide) (fun c9 => ?_) (fun c9 => ?_)
    · have h := h.1 c9
      refine gJ.sub [0, 1, 2, 3] rfl ?_
      exact t_X10_placeAll_40 hM C hX hR  hK4 hK21 h
    · have h := h.2 c9
      refine j_iload_n (pc := 34) C dX10_placeAll_34 rfl 3 rfl ?_
      refine j_iconst (pc := 35) (v := 4) C dX10_placeAll_35 (by decide) ?_
      obtain ⟨g25, h⟩ := h
      refine j_irem (pc := 36) C dX10_placeAll_36 g25 ?_
      refine j_if_ne (pc := 37) (tgt := 133) C dX10_placeAll_37 (by decide) (fun c26 => ?_) (fun c26 => ?_)
      · have h := h.1 c26
        refine gJ.sub [0, 1, 2, 3] rfl ?_
        exact t_X10_placeAll_133 hM C hX hR  hK4 hK21 h
      · have h := h.2 c26
        refine gJ.sub [0, 1, 2, 3] rfl ?_
        exact t_X10_placeAll_40 hM C hX hR  hK4 hK21 h
set_option maxRecDepth 100000 in
set_option maxHeartbeats 4000000 in
theorem t_X10_placeAll_21 {X : gX} {l : Launch} {D : va_G} {cy : Nat → ClassId} {nm : String} {V : gV} (hM : gModM V) (C : gC X cX10_placeAll RX10 none 7 rm_X10_placeAll) (hX : gIs X l D cy nm) {I : gI} {J : gL} {Po : gI → Prop} (hR : gR X (gPv V (fun I' J' => J = J' ∧ Po I'))) {v1 : Int32} {v2 : Int32} {v3 : Int32} {K4 : Int32 → Int32 → gI → Prop} (hK4 : ∀ (y1 : Int32) (y2 : Int32) (I1 : gI), K4 y1 y2 I1 → gJ X V 0 0 4 [(0, .ref (V.2.1 200)), (1, .int y1), (2, .int y2)] [] I1 J) (h : w_X10_placeAll_21 Po K4 v1 v2 v3 I) : gJ X V 0 0 21 [(0, .ref (V.2.1 200)), (1, .int v1), (2, .int v2), (3, .int v3)] [] I J := by
  unfold w_X10_placeAll_21 at h
  obtain ⟨Inv, mu, h0, hs⟩ := h
  have key : ∀ (n : Nat) (v1 : Int32) (v3 : Int32) (I : gI), Inv v1 v3 I → mu v1 v3 I < n → gJ X V 0 0 21 [(0, .ref (V.2.1 200)), (1, .int v1), (2, .int v2), (3, .int v3)] [] I J := by
    intro n
    induction n with
    | zero => intro v1 v3 I hi hn; exact absurd hn (Nat.not_lt_zero _)
    | succ n ih =>
      intro v1 v3 I hi hn
      exact t_X10_placeAll_21b hM C hX hR  hK4 (fun u1 u3 I1 hk => ih u1 u3 I1 hk.1 (Nat.lt_of_lt_of_le hk.2 (Nat.le_of_lt_succ hn))) (hs v1 v3 I hi)
  exact key _ v1 v3 I h0 (Nat.lt_succ_self _)
set_option maxRecDepth 100000 in
set_option maxHeartbeats 4000000 in
theorem t_X10_placeAll_4b {X : gX} {l : Launch} {D : va_G} {cy : Nat → ClassId} {nm : String} {V : gV} (hM : gModM V) (C : gC X cX10_placeAll RX10 none 7 rm_X10_placeAll) (hX : gIs X l D cy nm) {I : gI} {J : gL} {Po : gI → Prop} (hR : gR X (gPv V (fun I' J' => J = J' ∧ Po I'))) {v1 : Int32} {v2 : Int32} {K4 : Int32 → Int32 → gI → Prop} (hK4 : ∀ (y1 : Int32) (y2 : Int32) (I1 : gI), K4 y1 y2 I1 → gJ X V 0 0 4 [(0, .ref (V.2.1 200)), (1, .int y1), (2, .int y2)] [] I1 J) (h : w_X10_placeAll_4b Po K4 v1 v2 I) : gJ X V 0 0 4 [(0, .ref (V.2.1 200)), (1, .int v1), (2, .int v2)] [] I J := by
  unfold w_X10_placeAll_4b at h
  refine j_iload_n (pc := 4) C dX10_placeAll_4 rfl 2 rfl ?_
  refine j_aload_n (pc := 5) C dX10_placeAll_5 rfl 0 rfl ?_
  refine j_getI (pc := 6) C 200 11 (c_200 hM).1 (c_200 hM).2 rfl rfl (by decide) inw_X10 wd_977 dX10_placeAll_6 ?_
  refine j_icmp_ge (pc := 9) (tgt := 145) C dX10_placeAll_9 (by decide) (fun c1 => ?_) (fun c1 => ?_)
  · have h := h.1 c1
    refine j_aload_n (pc := 145) C dX10_placeAll_145 rfl 0 rfl ?_
    refine j_getR (pc := 146) C 200 19 212 (c_200 hM).1 (c_200 hM).2 rfl rfl (by decide) inw_X10 wd_985 dX10_placeAll_146 ?_
    refine j_aload_n (pc := 149) C dX10_placeAll_149 rfl 0 rfl ?_
    refine j_getI (pc := 150) C 200 11 (c_200 hM).1 (c_200 hM).2 rfl rfl (by decide) inw_X10 wd_977 dX10_placeAll_150 ?_
    refine j_iload_n (pc := 153) C dX10_placeAll_153 rfl 1 rfl ?_
    obtain ⟨g2, h⟩ := h
    refine j_iast (pc := 154) C 212 (c_212 hM).1 (c_212 hM).2 g2 dX10_placeAll_154 ?_
    refine gJ.nmI (fun I3 eI3 => ?_)
    have h := h I3 eI3
    refine j_aload_n (pc := 155) C dX10_placeAll_155 rfl 0 rfl ?_
    refine j_callV (pc := 156) (As := []) (st := []) C hX 200 (m_X10_sortLow hM  h) (c_200 hM).1 (c_200 hM).2 rfl ok_X10_sortLow wd_1198 wd_1200 wd_53 ⟨by decide, by decide⟩ rfl rfl (Nat.le_of_ble_eq_true rfl) ⟨Nat.le_refl 0, Nat.le_refl 0⟩ dX10_placeAll_156 (fun r V1 I4 J1 hp => ?_)
    obtain ⟨rfl, rfl, rfl, h⟩ := hp
    show gJ X V 0 0 159 _ [] _ _
    exact j_vret (pc := 159) C hR (Nat.zero_le _) (Nat.zero_le _) dX10_placeAll_159 ⟨rfl, rfl, rfl, h⟩
  · have h := h.2 c1
    refine j_aload_n (pc := 12) C dX10_placeAll_12 rfl 0 rfl ?_
    refine j_getR (pc := 13) C 200 19 212 (c_200 hM).1 (c_200 hM).2 rfl rfl (by decide) inw_X10 wd_985 dX10_placeAll_13 ?_
    refine j_iload_n (pc := 16) C dX10_placeAll_16 rfl 2 rfl ?_
    refine j_iload_n (pc := 17) C dX10_placeAll_17 rfl 1 rfl ?_
    obtain ⟨g5, h⟩ := h
    refine j_iast (pc := 18) C 212 (c_212 hM).1 (c_212 hM).2 g5 dX10_placeAll_18 ?_
    refine gJ.nmI (fun I6 eI6 => ?_)
    have h := h I6 eI6
    refine j_iconst (pc := 19) (v := 0) C dX10_placeAll_19 (by decide) ?_
    refine j_istore_n (pc := 20) (lv' := [(3, .int (0 : Int32)), (0, .ref (V.2.1 200)), (1, .int v1), (2, .int v2)]) C dX10_placeAll_20 rfl (by decide) rfl ?_
    refine gJ.sub [1, 2, 3, 0] rfl ?_
    exact t_X10_placeAll_21 hM C hX hR  hK4 h
set_option maxRecDepth 100000 in
set_option maxHeartbeats 4000000 in
theorem t_X10_placeAll_4 {X : gX} {l : Launch} {D : va_G} {cy : Nat → ClassId} {nm : String} {V : gV} (hM : gModM V) (C : gC X cX10_placeAll RX10 none 7 rm_X10_placeAll) (hX : gIs X l D cy nm) {I : gI} {J : gL} {Po : gI → Prop} (hR : gR X (gPv V (fun I' J' => J = J' ∧ Po I'))) {v1 : Int32} {v2 : Int32} (h : w_X10_placeAll_4 Po v1 v2 I) : gJ X V 0 0 4 [(0, .ref (V.2.1 200)), (1, .int v1), (2, .int v2)] [] I J := by
  unfold w_X10_placeAll_4 at h
  obtain ⟨Inv, mu, h0, hs⟩ := h
  have key : ∀ (n : Nat) (v1 : Int32) (v2 : Int32) (I : gI), Inv v1 v2 I → mu v1 v2 I < n → gJ X V 0 0 4 [(0, .ref (V.2.1 200)), (1, .int v1), (2, .int v2)] [] I J := by
    intro n
    induction n with
    | zero => intro v1 v2 I hi hn; exact absurd hn (Nat.not_lt_zero _)
    | succ n ih =>
      intro v1 v2 I hi hn
      exact t_X10_placeAll_4b hM C hX hR   (fun u1 u2 I1 hk => ih u1 u2 I1 hk.1 (Nat.lt_of_lt_of_le hk.2 (Nat.le_of_lt_succ hn))) (hs v1 v2 I hi)
  exact key _ v1 v2 I h0 (Nat.lt_succ_self _)
set_option maxRecDepth 100000 in
set_option maxHeartbeats 4000000 in
theorem m_X10_placeAll {l : Launch} {D : va_G} {cy : Nat → ClassId} {V : gV} (hM : gModM V) {I : gI} {J : gL} {Po : gI → Prop} (h : wp_X10_placeAll I Po) : gMet l D cy yX10_placeAll cX10_placeAll 7 none rm_X10_placeAll V [.ref (V.2.1 200)] I J (gPv V (fun I' J' => J = J' ∧ Po I')) := by
  refine gMet.of (by decide) (Nat.le_of_ble_eq_true rfl) (fun X hX C hR => ?_)
  have C : gC X cX10_placeAll RX10 none 7 rm_X10_placeAll := C
  show gJ X V 0 0 0 [(0, .ref (V.2.1 200))] [] I J
  unfold wp_X10_placeAll at h
  refine j_iconst (pc := 0) (v := 0) C dX10_placeAll_0 (by decide) ?_
  refine j_istore_n (pc := 1) (lv' := [(1, .int (0 : Int32)), (0, .ref (V.2.1 200))]) C dX10_placeAll_1 rfl (by decide) rfl ?_
  refine j_iconst (pc := 2) (v := 0) C dX10_placeAll_2 (by decide) ?_
  refine j_istore_n (pc := 3) (lv' := [(2, .int (0 : Int32)), (1, .int (0 : Int32)), (0, .ref (V.2.1 200))]) C dX10_placeAll_3 rfl (by decide) rfl ?_
  refine gJ.sub [2, 1, 0] rfl ?_
  exact t_X10_placeAll_4 hM C hX hR   h
/-! TileRulesModel.placements(I)I -/
abbrev rm_X10_placements : Room := { frames := 3, cells := 0, slots := 0, locals := 79 }
theorem ok_X10_placements : gOk yX10_placements cX10_placements 2 (some .int) 1 := ⟨wd_1185, wd_74, by decide +kernel⟩
def wp_X10_placements (a1 : Int32) (I : gI) (Po : Int32 → gI → Prop) : Prop :=
  wp_X10_isIn a1 (0 : Int32) ((I 200 11) - (1 : Int32)) (fun r1 => (¬ r1 = 0 → wp_X10_placeAll I (fun I3 => vp_in (a1 + (1 : Int32)) 7 ∧ vp_in a1 7 ∧ Po ((I3 212 ((a1 + (1 : Int32))).toNatClampNeg) - (I3 212 (a1).toNatClampNeg)) I3)) ∧ (r1 = 0 → Po (-2 : Int32) I))
set_option maxRecDepth 100000 in
set_option maxHeartbeats 4000000 in
theorem m_X10_placements {l : Launch} {D : va_G} {cy : Nat → ClassId} {V : gV} (hM : gModM V) {a1 : Int32} {I : gI} {J : gL} {Po : Int32 → gI → Prop} (h : wp_X10_placements a1 I Po) : gMet l D cy yX10_placements cX10_placements 2 (some .int) rm_X10_placements V [.ref (V.2.1 200), .int a1] I J (gPi V (fun x I' J' => J = J' ∧ Po x I')) := by
  refine gMet.of (by decide) (Nat.le_of_ble_eq_true rfl) (fun X hX C hR => ?_)
  have C : gC X cX10_placements RX10 (some .int) 2 rm_X10_placements := C
  show gJ X V 0 0 0 [(0, .ref (V.2.1 200)), (1, .int a1)] [] I J
  unfold wp_X10_placements at h
  refine j_iload_n (pc := 0) C dX10_placements_0 rfl 1 rfl ?_
  refine j_iconst (pc := 1) (v := 0) C dX10_placements_1 (by decide) ?_
  refine j_aload_n (pc := 2) C dX10_placements_2 rfl 0 rfl ?_
  refine j_getI (pc := 3) C 200 11 (c_200 hM).1 (c_200 hM).2 rfl rfl (by decide) inw_X10 wd_977 dX10_placements_3 ?_
  refine j_iconst (pc := 6) (v := 1) C dX10_placements_6 (by decide) ?_
  refine j_isub (pc := 7) C dX10_placements_7 ?_
  refine j_callS (pc := 8) (As := [.int a1, .int (0 : Int32), .int ((I 200 11) - (1 : Int32))]) (st := []) C hX (m_X10_isIn   h) ok_X10_isIn wd_1108 wd_1109 ⟨by decide, by decide⟩ rfl rfl (Nat.le_of_ble_eq_true rfl) ⟨Nat.le_refl 0, Nat.le_refl 0⟩ dX10_placements_8 (fun r V1 I1 J1 hp => ?_)
  obtain ⟨r1, rfl, rfl, rfl, rfl, h⟩ := hp
  show gJ X V 0 0 11 _ [.int r1] _ _
  refine j_if_ne (pc := 11) (tgt := 17) C dX10_placements_11 (by decide) (fun c2 => ?_) (fun c2 => ?_)
  · have h := h.1 c2
    refine j_aload_n (pc := 17) C dX10_placements_17 rfl 0 rfl ?_
    refine j_callV (pc := 18) (As := []) (st := []) C hX 200 (m_X10_placeAll hM  h) (c_200 hM).1 (c_200 hM).2 rfl ok_X10_placeAll wd_1186 wd_1188 wd_50 ⟨by decide, by decide⟩ rfl rfl (Nat.le_of_ble_eq_true rfl) ⟨Nat.le_refl 0, Nat.le_refl 0⟩ dX10_placements_18 (fun r V1 I3 J1 hp => ?_)
    obtain ⟨rfl, rfl, rfl, h⟩ := hp
    show gJ X V 0 0 21 _ [] _ _
    refine j_aload_n (pc := 21) C dX10_placements_21 rfl 0 rfl ?_
    refine j_getR (pc := 22) C 200 19 212 (c_200 hM).1 (c_200 hM).2 rfl rfl (by decide) inw_X10 wd_985 dX10_placements_22 ?_
    refine j_iload_n (pc := 25) C dX10_placements_25 rfl 1 rfl ?_
    refine j_iconst (pc := 26) (v := 1) C dX10_placements_26 (by decide) ?_
    refine j_iadd (pc := 27) C dX10_placements_27 ?_
    obtain ⟨g4, h⟩ := h
    refine j_iald (pc := 28) C 212 (c_212 hM).1 (c_212 hM).2 g4 dX10_placements_28 ?_
    refine j_aload_n (pc := 29) C dX10_placements_29 rfl 0 rfl ?_
    refine j_getR (pc := 30) C 200 19 212 (c_200 hM).1 (c_200 hM).2 rfl rfl (by decide) inw_X10 wd_985 dX10_placements_30 ?_
    refine j_iload_n (pc := 33) C dX10_placements_33 rfl 1 rfl ?_
    obtain ⟨g5, h⟩ := h
    refine j_iald (pc := 34) C 212 (c_212 hM).1 (c_212 hM).2 g5 dX10_placements_34 ?_
    refine j_isub (pc := 35) C dX10_placements_35 ?_
    exact j_iret (pc := 36) C hR (Nat.zero_le _) (Nat.zero_le _) dX10_placements_36 ⟨_, rfl, rfl, rfl, h⟩
  · have h := h.2 c2
    refine j_bipush (pc := 14) (v := (-2)) C dX10_placements_14 (by decide) ?_
    exact j_iret (pc := 16) C hR (Nat.zero_le _) (Nat.zero_le _) dX10_placements_16 ⟨_, rfl, rfl, rfl, h⟩
/-! TileRulesModel.firstFree(I)I -/
abbrev rm_X10_firstFree : Room := { frames := 0, cells := 0, slots := 0, locals := 0 }
theorem ok_X10_firstFree : gOk yX10_firstFree cX10_firstFree 2 (some .int) 1 := ⟨wd_1216, wd_74, by decide +kernel⟩
def w_X10_firstFree_2b  (Po : Int32 → Prop) (K2 : Int32 → Prop) (v0 : Int32) (v1 : Int32) : Prop :=
  (¬ ((v0 >>> (v1 &&& 31)) &&& (1 : Int32)) = (1 : Int32) → Po v1) ∧ (((v0 >>> (v1 &&& 31)) &&& (1 : Int32)) = (1 : Int32) → ∀ n2 : Int32, n2 = v1 + 1 → K2 n2)
def w_X10_firstFree_2  (Po : Int32 → Prop)  (v0 : Int32) (v1 : Int32) : Prop :=
  ∃ (Inv : Int32 → Prop) (mu : Int32 → Nat), Inv v1 ∧ ∀ (v1 : Int32), Inv v1 → w_X10_firstFree_2b  Po  (fun u1 => Inv u1 ∧ mu u1 < mu v1) v0 v1
def wp_X10_firstFree (a0 : Int32) (Po : Int32 → Prop) : Prop :=
  w_X10_firstFree_2 Po a0 (0 : Int32)
set_option maxRecDepth 100000 in
set_option maxHeartbeats 4000000 in
theorem t_X10_firstFree_2b {X : gX} {l : Launch} {D : va_G} {cy : Nat → ClassId} {nm : String} {V : gV} (C : gC X cX10_firstFree RX10 (some .int) 2 rm_X10_firstFree) (hX : gIs X l D cy nm) {I : gI} {J : gL} {Po : Int32 → Prop} (hR : gR X (gPi V (fun x I' J' => I = I' ∧ J = J' ∧ Po x))) {v0 : Int32} {v1 : Int32} {K2 : Int32 → Prop} (hK2 : ∀ (y1 : Int32), K2 y1 → gJ X V 0 0 2 [(0, .int v0), (1, .int y1)] [] I J) (h : w_X10_firstFree_2b Po K2 v0 v1) : gJ X V 0 0 2 [(0, .int v0), (1, .int v1)] [] I J := by
  unfold w_X10_firstFree_2b at h
  refine j_iload_n (pc := 2) C dX10_firstFree_2 rfl 0 rfl ?_
  refine j_iload_n (pc := 3) C dX10_firstFree_3 rfl 1 rfl ?_
  refine j_ishr (pc := 4) C dX10_firstFree_4 ?_
  refine j_iconst (pc := 5) (v := 1) C dX10_firstFree_5 (by decide) ?_
  refine j_iand (pc := 6) C dX10_firstFree_6 ?_
  refine j_iconst (pc := 7) (v := 1) C dX10_firstFree_7 (by decide) ?_
  refine j_icmp_ne (pc := 8) (tgt := 17) C dX10_firstFree_8 (by decide) (fun c1 => ?_) (fun c1 => ?_)
  · have h := h.1 c1
    refine j_iload_n (pc := 17) C dX10_firstFree_17 rfl 1 rfl ?_
    exact j_iret (pc := 18) C hR (Nat.zero_le _) (Nat.zero_le _) dX10_firstFree_18 ⟨_, rfl, rfl, rfl, rfl, h⟩
  · have h := h.2 c1
    obtain ⟨n2, en2⟩ : ∃ z : Int32, z = v1 + 1 := ⟨_, rfl⟩
    have h := h n2 en2
    refine j_iinc (pc := 11) (v := n2) (lv' := [(1, .int n2), (0, .int v0)]) C dX10_firstFree_11 1 rfl (by rw [en2]; rfl) (by decide) rfl ?_
    refine j_goto (pc := 14) (tgt := 2) C dX10_firstFree_14 (by decide) ?_
    refine gJ.sub [1, 0] rfl ?_
    exact hK2 _ h
set_option maxRecDepth 100000 in
set_option maxHeartbeats 4000000 in
theorem t_X10_firstFree_2 {X : gX} {l : Launch} {D : va_G} {cy : Nat → ClassId} {nm : String} {V : gV} (C : gC X cX10_firstFree RX10 (some .int) 2 rm_X10_firstFree) (hX : gIs X l D cy nm) {I : gI} {J : gL} {Po : Int32 → Prop} (hR : gR X (gPi V (fun x I' J' => I = I' ∧ J = J' ∧ Po x))) {v0 : Int32} {v1 : Int32} (h : w_X10_firstFree_2 Po v0 v1) : gJ X V 0 0 2 [(0, .int v0), (1, .int v1)] [] I J := by
  unfold w_X10_firstFree_2 at h
  obtain ⟨Inv, mu, h0, hs⟩ := h
  have key : ∀ (n : Nat) (v1 : Int32), Inv v1 → mu v1 < n → gJ X V 0 0 2 [(0, .int v0), (1, .int v1)] [] I J := by
    intro n
    induction n with
    | zero => intro v1 hi hn; exact absurd hn (Nat.not_lt_zero _)
    | succ n ih =>
      intro v1 hi hn
      exact t_X10_firstFree_2b  C hX hR   (fun u1 hk => ih u1 hk.1 (Nat.lt_of_lt_of_le hk.2 (Nat.le_of_lt_succ hn))) (hs v1 hi)
  exact key _ v1 h0 (Nat.lt_succ_self _)
set_option maxRecDepth 100000 in
set_option maxHeartbeats 4000000 in
theorem m_X10_firstFree {l : Launch} {D : va_G} {cy : Nat → ClassId} {V : gV} {a0 : Int32} {I : gI} {J : gL} {Po : Int32 → Prop} (h : wp_X10_firstFree a0 Po) : gMet l D cy yX10_firstFree cX10_firstFree 2 (some .int) rm_X10_firstFree V [.int a0] I J (gPi V (fun x I' J' => I = I' ∧ J = J' ∧ Po x)) := by
  refine gMet.of (by decide) (Nat.le_of_ble_eq_true rfl) (fun X hX C hR => ?_)
  have C : gC X cX10_firstFree RX10 (some .int) 2 rm_X10_firstFree := C
  show gJ X V 0 0 0 [(0, .int a0)] [] I J
  unfold wp_X10_firstFree at h
  refine j_iconst (pc := 0) (v := 0) C dX10_firstFree_0 (by decide) ?_
  refine j_istore_n (pc := 1) (lv' := [(1, .int (0 : Int32)), (0, .int a0)]) C dX10_firstFree_1 rfl (by decide) rfl ?_
  refine gJ.sub [1, 0] rfl ?_
  exact t_X10_firstFree_2  C hX hR   h
/-! TileRulesModel.tellLeft()V -/
abbrev rm_X10_tellLeft : Room := { frames := 3, cells := 0, slots := 0, locals := 79 }
theorem ok_X10_tellLeft : gOk yX10_tellLeft cX10_tellLeft 6 none 0 := ⟨wd_1209, wd_74, by decide +kernel⟩
def w_X10_tellLeft_300  (Po : gI → gL → Prop) (K130 : Int32 → gI → gL → Prop) (v1 : Int32) (v2 : Int32) (I : gI) (J : gL) : Prop :=
  ∀ n15 : Int32, n15 = v2 + (-1) → K130 n15 I J
def w_X10_tellLeft_294  (Po : gI → gL → Prop) (K130 : Int32 → gI → gL → Prop) (K199 : Int32 → gI → gL → Prop) (v1 : Int32) (v2 : Int32) (v3 : Int32) (v4 : Int32) (I : gI) (J : gL) : Prop :=
  ∀ n25 : Int32, n25 = v4 + 1 → K199 n25 I J
def w_X10_tellLeft_293  (Po : gI → gL → Prop) (K130 : Int32 → gI → gL → Prop) (K199 : Int32 → gI → gL → Prop) (v1 : Int32) (v2 : Int32) (v3 : Int32) (v4 : Int32) (s0 : Int32) (s1 : Int32) (I : gI) (J : gL) : Prop :=
  vp_in s1 1048576 ∧ ∀ I37 : gI, I37 = gup I 217 (s1).toNatClampNeg (vp_nar .byte s0) → w_X10_tellLeft_294 Po K130 K199 v1 v2 v3 v4 I37 J
def w_X10_tellLeft_199b  (Po : gI → gL → Prop) (K130 : Int32 → gI → gL → Prop) (K199 : Int32 → gI → gL → Prop) (v1 : Int32) (v2 : Int32) (v3 : Int32) (v4 : Int32) (I : gI) (J : gL) : Prop :=
  vp_in (v3 + (1 : Int32)) 22 ∧ ((I 215 ((v3 + (1 : Int32))).toNatClampNeg) ≤ v4 → w_X10_tellLeft_300 Po K130 v1 v2 I J) ∧ (¬ (I 215 ((v3 + (1 : Int32))).toNatClampNeg) ≤ v4 → vp_in v4 1200 ∧ (¬ ((I 213 (v4).toNatClampNeg) &&& v2) = 0 → w_X10_tellLeft_294 Po K130 K199 v1 v2 v3 v4 I J) ∧ (((I 213 (v4).toNatClampNeg) &&& v2) = 0 → vp_in v4 1200 ∧ ∀ n27 : Int32, n27 = (v2 ||| (I 213 (v4).toNatClampNeg)) → vp_in v2 1048576 ∧ vp_in n27 1048576 ∧ vp_in v2 1048576 ∧ ∀ J31 : gL, J31 = gup J 216 (v2).toNatClampNeg ((J 216 (v2).toNatClampNeg) + (J 216 (n27).toNatClampNeg)) → vp_in n27 1048576 ∧ vp_in v2 1048576 ∧ ((I 217 (v2).toNatClampNeg) ≤ ((I 217 (n27).toNatClampNeg) + (1 : Int32)) → vp_in v2 1048576 ∧ w_X10_tellLeft_293 Po K130 K199 v1 v2 v3 v4 (I 217 (v2).toNatClampNeg) v2 I J31) ∧ (¬ (I 217 (v2).toNatClampNeg) ≤ ((I 217 (n27).toNatClampNeg) + (1 : Int32)) → vp_in n27 1048576 ∧ w_X10_tellLeft_293 Po K130 K199 v1 v2 v3 v4 ((((I 217 (n27).toNatClampNeg) + (1 : Int32))).toInt8.toInt32) v2 I J31)))
def w_X10_tellLeft_199  (Po : gI → gL → Prop) (K130 : Int32 → gI → gL → Prop) (v1 : Int32) (v2 : Int32) (v3 : Int32) (v4 : Int32) (I : gI) (J : gL) : Prop :=
  ∃ (Inv : Int32 → gI → gL → Prop) (mu : Int32 → gI → gL → Nat), Inv v4 I J ∧ ∀ (v4 : Int32) (I : gI) (J : gL), Inv v4 I J → w_X10_tellLeft_199b  Po K130 (fun u4 I1 J1 => Inv u4 I1 J1 ∧ mu u4 I1 J1 < mu v4 I J) v1 v2 v3 v4 I J
def w_X10_tellLeft_170  (Po : gI → gL → Prop) (K130 : Int32 → gI → gL → Prop) (v1 : Int32) (v2 : Int32) (s0 : Int32) (s1 : Int32) (I : gI) (J : gL) : Prop :=
  vp_in s1 1048576 ∧ ∀ I13 : gI, I13 = gup I 217 (s1).toNatClampNeg (vp_nar .byte ((s0).toInt8.toInt32)) → (v2 = v1 → w_X10_tellLeft_300 Po K130 v1 v2 I13 J) ∧ (¬ v2 = v1 → vp_in v2 1048576 ∧ ((I13 218 (v2).toNatClampNeg) = 0 → w_X10_tellLeft_300 Po K130 v1 v2 I13 J) ∧ (¬ (I13 218 (v2).toNatClampNeg) = 0 → wp_X10_firstFree v2 (fun r18 => vp_in r18 22 ∧ ∀ n20 : Int32, n20 = (I13 215 (r18).toNatClampNeg) → w_X10_tellLeft_199 Po K130 v1 v2 r18 n20 I13 J)))
def w_X10_tellLeft_153  (Po : gI → gL → Prop) (K130 : Int32 → gI → gL → Prop) (v1 : Int32) (v2 : Int32) (s0 : Int64) (s1 : Int32) (I : gI) (J : gL) : Prop :=
  vp_in s1 1048576 ∧ ∀ J10 : gL, J10 = gup J 216 (s1).toNatClampNeg s0 → (¬ v2 = v1 → w_X10_tellLeft_170 Po K130 v1 v2 (100 : Int32) v2 I J10) ∧ (v2 = v1 → w_X10_tellLeft_170 Po K130 v1 v2 (0 : Int32) v2 I J10)
def w_X10_tellLeft_130b  (Po : gI → gL → Prop) (K130 : Int32 → gI → gL → Prop) (v1 : Int32) (v2 : Int32) (I : gI) (J : gL) : Prop :=
  (v2 < (I 200 15) → Po I J) ∧ (¬ v2 < (I 200 15) → (¬ v2 = v1 → w_X10_tellLeft_153 Po K130 v1 v2 (0 : Int64) v2 I J) ∧ (v2 = v1 → w_X10_tellLeft_153 Po K130 v1 v2 (1 : Int64) v2 I J))
def w_X10_tellLeft_130  (Po : gI → gL → Prop)  (v1 : Int32) (v2 : Int32) (I : gI) (J : gL) : Prop :=
  ∃ (Inv : Int32 → gI → gL → Prop) (mu : Int32 → gI → gL → Nat), Inv v2 I J ∧ ∀ (v2 : Int32) (I : gI) (J : gL), Inv v2 I J → w_X10_tellLeft_130b  Po  (fun u2 I1 J1 => Inv u2 I1 J1 ∧ mu u2 I1 J1 < mu v2 I J) v1 v2 I J
def w_X10_tellLeft_122  (Po : gI → gL → Prop) (K49 : Int32 → gI → Prop) (v1 : Int32) (v2 : Int32) (I : gI) (J : gL) : Prop :=
  ∀ n41 : Int32, n41 = v2 + 1 → K49 n41 I
def w_X10_tellLeft_116  (Po : gI → gL → Prop) (K49 : Int32 → gI → Prop) (K76 : Int32 → gI → Prop) (v1 : Int32) (v2 : Int32) (v3 : Int32) (v4 : Int32) (I : gI) (J : gL) : Prop :=
  ∀ n49 : Int32, n49 = v4 + 1 → K76 n49 I
def w_X10_tellLeft_76b  (Po : gI → gL → Prop) (K49 : Int32 → gI → Prop) (K76 : Int32 → gI → Prop) (v1 : Int32) (v2 : Int32) (v3 : Int32) (v4 : Int32) (I : gI) (J : gL) : Prop :=
  vp_in (v3 + (1 : Int32)) 22 ∧ ((I 215 ((v3 + (1 : Int32))).toNatClampNeg) ≤ v4 → w_X10_tellLeft_122 Po K49 v1 v2 I J) ∧ (¬ (I 215 ((v3 + (1 : Int32))).toNatClampNeg) ≤ v4 → vp_in v4 1200 ∧ (¬ ((I 213 (v4).toNatClampNeg) &&& v2) = 0 → w_X10_tellLeft_116 Po K49 K76 v1 v2 v3 v4 I J) ∧ (((I 213 (v4).toNatClampNeg) &&& v2) = 0 → vp_in v4 1200 ∧ vp_in (v2 ||| (I 213 (v4).toNatClampNeg)) 1048576 ∧ ∀ I52 : gI, I52 = gup I 218 ((v2 ||| (I 213 (v4).toNatClampNeg))).toNatClampNeg (vp_nar .boolean (1 : Int32)) → w_X10_tellLeft_116 Po K49 K76 v1 v2 v3 v4 I52 J))
def w_X10_tellLeft_76  (Po : gI → gL → Prop) (K49 : Int32 → gI → Prop) (v1 : Int32) (v2 : Int32) (v3 : Int32) (v4 : Int32) (I : gI) (J : gL) : Prop :=
  ∃ (Inv : Int32 → gI → Prop) (mu : Int32 → gI → Nat), Inv v4 I ∧ ∀ (v4 : Int32) (I : gI), Inv v4 I → w_X10_tellLeft_76b  Po K49 (fun u4 I1 => Inv u4 I1 ∧ mu u4 I1 < mu v4 I) v1 v2 v3 v4 I J
def w_X10_tellLeft_49b  (Po : gI → gL → Prop) (K49 : Int32 → gI → Prop) (v1 : Int32) (v2 : Int32) (I : gI) (J : gL) : Prop :=
  (v1 ≤ v2 → w_X10_tellLeft_130 Po v1 v1 I J) ∧ (¬ v1 ≤ v2 → vp_in v2 1048576 ∧ ((I 218 (v2).toNatClampNeg) = 0 → w_X10_tellLeft_122 Po K49 v1 v2 I J) ∧ (¬ (I 218 (v2).toNatClampNeg) = 0 → wp_X10_firstFree v2 (fun r42 => vp_in r42 22 ∧ ∀ n44 : Int32, n44 = (I 215 (r42).toNatClampNeg) → w_X10_tellLeft_76 Po K49 v1 v2 r42 n44 I J)))
def w_X10_tellLeft_49  (Po : gI → gL → Prop)  (v1 : Int32) (v2 : Int32) (I : gI) (J : gL) : Prop :=
  ∃ (Inv : Int32 → gI → Prop) (mu : Int32 → gI → Nat), Inv v2 I ∧ ∀ (v2 : Int32) (I : gI), Inv v2 I → w_X10_tellLeft_49b  Po  (fun u2 I1 => Inv u2 I1 ∧ mu u2 I1 < mu v2 I) v1 v2 I J
def w_X10_tellLeft_37  (Po : gI → gL → Prop) (K14 : Int32 → gI → Prop) (v1 : Int32) (v2 : Int32) (s0 : Int32) (s1 : Int32) (I : gI) (J : gL) : Prop :=
  vp_in s1 1048576 ∧ ∀ I55 : gI, I55 = gup I 218 (s1).toNatClampNeg (vp_nar .boolean s0) → ∀ n56 : Int32, n56 = v2 + 1 → K14 n56 I55
def w_X10_tellLeft_14b  (Po : gI → gL → Prop) (K14 : Int32 → gI → Prop) (v1 : Int32) (v2 : Int32) (I : gI) (J : gL) : Prop :=
  (v1 < v2 → ∀ n5 : Int32, n5 = (I 200 15) → w_X10_tellLeft_49 Po v1 n5 I J) ∧ (¬ v1 < v2 → (¬ v2 = (I 200 15) → w_X10_tellLeft_37 Po K14 v1 v2 (0 : Int32) v2 I J) ∧ (v2 = (I 200 15) → w_X10_tellLeft_37 Po K14 v1 v2 (1 : Int32) v2 I J))
def w_X10_tellLeft_14  (Po : gI → gL → Prop)  (v1 : Int32) (v2 : Int32) (I : gI) (J : gL) : Prop :=
  ∃ (Inv : Int32 → gI → Prop) (mu : Int32 → gI → Nat), Inv v2 I ∧ ∀ (v2 : Int32) (I : gI), Inv v2 I → w_X10_tellLeft_14b  Po  (fun u2 I1 => Inv u2 I1 ∧ mu u2 I1 < mu v2 I) v1 v2 I J
def wp_X10_tellLeft (I : gI) (J : gL) (Po : gI → gL → Prop) : Prop :=
  wp_X10_placeAll I (fun I1 => wp_X10_cells I1 (fun r2 => ∀ n3 : Int32, n3 = (I1 200 15) → w_X10_tellLeft_14 Po r2 n3 I1 J))
set_option maxRecDepth 100000 in
set_option maxHeartbeats 4000000 in
theorem t_X10_tellLeft_300 {X : gX} {l : Launch} {D : va_G} {cy : Nat → ClassId} {nm : String} {V : gV} (hM : gModM V) (C : gC X cX10_tellLeft RX10 none 6 rm_X10_tellLeft) (hX : gIs X l D cy nm) {I : gI} {J : gL} {Po : gI → gL → Prop} (hR : gR X (gPv V (fun I' J' => Po I' J'))) {v1 : Int32} {v2 : Int32} {K130 : Int32 → gI → gL → Prop} (hK130 : ∀ (y2 : Int32) (I1 : gI) (J1 : gL), K130 y2 I1 J1 → gJ X V 0 0 130 [(0, .ref (V.2.1 200)), (1, .int v1), (2, .int y2)] [] I1 J1) (h : w_X10_tellLeft_300 Po K130 v1 v2 I J) : gJ X V 0 0 300 [(0, .ref (V.2.1 200)), (1, .int v1), (2, .int v2)] [] I J := by
  unfold w_X10_tellLeft_300 at h
  obtain ⟨n15, en15⟩ : ∃ z : Int32, z = v2 + (-1) := ⟨_, rfl⟩
  have h := h n15 en15
  refine j_iinc (pc := 300) (v := n15) (lv' := [(2, .int n15), (0, .ref (V.2.1 200)), (1, .int v1)]) C dX10_tellLeft_300 2 rfl (by rw [en15]; rfl) (by decide) rfl ?_
  refine j_goto (pc := 303) (tgt := 130) C dX10_tellLeft_303 (by decide) ?_
  refine gJ.sub [1, 2, 0] rfl ?_
  exact hK130 _ _ _ h
set_option maxRecDepth 100000 in
set_option maxHeartbeats 4000000 in
theorem t_X10_tellLeft_294 {X : gX} {l : Launch} {D : va_G} {cy : Nat → ClassId} {nm : String} {V : gV} (hM : gModM V) (C : gC X cX10_tellLeft RX10 none 6 rm_X10_tellLeft) (hX : gIs X l D cy nm) {I : gI} {J : gL} {Po : gI → gL → Prop} (hR : gR X (gPv V (fun I' J' => Po I' J'))) {v1 : Int32} {v2 : Int32} {v3 : Int32} {v4 : Int32} {K130 : Int32 → gI → gL → Prop} {K199 : Int32 → gI → gL → Prop} (hK130 : ∀ (y2 : Int32) (I1 : gI) (J1 : gL), K130 y2 I1 J1 → gJ X V 0 0 130 [(0, .ref (V.2.1 200)), (1, .int v1), (2, .int y2)] [] I1 J1) (hK199 : ∀ (y4 : Int32) (I1 : gI) (J1 : gL), K199 y4 I1 J1 → gJ X V 0 0 199 [(0, .ref (V.2.1 200)), (1, .int v1), (2, .int v2), (3, .int v3), (4, .int y4)] [] I1 J1) (h : w_X10_tellLeft_294 Po K130 K199 v1 v2 v3 v4 I J) : gJ X V 0 0 294 [(0, .ref (V.2.1 200)), (1, .int v1), (2, .int v2), (3, .int v3), (4, .int v4)] [] I J := by
  unfold w_X10_tellLeft_294 at h
  obtain ⟨n25, en25⟩ : ∃ z : Int32, z = v4 + 1 := ⟨_, rfl⟩
  have h := h n25 en25
  refine j_iinc (pc := 294) (v := n25) (lv' := [(4, .int n25), (0, .ref (V.2.1 200)), (1, .int v1), (2, .int v2), (3, .int v3)]) C dX10_tellLeft_294 4 rfl (by rw [en25]; rfl) (by decide) rfl ?_
  refine j_goto (pc := 297) (tgt := 199) C dX10_tellLeft_297 (by decide) ?_
  refine gJ.sub [1, 2, 3, 4, 0] rfl ?_
  exact hK199 _ _ _ h
set_option maxRecDepth 100000 in
set_option maxHeartbeats 4000000 in
theorem t_X10_tellLeft_293 {X : gX} {l : Launch} {D : va_G} {cy : Nat → ClassId} {nm : String} {V : gV} (hM : gModM V) (C : gC X cX10_tellLeft RX10 none 6 rm_X10_tellLeft) (hX : gIs X l D cy nm) {I : gI} {J : gL} {Po : gI → gL → Prop} (hR : gR X (gPv V (fun I' J' => Po I' J'))) {v1 : Int32} {v2 : Int32} {v3 : Int32} {v4 : Int32} {s0 : Int32} {s1 : Int32} {K130 : Int32 → gI → gL → Prop} {K199 : Int32 → gI → gL → Prop} (hK130 : ∀ (y2 : Int32) (I1 : gI) (J1 : gL), K130 y2 I1 J1 → gJ X V 0 0 130 [(0, .ref (V.2.1 200)), (1, .int v1), (2, .int y2)] [] I1 J1) (hK199 : ∀ (y4 : Int32) (I1 : gI) (J1 : gL), K199 y4 I1 J1 → gJ X V 0 0 199 [(0, .ref (V.2.1 200)), (1, .int v1), (2, .int v2), (3, .int v3), (4, .int y4)] [] I1 J1) (h : w_X10_tellLeft_293 Po K130 K199 v1 v2 v3 v4 s0 s1 I J) : gJ X V 0 0 293 [(0, .ref (V.2.1 200)), (1, .int v1), (2, .int v2), (3, .int v3), (4, .int v4)] [.int s0, .int s1, .ref (V.2.1 217)] I J := by
  unfold w_X10_tellLeft_293 at h
  obtain ⟨g36, h⟩ := h
  refine j_bast (pc := 293) C 217 (c_217 hM).1 (c_217 hM).2 g36 dX10_tellLeft_293 ?_
  refine gJ.nmI (fun I37 eI37 => ?_)
  have h := h I37 eI37
  refine gJ.sub [0, 1, 2, 3, 4] rfl ?_
  exact t_X10_tellLeft_294 hM C hX hR  hK130 hK199 h
set_option maxRecDepth 100000 in
set_option maxHeartbeats 4000000 in
theorem t_X10_tellLeft_199b {X : gX} {l : Launch} {D : va_G} {cy : Nat → ClassId} {nm : String} {V : gV} (hM : gModM V) (C : gC X cX10_tellLeft RX10 none 6 rm_X10_tellLeft) (hX : gIs X l D cy nm) {I : gI} {J : gL} {Po : gI → gL → Prop} (hR : gR X (gPv V (fun I' J' => Po I' J'))) {v1 : Int32} {v2 : Int32} {v3 : Int32} {v4 : Int32} {K130 : Int32 → gI → gL → Prop} {K199 : Int32 → gI → gL → Prop} (hK130 : ∀ (y2 : Int32) (I1 : gI) (J1 : gL), K130 y2 I1 J1 → gJ X V 0 0 130 [(0, .ref (V.2.1 200)), (1, .int v1), (2, .int y2)] [] I1 J1) (hK199 : ∀ (y4 : Int32) (I1 : gI) (J1 : gL), K199 y4 I1 J1 → gJ X V 0 0 199 [(0, .ref (V.2.1 200)), (1, .int v1), (2, .int v2), (3, .int v3), (4, .int y4)] [] I1 J1) (h : w_X10_tellLeft_199b Po K130 K199 v1 v2 v3 v4 I J) : gJ X V 0 0 199 [(0, .ref (V.2.1 200)), (1, .int v1), (2, .int v2), (3, .int v3), (4, .int v4)] [] I J := by
  unfold w_X10_tellLeft_199b at h
  refine j_iload (pc := 199) C dX10_tellLeft_199 4 rfl ?_
  refine j_aload_n (pc := 201) C dX10_tellLeft_201 rfl 0 rfl ?_
  refine j_getR (pc := 202) C 200 22 215 (c_200 hM).1 (c_200 hM).2 rfl rfl (by decide) inw_X10 wd_988 dX10_tellLeft_202 ?_
  refine j_iload_n (pc := 205) C dX10_tellLeft_205 rfl 3 rfl ?_
  refine j_iconst (pc := 206) (v := 1) C dX10_tellLeft_206 (by decide) ?_
  refine j_iadd (pc := 207) C dX10_tellLeft_207 ?_
  obtain ⟨g21, h⟩ := h
  refine j_iald (pc := 208) C 215 (c_215 hM).1 (c_215 hM).2 g21 dX10_tellLeft_208 ?_
  refine j_icmp_ge (pc := 209) (tgt := 300) C dX10_tellLeft_209 (by decide) (fun c22 => ?_) (fun c22 => ?_)
  · have h := h.1 c22
    refine gJ.sub [0, 1, 2] rfl ?_
    exact t_X10_tellLeft_300 hM C hX hR  hK130 h
  · have h := h.2 c22
    refine j_aload_n (pc := 212) C dX10_tellLeft_212 rfl 0 rfl ?_
    refine j_getR (pc := 213) C 200 20 213 (c_200 hM).1 (c_200 hM).2 rfl rfl (by decide) inw_X10 wd_986 dX10_tellLeft_213 ?_
    refine j_iload (pc := 216) C dX10_tellLeft_216 4 rfl ?_
    obtain ⟨g23, h⟩ := h
    refine j_iald (pc := 218) C 213 (c_213 hM).1 (c_213 hM).2 g23 dX10_tellLeft_218 ?_
    refine j_iload_n (pc := 219) C dX10_tellLeft_219 rfl 2 rfl ?_
    refine j_iand (pc := 220) C dX10_tellLeft_220 ?_
    refine j_if_ne (pc := 221) (tgt := 294) C dX10_tellLeft_221 (by decide) (fun c24 => ?_) (fun c24 => ?_)
    · have h := h.1 c24
      refine gJ.sub [0, 1, 2, 3, 4] rfl ?_
      exact t_X10_tellLeft_294 hM C hX hR  hK130 hK199 h
    · have h := h.2 c24
      refine j_iload_n (pc := 224) C dX10_tellLeft_224 rfl 2 rfl ?_
      refine j_aload_n (pc := 225) C dX10_tellLeft_225 rfl 0 rfl ?_
      refine j_getR (pc := 226) C 200 20 213 (c_200 hM).1 (c_200 hM).2 rfl rfl (by decide) inw_X10 wd_986 dX10_tellLeft_226 ?_
      refine j_iload (pc := 229) C dX10_tellLeft_229 4 rfl ?_
      obtain ⟨g26, h⟩ := h
      refine j_iald (pc := 231) C 213 (c_213 hM).1 (c_213 hM).2 g26 dX10_tellLeft_231 ?_
      refine j_ior (pc := 232) C dX10_tellLeft_232 ?_
      refine gJ.topi (fun n27 en27 => ?_)
      have h := h n27 en27
      refine j_istore (pc := 233) (lv' := [(5, .int n27), (0, .ref (V.2.1 200)), (1, .int v1), (2, .int v2), (3, .int v3), (4, .int v4)]) C dX10_tellLeft_233 (by decide) rfl ?_
      refine j_aload_n (pc := 235) C dX10_tellLeft_235 rfl 1 rfl ?_
      refine j_getR (pc := 236) C 200 23 216 (c_200 hM).1 (c_200 hM).2 rfl rfl (by decide) inw_X10 wd_989 dX10_tellLeft_236 ?_
      refine j_iload_n (pc := 239) C dX10_tellLeft_239 rfl 3 rfl ?_
      refine j_dup2_11 (pc := 240) C dX10_tellLeft_240 rfl rfl ?_
      obtain ⟨g28, h⟩ := h
      refine j_lald (pc := 241) C 216 (c_216 hM).1 (c_216 hM).2 g28 dX10_tellLeft_241 ?_
      refine j_aload_n (pc := 242) C dX10_tellLeft_242 rfl 1 rfl ?_
      refine j_getR (pc := 243) C 200 23 216 (c_200 hM).1 (c_200 hM).2 rfl rfl (by decide) inw_X10 wd_989 dX10_tellLeft_243 ?_
      refine j_iload (pc := 246) C dX10_tellLeft_246 0 rfl ?_
      obtain ⟨g29, h⟩ := h
      refine j_lald (pc := 248) C 216 (c_216 hM).1 (c_216 hM).2 g29 dX10_tellLeft_248 ?_
      refine j_ladd (pc := 249) C dX10_tellLeft_249 ?_
      obtain ⟨g30, h⟩ := h
      refine j_last (pc := 250) C 216 (c_216 hM).1 (c_216 hM).2 g30 dX10_tellLeft_250 ?_
      refine gJ.nmJ (fun J31 eJ31 => ?_)
      have h := h J31 eJ31
      refine j_aload_n (pc := 251) C dX10_tellLeft_251 rfl 1 rfl ?_
      refine j_getR (pc := 252) C 200 24 217 (c_200 hM).1 (c_200 hM).2 rfl rfl (by decide) inw_X10 wd_990 dX10_tellLeft_252 ?_
      refine j_iload_n (pc := 255) C dX10_tellLeft_255 rfl 3 rfl ?_
      refine j_aload_n (pc := 256) C dX10_tellLeft_256 rfl 1 rfl ?_
      refine j_getR (pc := 257) C 200 24 217 (c_200 hM).1 (c_200 hM).2 rfl rfl (by decide) inw_X10 wd_990 dX10_tellLeft_257 ?_
      refine j_iload (pc := 260) C dX10_tellLeft_260 0 rfl ?_
      obtain ⟨g32, h⟩ := h
      refine j_bald (pc := 262) C 217 (c_217 hM).1 (c_217 hM).2 g32 dX10_tellLeft_262 ?_
      refine j_iconst (pc := 263) (v := 1) C dX10_tellLeft_263 (by decide) ?_
      refine j_iadd (pc := 264) C dX10_tellLeft_264 ?_
      refine j_aload_n (pc := 265) C dX10_tellLeft_265 rfl 1 rfl ?_
      refine j_getR (pc := 266) C 200 24 217 (c_200 hM).1 (c_200 hM).2 rfl rfl (by decide) inw_X10 wd_990 dX10_tellLeft_266 ?_
      refine j_iload_n (pc := 269) C dX10_tellLeft_269 rfl 3 rfl ?_
      obtain ⟨g33, h⟩ := h
      refine j_bald (pc := 270) C 217 (c_217 hM).1 (c_217 hM).2 g33 dX10_tellLeft_270 ?_
      refine j_icmp_ge (pc := 271) (tgt := 287) C dX10_tellLeft_271 (by decide) (fun c34 => ?_) (fun c34 => ?_)
      · have h := h.1 c34
        refine j_aload_n (pc := 287) C dX10_tellLeft_287 rfl 1 rfl ?_
        refine j_getR (pc := 288) C 200 24 217 (c_200 hM).1 (c_200 hM).2 rfl rfl (by decide) inw_X10 wd_990 dX10_tellLeft_288 ?_
        refine j_iload_n (pc := 291) C dX10_tellLeft_291 rfl 3 rfl ?_
        obtain ⟨g35, h⟩ := h
        refine j_bald (pc := 292) C 217 (c_217 hM).1 (c_217 hM).2 g35 dX10_tellLeft_292 ?_
        refine gJ.sub [1, 2, 3, 4, 5] rfl ?_
        exact t_X10_tellLeft_293 hM C hX hR  hK130 hK199 h
      · have h := h.2 c34
        refine j_aload_n (pc := 274) C dX10_tellLeft_274 rfl 1 rfl ?_
        refine j_getR (pc := 275) C 200 24 217 (c_200 hM).1 (c_200 hM).2 rfl rfl (by decide) inw_X10 wd_990 dX10_tellLeft_275 ?_
        refine j_iload (pc := 278) C dX10_tellLeft_278 0 rfl ?_
        obtain ⟨g38, h⟩ := h
        refine j_bald (pc := 280) C 217 (c_217 hM).1 (c_217 hM).2 g38 dX10_tellLeft_280 ?_
        refine j_iconst (pc := 281) (v := 1) C dX10_tellLeft_281 (by decide) ?_
        refine j_iadd (pc := 282) C dX10_tellLeft_282 ?_
        refine j_i2b (pc := 283) C dX10_tellLeft_283 ?_
        refine j_goto (pc := 284) (tgt := 293) C dX10_tellLeft_284 (by decide) ?_
        refine gJ.sub [1, 2, 3, 4, 5] rfl ?_
        exact t_X10_tellLeft_293 hM C hX hR  hK130 hK199 h
set_option maxRecDepth 100000 in
set_option maxHeartbeats 4000000 in
theorem t_X10_tellLeft_199 {X : gX} {l : Launch} {D : va_G} {cy : Nat → ClassId} {nm : String} {V : gV} (hM : gModM V) (C : gC X cX10_tellLeft RX10 none 6 rm_X10_tellLeft) (hX : gIs X l D cy nm) {I : gI} {J : gL} {Po : gI → gL → Prop} (hR : gR X (gPv V (fun I' J' => Po I' J'))) {v1 : Int32} {v2 : Int32} {v3 : Int32} {v4 : Int32} {K130 : Int32 → gI → gL → Prop} (hK130 : ∀ (y2 : Int32) (I1 : gI) (J1 : gL), K130 y2 I1 J1 → gJ X V 0 0 130 [(0, .ref (V.2.1 200)), (1, .int v1), (2, .int y2)] [] I1 J1) (h : w_X10_tellLeft_199 Po K130 v1 v2 v3 v4 I J) : gJ X V 0 0 199 [(0, .ref (V.2.1 200)), (1, .int v1), (2, .int v2), (3, .int v3), (4, .int v4)] [] I J := by
  unfold w_X10_tellLeft_199 at h
  obtain ⟨Inv, mu, h0, hs⟩ := h
  have key : ∀ (n : Nat) (v4 : Int32) (I : gI) (J : gL), Inv v4 I J → mu v4 I J < n → gJ X V 0 0 199 [(0, .ref (V.2.1 200)), (1, .int v1), (2, .int v2), (3, .int v3), (4, .int v4)] [] I J := by
    intro n
    induction n with
    | zero => intro v4 I J hi hn; exact absurd hn (Nat.not_lt_zero _)
    | succ n ih =>
      intro v4 I J hi hn
      exact t_X10_tellLeft_199b hM C hX hR  hK130 (fun u4 I1 J1 hk => ih u4 I1 J1 hk.1 (Nat.lt_of_lt_of_le hk.2 (Nat.le_of_lt_succ hn))) (hs v4 I J hi)
  exact key _ v4 I J h0 (Nat.lt_succ_self _)
set_option maxRecDepth 100000 in
set_option maxHeartbeats 4000000 in
theorem t_X10_tellLeft_170 {X : gX} {l : Launch} {D : va_G} {cy : Nat → ClassId} {nm : String} {V : gV} (hM : gModM V) (C : gC X cX10_tellLeft RX10 none 6 rm_X10_tellLeft) (hX : gIs X l D cy nm) {I : gI} {J : gL} {Po : gI → gL → Prop} (hR : gR X (gPv V (fun I' J' => Po I' J'))) {v1 : Int32} {v2 : Int32} {s0 : Int32} {s1 : Int32} {K130 : Int32 → gI → gL → Prop} (hK130 : ∀ (y2 : Int32) (I1 : gI) (J1 : gL), K130 y2 I1 J1 → gJ X V 0 0 130 [(0, .ref (V.2.1 200)), (1, .int v1), (2, .int y2)] [] I1 J1) (h : w_X10_tellLeft_170 Po K130 v1 v2 s0 s1 I J) : gJ X V 0 0 170 [(0, .ref (V.2.1 200)), (1, .int v1), (2, .int v2)] [.int s0, .int s1, .ref (V.2.1 217)] I J := by
  unfold w_X10_tellLeft_170 at h
  refine j_i2b (pc := 170) C dX10_tellLeft_170 ?_
  obtain ⟨g12, h⟩ := h
  refine j_bast (pc := 171) C 217 (c_217 hM).1 (c_217 hM).2 g12 dX10_tellLeft_171 ?_
  refine gJ.nmI (fun I13 eI13 => ?_)
  have h := h I13 eI13
  refine j_iload_n (pc := 172) C dX10_tellLeft_172 rfl 2 rfl ?_
  refine j_iload_n (pc := 173) C dX10_tellLeft_173 rfl 1 rfl ?_
  refine j_icmp_eq (pc := 174) (tgt := 300) C dX10_tellLeft_174 (by decide) (fun c14 => ?_) (fun c14 => ?_)
  · have h := h.1 c14
    refine gJ.sub [0, 1, 2] rfl ?_
    exact t_X10_tellLeft_300 hM C hX hR  hK130 h
  · have h := h.2 c14
    refine j_aload_n (pc := 177) C dX10_tellLeft_177 rfl 0 rfl ?_
    refine j_getR (pc := 178) C 200 25 218 (c_200 hM).1 (c_200 hM).2 rfl rfl (by decide) inw_X10 wd_991 dX10_tellLeft_178 ?_
    refine j_iload_n (pc := 181) C dX10_tellLeft_181 rfl 2 rfl ?_
    obtain ⟨g16, h⟩ := h
    refine j_zald (pc := 182) C 218 (c_218 hM).1 (c_218 hM).2 g16 dX10_tellLeft_182 ?_
    refine j_if_eq (pc := 183) (tgt := 300) C dX10_tellLeft_183 (by decide) (fun c17 => ?_) (fun c17 => ?_)
    · have h := h.1 c17
      refine gJ.sub [0, 1, 2] rfl ?_
      exact t_X10_tellLeft_300 hM C hX hR  hK130 h
    · have h := h.2 c17
      refine j_iload_n (pc := 186) C dX10_tellLeft_186 rfl 2 rfl ?_
      refine j_callS (pc := 187) (As := [.int v2]) (st := []) C hX (m_X10_firstFree   h) ok_X10_firstFree wd_1214 wd_1215 ⟨by decide, by decide⟩ rfl rfl (Nat.le_of_ble_eq_true rfl) ⟨Nat.le_refl 0, Nat.le_refl 0⟩ dX10_tellLeft_187 (fun r V1 I1 J1 hp => ?_)
      obtain ⟨r18, rfl, rfl, rfl, rfl, h⟩ := hp
      show gJ X V 0 0 190 _ [.int r18] _ _
      refine j_istore_n (pc := 190) (lv' := [(3, .int r18), (0, .ref (V.2.1 200)), (1, .int v1), (2, .int v2)]) C dX10_tellLeft_190 rfl (by decide) rfl ?_
      refine j_aload_n (pc := 191) C dX10_tellLeft_191 rfl 1 rfl ?_
      refine j_getR (pc := 192) C 200 22 215 (c_200 hM).1 (c_200 hM).2 rfl rfl (by decide) inw_X10 wd_988 dX10_tellLeft_192 ?_
      refine j_iload_n (pc := 195) C dX10_tellLeft_195 rfl 0 rfl ?_
      obtain ⟨g19, h⟩ := h
      refine j_iald (pc := 196) C 215 (c_215 hM).1 (c_215 hM).2 g19 dX10_tellLeft_196 ?_
      refine gJ.topi (fun n20 en20 => ?_)
      have h := h n20 en20
      refine j_istore (pc := 197) (lv' := [(4, .int n20), (3, .int r18), (0, .ref (V.2.1 200)), (1, .int v1), (2, .int v2)]) C dX10_tellLeft_197 (by decide) rfl ?_
      refine gJ.sub [2, 3, 4, 1, 0] rfl ?_
      exact t_X10_tellLeft_199 hM C hX hR  hK130 h
set_option maxRecDepth 100000 in
set_option maxHeartbeats 4000000 in
theorem t_X10_tellLeft_153 {X : gX} {l : Launch} {D : va_G} {cy : Nat → ClassId} {nm : String} {V : gV} (hM : gModM V) (C : gC X cX10_tellLeft RX10 none 6 rm_X10_tellLeft) (hX : gIs X l D cy nm) {I : gI} {J : gL} {Po : gI → gL → Prop} (hR : gR X (gPv V (fun I' J' => Po I' J'))) {v1 : Int32} {v2 : Int32} {s0 : Int64} {s1 : Int32} {K130 : Int32 → gI → gL → Prop} (hK130 : ∀ (y2 : Int32) (I1 : gI) (J1 : gL), K130 y2 I1 J1 → gJ X V 0 0 130 [(0, .ref (V.2.1 200)), (1, .int v1), (2, .int y2)] [] I1 J1) (h : w_X10_tellLeft_153 Po K130 v1 v2 s0 s1 I J) : gJ X V 0 0 153 [(0, .ref (V.2.1 200)), (1, .int v1), (2, .int v2)] [.long s0, .int s1, .ref (V.2.1 216)] I J := by
  unfold w_X10_tellLeft_153 at h
  obtain ⟨g9, h⟩ := h
  refine j_last (pc := 153) C 216 (c_216 hM).1 (c_216 hM).2 g9 dX10_tellLeft_153 ?_
  refine gJ.nmJ (fun J10 eJ10 => ?_)
  have h := h J10 eJ10
  refine j_aload_n (pc := 154) C dX10_tellLeft_154 rfl 0 rfl ?_
  refine j_getR (pc := 155) C 200 24 217 (c_200 hM).1 (c_200 hM).2 rfl rfl (by decide) inw_X10 wd_990 dX10_tellLeft_155 ?_
  refine j_iload_n (pc := 158) C dX10_tellLeft_158 rfl 2 rfl ?_
  refine j_iload_n (pc := 159) C dX10_tellLeft_159 rfl 2 rfl ?_
  refine j_iload_n (pc := 160) C dX10_tellLeft_160 rfl 1 rfl ?_
  refine j_icmp_ne (pc := 161) (tgt := 168) C dX10_tellLeft_161 (by decide) (fun c11 => ?_) (fun c11 => ?_)
  · have h := h.1 c11
    refine j_bipush (pc := 168) (v := 100) C dX10_tellLeft_168 (by decide) ?_
    refine gJ.sub [0, 1, 2] rfl ?_
    exact t_X10_tellLeft_170 hM C hX hR  hK130 h
  · have h := h.2 c11
    refine j_iconst (pc := 164) (v := 0) C dX10_tellLeft_164 (by decide) ?_
    refine j_goto (pc := 165) (tgt := 170) C dX10_tellLeft_165 (by decide) ?_
    refine gJ.sub [0, 1, 2] rfl ?_
    exact t_X10_tellLeft_170 hM C hX hR  hK130 h
set_option maxRecDepth 100000 in
set_option maxHeartbeats 4000000 in
theorem t_X10_tellLeft_130b {X : gX} {l : Launch} {D : va_G} {cy : Nat → ClassId} {nm : String} {V : gV} (hM : gModM V) (C : gC X cX10_tellLeft RX10 none 6 rm_X10_tellLeft) (hX : gIs X l D cy nm) {I : gI} {J : gL} {Po : gI → gL → Prop} (hR : gR X (gPv V (fun I' J' => Po I' J'))) {v1 : Int32} {v2 : Int32} {K130 : Int32 → gI → gL → Prop} (hK130 : ∀ (y2 : Int32) (I1 : gI) (J1 : gL), K130 y2 I1 J1 → gJ X V 0 0 130 [(0, .ref (V.2.1 200)), (1, .int v1), (2, .int y2)] [] I1 J1) (h : w_X10_tellLeft_130b Po K130 v1 v2 I J) : gJ X V 0 0 130 [(0, .ref (V.2.1 200)), (1, .int v1), (2, .int v2)] [] I J := by
  unfold w_X10_tellLeft_130b at h
  refine j_iload_n (pc := 130) C dX10_tellLeft_130 rfl 2 rfl ?_
  refine j_aload_n (pc := 131) C dX10_tellLeft_131 rfl 0 rfl ?_
  refine j_getI (pc := 132) C 200 15 (c_200 hM).1 (c_200 hM).2 rfl rfl (by decide) inw_X10 wd_981 dX10_tellLeft_132 ?_
  refine j_icmp_lt (pc := 135) (tgt := 306) C dX10_tellLeft_135 (by decide) (fun c7 => ?_) (fun c7 => ?_)
  · have h := h.1 c7
    exact j_vret (pc := 306) C hR (Nat.zero_le _) (Nat.zero_le _) dX10_tellLeft_306 ⟨rfl, rfl, h⟩
  · have h := h.2 c7
    refine j_aload_n (pc := 138) C dX10_tellLeft_138 rfl 0 rfl ?_
    refine j_getR (pc := 139) C 200 23 216 (c_200 hM).1 (c_200 hM).2 rfl rfl (by decide) inw_X10 wd_989 dX10_tellLeft_139 ?_
    refine j_iload_n (pc := 142) C dX10_tellLeft_142 rfl 2 rfl ?_
    refine j_iload_n (pc := 143) C dX10_tellLeft_143 rfl 2 rfl ?_
    refine j_iload_n (pc := 144) C dX10_tellLeft_144 rfl 1 rfl ?_
    refine j_icmp_ne (pc := 145) (tgt := 152) C dX10_tellLeft_145 (by decide) (fun c8 => ?_) (fun c8 => ?_)
    · have h := h.1 c8
      refine j_lconst (pc := 152) (v := 0) C dX10_tellLeft_152 (by decide) ?_
      refine gJ.sub [0, 1, 2] rfl ?_
      exact t_X10_tellLeft_153 hM C hX hR  hK130 h
    · have h := h.2 c8
      refine j_lconst (pc := 148) (v := 1) C dX10_tellLeft_148 (by decide) ?_
      refine j_goto (pc := 149) (tgt := 153) C dX10_tellLeft_149 (by decide) ?_
      refine gJ.sub [0, 1, 2] rfl ?_
      exact t_X10_tellLeft_153 hM C hX hR  hK130 h
set_option maxRecDepth 100000 in
set_option maxHeartbeats 4000000 in
theorem t_X10_tellLeft_130 {X : gX} {l : Launch} {D : va_G} {cy : Nat → ClassId} {nm : String} {V : gV} (hM : gModM V) (C : gC X cX10_tellLeft RX10 none 6 rm_X10_tellLeft) (hX : gIs X l D cy nm) {I : gI} {J : gL} {Po : gI → gL → Prop} (hR : gR X (gPv V (fun I' J' => Po I' J'))) {v1 : Int32} {v2 : Int32} (h : w_X10_tellLeft_130 Po v1 v2 I J) : gJ X V 0 0 130 [(0, .ref (V.2.1 200)), (1, .int v1), (2, .int v2)] [] I J := by
  unfold w_X10_tellLeft_130 at h
  obtain ⟨Inv, mu, h0, hs⟩ := h
  have key : ∀ (n : Nat) (v2 : Int32) (I : gI) (J : gL), Inv v2 I J → mu v2 I J < n → gJ X V 0 0 130 [(0, .ref (V.2.1 200)), (1, .int v1), (2, .int v2)] [] I J := by
    intro n
    induction n with
    | zero => intro v2 I J hi hn; exact absurd hn (Nat.not_lt_zero _)
    | succ n ih =>
      intro v2 I J hi hn
      exact t_X10_tellLeft_130b hM C hX hR   (fun u2 I1 J1 hk => ih u2 I1 J1 hk.1 (Nat.lt_of_lt_of_le hk.2 (Nat.le_of_lt_succ hn))) (hs v2 I J hi)
  exact key _ v2 I J h0 (Nat.lt_succ_self _)
set_option maxRecDepth 100000 in
set_option maxHeartbeats 4000000 in
theorem t_X10_tellLeft_122 {X : gX} {l : Launch} {D : va_G} {cy : Nat → ClassId} {nm : String} {V : gV} (hM : gModM V) (C : gC X cX10_tellLeft RX10 none 6 rm_X10_tellLeft) (hX : gIs X l D cy nm) {I : gI} {J : gL} {Po : gI → gL → Prop} (hR : gR X (gPv V (fun I' J' => Po I' J'))) {v1 : Int32} {v2 : Int32} {K49 : Int32 → gI → Prop} (hK49 : ∀ (y2 : Int32) (I1 : gI), K49 y2 I1 → gJ X V 0 0 49 [(0, .ref (V.2.1 200)), (1, .int v1), (2, .int y2)] [] I1 J) (h : w_X10_tellLeft_122 Po K49 v1 v2 I J) : gJ X V 0 0 122 [(0, .ref (V.2.1 200)), (1, .int v1), (2, .int v2)] [] I J := by
  unfold w_X10_tellLeft_122 at h
  obtain ⟨n41, en41⟩ : ∃ z : Int32, z = v2 + 1 := ⟨_, rfl⟩
  have h := h n41 en41
  refine j_iinc (pc := 122) (v := n41) (lv' := [(2, .int n41), (0, .ref (V.2.1 200)), (1, .int v1)]) C dX10_tellLeft_122 2 rfl (by rw [en41]; rfl) (by decide) rfl ?_
  refine j_goto (pc := 125) (tgt := 49) C dX10_tellLeft_125 (by decide) ?_
  refine gJ.sub [1, 2, 0] rfl ?_
  exact hK49 _ _ h
set_option maxRecDepth 100000 in
set_option maxHeartbeats 4000000 in
theorem t_X10_tellLeft_116 {X : gX} {l : Launch} {D : va_G} {cy : Nat → ClassId} {nm : String} {V : gV} (hM : gModM V) (C : gC X cX10_tellLeft RX10 none 6 rm_X10_tellLeft) (hX : gIs X l D cy nm) {I : gI} {J : gL} {Po : gI → gL → Prop} (hR : gR X (gPv V (fun I' J' => Po I' J'))) {v1 : Int32} {v2 : Int32} {v3 : Int32} {v4 : Int32} {K49 : Int32 → gI → Prop} {K76 : Int32 → gI → Prop} (hK49 : ∀ (y2 : Int32) (I1 : gI), K49 y2 I1 → gJ X V 0 0 49 [(0, .ref (V.2.1 200)), (1, .int v1), (2, .int y2)] [] I1 J) (hK76 : ∀ (y4 : Int32) (I1 : gI), K76 y4 I1 → gJ X V 0 0 76 [(0, .ref (V.2.1 200)), (1, .int v1), (2, .int v2), (3, .int v3), (4, .int y4)] [] I1 J) (h : w_X10_tellLeft_116 Po K49 K76 v1 v2 v3 v4 I J) : gJ X V 0 0 116 [(0, .ref (V.2.1 200)), (1, .int v1), (2, .int v2), (3, .int v3), (4, .int v4)] [] I J := by
  unfold w_X10_tellLeft_116 at h
  obtain ⟨n49, en49⟩ : ∃ z : Int32, z = v4 + 1 := ⟨_, rfl⟩
  have h := h n49 en49
  refine j_iinc (pc := 116) (v := n49) (lv' := [(4, .int n49), (0, .ref (V.2.1 200)), (1, .int v1), (2, .int v2), (3, .int v3)]) C dX10_tellLeft_116 4 rfl (by rw [en49]; rfl) (by decide) rfl ?_
  refine j_goto (pc := 119) (tgt := 76) C dX10_tellLeft_119 (by decide) ?_
  refine gJ.sub [1, 2, 3, 4, 0] rfl ?_
  exact hK76 _ _ h
set_option maxRecDepth 100000 in
set_option maxHeartbeats 4000000 in
theorem t_X10_tellLeft_76b {X : gX} {l : Launch} {D : va_G} {cy : Nat → ClassId} {nm : String} {V : gV} (hM : gModM V) (C : gC X cX10_tellLeft RX10 none 6 rm_X10_tellLeft) (hX : gIs X l D cy nm) {I : gI} {J : gL} {Po : gI → gL → Prop} (hR : gR X (gPv V (fun I' J' => Po I' J'))) {v1 : Int32} {v2 : Int32} {v3 : Int32} {v4 : Int32} {K49 : Int32 → gI → Prop} {K76 : Int32 → gI → Prop} (hK49 : ∀ (y2 : Int32) (I1 : gI), K49 y2 I1 → gJ X V 0 0 49 [(0, .ref (V.2.1 200)), (1, .int v1), (2, .int y2)] [] I1 J) (hK76 : ∀ (y4 : Int32) (I1 : gI), K76 y4 I1 → gJ X V 0 0 76 [(0, .ref (V.2.1 200)), (1, .int v1), (2, .int v2), (3, .int v3), (4, .int y4)] [] I1 J) (h : w_X10_tellLeft_76b Po K49 K76 v1 v2 v3 v4 I J) : gJ X V 0 0 76 [(0, .ref (V.2.1 200)), (1, .int v1), (2, .int v2), (3, .int v3), (4, .int v4)] [] I J := by
  unfold w_X10_tellLeft_76b at h
  refine j_iload (pc := 76) C dX10_tellLeft_76 4 rfl ?_
  refine j_aload_n (pc := 78) C dX10_tellLeft_78 rfl 0 rfl ?_
  refine j_getR (pc := 79) C 200 22 215 (c_200 hM).1 (c_200 hM).2 rfl rfl (by decide) inw_X10 wd_988 dX10_tellLeft_79 ?_
  refine j_iload_n (pc := 82) C dX10_tellLeft_82 rfl 3 rfl ?_
  refine j_iconst (pc := 83) (v := 1) C dX10_tellLeft_83 (by decide) ?_
  refine j_iadd (pc := 84) C dX10_tellLeft_84 ?_
  obtain ⟨g45, h⟩ := h
  refine j_iald (pc := 85) C 215 (c_215 hM).1 (c_215 hM).2 g45 dX10_tellLeft_85 ?_
  refine j_icmp_ge (pc := 86) (tgt := 122) C dX10_tellLeft_86 (by decide) (fun c46 => ?_) (fun c46 => ?_)
  · have h := h.1 c46
    refine gJ.sub [0, 1, 2] rfl ?_
    exact t_X10_tellLeft_122 hM C hX hR  hK49 h
  · have h := h.2 c46
    refine j_aload_n (pc := 89) C dX10_tellLeft_89 rfl 0 rfl ?_
    refine j_getR (pc := 90) C 200 20 213 (c_200 hM).1 (c_200 hM).2 rfl rfl (by decide) inw_X10 wd_986 dX10_tellLeft_90 ?_
    refine j_iload (pc := 93) C dX10_tellLeft_93 4 rfl ?_
    obtain ⟨g47, h⟩ := h
    refine j_iald (pc := 95) C 213 (c_213 hM).1 (c_213 hM).2 g47 dX10_tellLeft_95 ?_
    refine j_iload_n (pc := 96) C dX10_tellLeft_96 rfl 2 rfl ?_
    refine j_iand (pc := 97) C dX10_tellLeft_97 ?_
    refine j_if_ne (pc := 98) (tgt := 116) C dX10_tellLeft_98 (by decide) (fun c48 => ?_) (fun c48 => ?_)
    · have h := h.1 c48
      refine gJ.sub [0, 1, 2, 3, 4] rfl ?_
      exact t_X10_tellLeft_116 hM C hX hR  hK49 hK76 h
    · have h := h.2 c48
      refine j_aload_n (pc := 101) C dX10_tellLeft_101 rfl 0 rfl ?_
      refine j_getR (pc := 102) C 200 25 218 (c_200 hM).1 (c_200 hM).2 rfl rfl (by decide) inw_X10 wd_991 dX10_tellLeft_102 ?_
      refine j_iload_n (pc := 105) C dX10_tellLeft_105 rfl 2 rfl ?_
      refine j_aload_n (pc := 106) C dX10_tellLeft_106 rfl 0 rfl ?_
      refine j_getR (pc := 107) C 200 20 213 (c_200 hM).1 (c_200 hM).2 rfl rfl (by decide) inw_X10 wd_986 dX10_tellLeft_107 ?_
      refine j_iload (pc := 110) C dX10_tellLeft_110 4 rfl ?_
      obtain ⟨g50, h⟩ := h
      refine j_iald (pc := 112) C 213 (c_213 hM).1 (c_213 hM).2 g50 dX10_tellLeft_112 ?_
      refine j_ior (pc := 113) C dX10_tellLeft_113 ?_
      refine j_iconst (pc := 114) (v := 1) C dX10_tellLeft_114 (by decide) ?_
      obtain ⟨g51, h⟩ := h
      refine j_zast (pc := 115) C 218 (c_218 hM).1 (c_218 hM).2 g51 dX10_tellLeft_115 ?_
      refine gJ.nmI (fun I52 eI52 => ?_)
      have h := h I52 eI52
      refine gJ.sub [0, 1, 2, 3, 4] rfl ?_
      exact t_X10_tellLeft_116 hM C hX hR  hK49 hK76 h
set_option maxRecDepth 100000 in
set_option maxHeartbeats 4000000 in
theorem t_X10_tellLeft_76 {X : gX} {l : Launch} {D : va_G} {cy : Nat → ClassId} {nm : String} {V : gV} (hM : gModM V) (C : gC X cX10_tellLeft RX10 none 6 rm_X10_tellLeft) (hX : gIs X l D cy nm) {I : gI} {J : gL} {Po : gI → gL → Prop} (hR : gR X (gPv V (fun I' J' => Po I' J'))) {v1 : Int32} {v2 : Int32} {v3 : Int32} {v4 : Int32} {K49 : Int32 → gI → Prop} (hK49 : ∀ (y2 : Int32) (I1 : gI), K49 y2 I1 → gJ X V 0 0 49 [(0, .ref (V.2.1 200)), (1, .int v1), (2, .int y2)] [] I1 J) (h : w_X10_tellLeft_76 Po K49 v1 v2 v3 v4 I J) : gJ X V 0 0 76 [(0, .ref (V.2.1 200)), (1, .int v1), (2, .int v2), (3, .int v3), (4, .int v4)] [] I J := by
  unfold w_X10_tellLeft_76 at h
  obtain ⟨Inv, mu, h0, hs⟩ := h
  have key : ∀ (n : Nat) (v4 : Int32) (I : gI), Inv v4 I → mu v4 I < n → gJ X V 0 0 76 [(0, .ref (V.2.1 200)), (1, .int v1), (2, .int v2), (3, .int v3), (4, .int v4)] [] I J := by
    intro n
    induction n with
    | zero => intro v4 I hi hn; exact absurd hn (Nat.not_lt_zero _)
    | succ n ih =>
      intro v4 I hi hn
      exact t_X10_tellLeft_76b hM C hX hR  hK49 (fun u4 I1 hk => ih u4 I1 hk.1 (Nat.lt_of_lt_of_le hk.2 (Nat.le_of_lt_succ hn))) (hs v4 I hi)
  exact key _ v4 I h0 (Nat.lt_succ_self _)
set_option maxRecDepth 100000 in
set_option maxHeartbeats 4000000 in
theorem t_X10_tellLeft_49b {X : gX} {l : Launch} {D : va_G} {cy : Nat → ClassId} {nm : String} {V : gV} (hM : gModM V) (C : gC X cX10_tellLeft RX10 none 6 rm_X10_tellLeft) (hX : gIs X l D cy nm) {I : gI} {J : gL} {Po : gI → gL → Prop} (hR : gR X (gPv V (fun I' J' => Po I' J'))) {v1 : Int32} {v2 : Int32} {K49 : Int32 → gI → Prop} (hK49 : ∀ (y2 : Int32) (I1 : gI), K49 y2 I1 → gJ X V 0 0 49 [(0, .ref (V.2.1 200)), (1, .int v1), (2, .int y2)] [] I1 J) (h : w_X10_tellLeft_49b Po K49 v1 v2 I J) : gJ X V 0 0 49 [(0, .ref (V.2.1 200)), (1, .int v1), (2, .int v2)] [] I J := by
  unfold w_X10_tellLeft_49b at h
  refine j_iload_n (pc := 49) C dX10_tellLeft_49 rfl 2 rfl ?_
  refine j_iload_n (pc := 50) C dX10_tellLeft_50 rfl 1 rfl ?_
  refine j_icmp_ge (pc := 51) (tgt := 128) C dX10_tellLeft_51 (by decide) (fun c6 => ?_) (fun c6 => ?_)
  · have h := h.1 c6
    refine j_iload_n (pc := 128) C dX10_tellLeft_128 rfl 1 rfl ?_
    refine j_istore_n (pc := 129) (lv' := [(2, .int v1), (0, .ref (V.2.1 200)), (1, .int v1)]) C dX10_tellLeft_129 rfl (by decide) rfl ?_
    refine gJ.sub [1, 2, 0] rfl ?_
    exact t_X10_tellLeft_130 hM C hX hR   h
  · have h := h.2 c6
    refine j_aload_n (pc := 54) C dX10_tellLeft_54 rfl 0 rfl ?_
    refine j_getR (pc := 55) C 200 25 218 (c_200 hM).1 (c_200 hM).2 rfl rfl (by decide) inw_X10 wd_991 dX10_tellLeft_55 ?_
    refine j_iload_n (pc := 58) C dX10_tellLeft_58 rfl 2 rfl ?_
    obtain ⟨g39, h⟩ := h
    refine j_zald (pc := 59) C 218 (c_218 hM).1 (c_218 hM).2 g39 dX10_tellLeft_59 ?_
    refine j_if_eq (pc := 60) (tgt := 122) C dX10_tellLeft_60 (by decide) (fun c40 => ?_) (fun c40 => ?_)
    · have h := h.1 c40
      refine gJ.sub [0, 1, 2] rfl ?_
      exact t_X10_tellLeft_122 hM C hX hR  hK49 h
    · have h := h.2 c40
      refine j_iload_n (pc := 63) C dX10_tellLeft_63 rfl 2 rfl ?_
      refine j_callS (pc := 64) (As := [.int v2]) (st := []) C hX (m_X10_firstFree   h) ok_X10_firstFree wd_1214 wd_1215 ⟨by decide, by decide⟩ rfl rfl (Nat.le_of_ble_eq_true rfl) ⟨Nat.le_refl 0, Nat.le_refl 0⟩ dX10_tellLeft_64 (fun r V1 I1 J1 hp => ?_)
      obtain ⟨r42, rfl, rfl, rfl, rfl, h⟩ := hp
      show gJ X V 0 0 67 _ [.int r42] _ _
      refine j_istore_n (pc := 67) (lv' := [(3, .int r42), (0, .ref (V.2.1 200)), (1, .int v1), (2, .int v2)]) C dX10_tellLeft_67 rfl (by decide) rfl ?_
      refine j_aload_n (pc := 68) C dX10_tellLeft_68 rfl 1 rfl ?_
      refine j_getR (pc := 69) C 200 22 215 (c_200 hM).1 (c_200 hM).2 rfl rfl (by decide) inw_X10 wd_988 dX10_tellLeft_69 ?_
      refine j_iload_n (pc := 72) C dX10_tellLeft_72 rfl 0 rfl ?_
      obtain ⟨g43, h⟩ := h
      refine j_iald (pc := 73) C 215 (c_215 hM).1 (c_215 hM).2 g43 dX10_tellLeft_73 ?_
      refine gJ.topi (fun n44 en44 => ?_)
      have h := h n44 en44
      refine j_istore (pc := 74) (lv' := [(4, .int n44), (3, .int r42), (0, .ref (V.2.1 200)), (1, .int v1), (2, .int v2)]) C dX10_tellLeft_74 (by decide) rfl ?_
      refine gJ.sub [2, 3, 4, 1, 0] rfl ?_
      exact t_X10_tellLeft_76 hM C hX hR  hK49 h
set_option maxRecDepth 100000 in
set_option maxHeartbeats 4000000 in
theorem t_X10_tellLeft_49 {X : gX} {l : Launch} {D : va_G} {cy : Nat → ClassId} {nm : String} {V : gV} (hM : gModM V) (C : gC X cX10_tellLeft RX10 none 6 rm_X10_tellLeft) (hX : gIs X l D cy nm) {I : gI} {J : gL} {Po : gI → gL → Prop} (hR : gR X (gPv V (fun I' J' => Po I' J'))) {v1 : Int32} {v2 : Int32} (h : w_X10_tellLeft_49 Po v1 v2 I J) : gJ X V 0 0 49 [(0, .ref (V.2.1 200)), (1, .int v1), (2, .int v2)] [] I J := by
  unfold w_X10_tellLeft_49 at h
  obtain ⟨Inv, mu, h0, hs⟩ := h
  have key : ∀ (n : Nat) (v2 : Int32) (I : gI), Inv v2 I → mu v2 I < n → gJ X V 0 0 49 [(0, .ref (V.2.1 200)), (1, .int v1), (2, .int v2)] [] I J := by
    intro n
    induction n with
    | zero => intro v2 I hi hn; exact absurd hn (Nat.not_lt_zero _)
    | succ n ih =>
      intro v2 I hi hn
      exact t_X10_tellLeft_49b hM C hX hR   (fun u2 I1 hk => ih u2 I1 hk.1 (Nat.lt_of_lt_of_le hk.2 (Nat.le_of_lt_succ hn))) (hs v2 I hi)
  exact key _ v2 I h0 (Nat.lt_succ_self _)
set_option maxRecDepth 100000 in
set_option maxHeartbeats 4000000 in
theorem t_X10_tellLeft_37 {X : gX} {l : Launch} {D : va_G} {cy : Nat → ClassId} {nm : String} {V : gV} (hM : gModM V) (C : gC X cX10_tellLeft RX10 none 6 rm_X10_tellLeft) (hX : gIs X l D cy nm) {I : gI} {J : gL} {Po : gI → gL → Prop} (hR : gR X (gPv V (fun I' J' => Po I' J'))) {v1 : Int32} {v2 : Int32} {s0 : Int32} {s1 : Int32} {K14 : Int32 → gI → Prop} (hK14 : ∀ (y2 : Int32) (I1 : gI), K14 y2 I1 → gJ X V 0 0 14 [(0, .ref (V.2.1 200)), (1, .int v1), (2, .int y2)] [] I1 J) (h : w_X10_tellLeft_37 Po K14 v1 v2 s0 s1 I J) : gJ X V 0 0 37 [(0, .ref (V.2.1 200)), (1, .int v1), (2, .int v2)] [.int s0, .int s1, .ref (V.2.1 218)] I J := by
  unfold w_X10_tellLeft_37 at h
  obtain ⟨g54, h⟩ := h
  refine j_zast (pc := 37) C 218 (c_218 hM).1 (c_218 hM).2 g54 dX10_tellLeft_37 ?_
  refine gJ.nmI (fun I55 eI55 => ?_)
  have h := h I55 eI55
  obtain ⟨n56, en56⟩ : ∃ z : Int32, z = v2 + 1 := ⟨_, rfl⟩
  have h := h n56 en56
  refine j_iinc (pc := 38) (v := n56) (lv' := [(2, .int n56), (0, .ref (V.2.1 200)), (1, .int v1)]) C dX10_tellLeft_38 2 rfl (by rw [en56]; rfl) (by decide) rfl ?_
  refine j_goto (pc := 41) (tgt := 14) C dX10_tellLeft_41 (by decide) ?_
  refine gJ.sub [1, 2, 0] rfl ?_
  exact hK14 _ _ h
set_option maxRecDepth 100000 in
set_option maxHeartbeats 4000000 in
theorem t_X10_tellLeft_14b {X : gX} {l : Launch} {D : va_G} {cy : Nat → ClassId} {nm : String} {V : gV} (hM : gModM V) (C : gC X cX10_tellLeft RX10 none 6 rm_X10_tellLeft) (hX : gIs X l D cy nm) {I : gI} {J : gL} {Po : gI → gL → Prop} (hR : gR X (gPv V (fun I' J' => Po I' J'))) {v1 : Int32} {v2 : Int32} {K14 : Int32 → gI → Prop} (hK14 : ∀ (y2 : Int32) (I1 : gI), K14 y2 I1 → gJ X V 0 0 14 [(0, .ref (V.2.1 200)), (1, .int v1), (2, .int y2)] [] I1 J) (h : w_X10_tellLeft_14b Po K14 v1 v2 I J) : gJ X V 0 0 14 [(0, .ref (V.2.1 200)), (1, .int v1), (2, .int v2)] [] I J := by
  unfold w_X10_tellLeft_14b at h
  refine j_iload_n (pc := 14) C dX10_tellLeft_14 rfl 2 rfl ?_
  refine j_iload_n (pc := 15) C dX10_tellLeft_15 rfl 1 rfl ?_
  refine j_icmp_gt (pc := 16) (tgt := 44) C dX10_tellLeft_16 (by decide) (fun c4 => ?_) (fun c4 => ?_)
  · have h := h.1 c4
    refine j_aload_n (pc := 44) C dX10_tellLeft_44 rfl 0 rfl ?_
    refine j_getI (pc := 45) C 200 15 (c_200 hM).1 (c_200 hM).2 rfl rfl (by decide) inw_X10 wd_981 dX10_tellLeft_45 ?_
    refine gJ.topi (fun n5 en5 => ?_)
    have h := h n5 en5
    refine j_istore_n (pc := 48) (lv' := [(2, .int n5), (0, .ref (V.2.1 200)), (1, .int v1)]) C dX10_tellLeft_48 rfl (by decide) rfl ?_
    refine gJ.sub [1, 2, 0] rfl ?_
    exact t_X10_tellLeft_49 hM C hX hR   h
  · have h := h.2 c4
    refine j_aload_n (pc := 19) C dX10_tellLeft_19 rfl 0 rfl ?_
    refine j_getR (pc := 20) C 200 25 218 (c_200 hM).1 (c_200 hM).2 rfl rfl (by decide) inw_X10 wd_991 dX10_tellLeft_20 ?_
    refine j_iload_n (pc := 23) C dX10_tellLeft_23 rfl 2 rfl ?_
    refine j_iload_n (pc := 24) C dX10_tellLeft_24 rfl 2 rfl ?_
    refine j_aload_n (pc := 25) C dX10_tellLeft_25 rfl 0 rfl ?_
    refine j_getI (pc := 26) C 200 15 (c_200 hM).1 (c_200 hM).2 rfl rfl (by decide) inw_X10 wd_981 dX10_tellLeft_26 ?_
    refine j_icmp_ne (pc := 29) (tgt := 36) C dX10_tellLeft_29 (by decide) (fun c53 => ?_) (fun c53 => ?_)
    · have h := h.1 c53
      refine j_iconst (pc := 36) (v := 0) C dX10_tellLeft_36 (by decide) ?_
      refine gJ.sub [0, 1, 2] rfl ?_
      exact t_X10_tellLeft_37 hM C hX hR  hK14 h
    · have h := h.2 c53
      refine j_iconst (pc := 32) (v := 1) C dX10_tellLeft_32 (by decide) ?_
      refine j_goto (pc := 33) (tgt := 37) C dX10_tellLeft_33 (by decide) ?_
      refine gJ.sub [0, 1, 2] rfl ?_
      exact t_X10_tellLeft_37 hM C hX hR  hK14 h
set_option maxRecDepth 100000 in
set_option maxHeartbeats 4000000 in
theorem t_X10_tellLeft_14 {X : gX} {l : Launch} {D : va_G} {cy : Nat → ClassId} {nm : String} {V : gV} (hM : gModM V) (C : gC X cX10_tellLeft RX10 none 6 rm_X10_tellLeft) (hX : gIs X l D cy nm) {I : gI} {J : gL} {Po : gI → gL → Prop} (hR : gR X (gPv V (fun I' J' => Po I' J'))) {v1 : Int32} {v2 : Int32} (h : w_X10_tellLeft_14 Po v1 v2 I J) : gJ X V 0 0 14 [(0, .ref (V.2.1 200)), (1, .int v1), (2, .int v2)] [] I J := by
  unfold w_X10_tellLeft_14 at h
  obtain ⟨Inv, mu, h0, hs⟩ := h
  have key : ∀ (n : Nat) (v2 : Int32) (I : gI), Inv v2 I → mu v2 I < n → gJ X V 0 0 14 [(0, .ref (V.2.1 200)), (1, .int v1), (2, .int v2)] [] I J := by
    intro n
    induction n with
    | zero => intro v2 I hi hn; exact absurd hn (Nat.not_lt_zero _)
    | succ n ih =>
      intro v2 I hi hn
      exact t_X10_tellLeft_14b hM C hX hR   (fun u2 I1 hk => ih u2 I1 hk.1 (Nat.lt_of_lt_of_le hk.2 (Nat.le_of_lt_succ hn))) (hs v2 I hi)
  exact key _ v2 I h0 (Nat.lt_succ_self _)
set_option maxRecDepth 100000 in
set_option maxHeartbeats 4000000 in
theorem m_X10_tellLeft {l : Launch} {D : va_G} {cy : Nat → ClassId} {V : gV} (hM : gModM V) {I : gI} {J : gL} {Po : gI → gL → Prop} (h : wp_X10_tellLeft I J Po) : gMet l D cy yX10_tellLeft cX10_tellLeft 6 none rm_X10_tellLeft V [.ref (V.2.1 200)] I J (gPv V (fun I' J' => Po I' J')) := by
  refine gMet.of (by decide) (Nat.le_of_ble_eq_true rfl) (fun X hX C hR => ?_)
  have C : gC X cX10_tellLeft RX10 none 6 rm_X10_tellLeft := C
  show gJ X V 0 0 0 [(0, .ref (V.2.1 200))] [] I J
  unfold wp_X10_tellLeft at h
  refine j_aload_n (pc := 0) C dX10_tellLeft_0 rfl 0 rfl ?_
  refine j_callV (pc := 1) (As := []) (st := []) C hX 200 (m_X10_placeAll hM  h) (c_200 hM).1 (c_200 hM).2 rfl ok_X10_placeAll wd_1186 wd_1188 wd_50 ⟨by decide, by decide⟩ rfl rfl (Nat.le_of_ble_eq_true rfl) ⟨Nat.le_refl 0, Nat.le_refl 0⟩ dX10_tellLeft_1 (fun r V1 I1 J1 hp => ?_)
  obtain ⟨rfl, rfl, rfl, h⟩ := hp
  show gJ X V 0 0 4 _ [] _ _
  refine j_aload_n (pc := 4) C dX10_tellLeft_4 rfl 0 rfl ?_
  refine j_callV (pc := 5) (As := []) (st := []) C hX 200 (m_X10_cells hM  h) (c_200 hM).1 (c_200 hM).2 rfl ok_X10_cells wd_1210 wd_1212 wd_55 ⟨by decide, by decide⟩ rfl rfl (Nat.le_of_ble_eq_true rfl) ⟨Nat.le_refl 0, Nat.le_refl 0⟩ dX10_tellLeft_5 (fun r V1 I1 J1 hp => ?_)
  obtain ⟨r2, rfl, rfl, rfl, rfl, h⟩ := hp
  show gJ X V 0 0 8 _ [.int r2] _ _
  refine j_istore_n (pc := 8) (lv' := [(1, .int r2), (0, .ref (V.2.1 200))]) C dX10_tellLeft_8 rfl (by decide) rfl ?_
  refine j_aload_n (pc := 9) C dX10_tellLeft_9 rfl 1 rfl ?_
  refine j_getI (pc := 10) C 200 15 (c_200 hM).1 (c_200 hM).2 rfl rfl (by decide) inw_X10 wd_981 dX10_tellLeft_10 ?_
  refine gJ.topi (fun n3 en3 => ?_)
  have h := h n3 en3
  refine j_istore_n (pc := 13) (lv' := [(2, .int n3), (1, .int r2), (0, .ref (V.2.1 200))]) C dX10_tellLeft_13 rfl (by decide) rfl ?_
  refine gJ.sub [2, 1, 0] rfl ?_
  exact t_X10_tellLeft_14 hM C hX hR   h
/-! TileRulesModel.nextFit(III)I -/
abbrev rm_X10_nextFit : Room := { frames := 1, cells := 0, slots := 0, locals := 21 }
theorem ok_X10_nextFit : gOk yX10_nextFit cX10_nextFit 6 (some .int) 3 := ⟨wd_1224, wd_74, by decide +kernel⟩
def w_X10_nextFit_50  (Po : Int32 → Prop) (K16 : Int32 → Prop) (v2 : Int32) (v3 : Int32) (v4 : Int32) (v5 : Int32) (I : gI) : Prop :=
  ∀ n7 : Int32, n7 = v5 + 1 → K16 n7
def w_X10_nextFit_16b  (Po : Int32 → Prop) (K16 : Int32 → Prop) (v2 : Int32) (v3 : Int32) (v4 : Int32) (v5 : Int32) (I : gI) : Prop :=
  (v4 ≤ v5 → Po v5) ∧ (¬ v4 ≤ v5 → vp_in v5 1200 ∧ (¬ ((I 213 (v5).toNatClampNeg) &&& v2) = 0 → w_X10_nextFit_50 Po K16 v2 v3 v4 v5 I) ∧ (((I 213 (v5).toNatClampNeg) &&& v2) = 0 → vp_in v5 1200 ∧ (¬ ((v3 >>> ((I 214 (v5).toNatClampNeg) &&& 31)) &&& (1 : Int32)) = (1 : Int32) → Po v5) ∧ (((v3 >>> ((I 214 (v5).toNatClampNeg) &&& 31)) &&& (1 : Int32)) = (1 : Int32) → w_X10_nextFit_50 Po K16 v2 v3 v4 v5 I)))
def w_X10_nextFit_16  (Po : Int32 → Prop)  (v2 : Int32) (v3 : Int32) (v4 : Int32) (v5 : Int32) (I : gI) : Prop :=
  ∃ (Inv : Int32 → Prop) (mu : Int32 → Nat), Inv v5 ∧ ∀ (v5 : Int32), Inv v5 → w_X10_nextFit_16b  Po  (fun u5 => Inv u5 ∧ mu u5 < mu v5) v2 v3 v4 v5 I
def wp_X10_nextFit (a1 : Int32) (a2 : Int32) (a3 : Int32) (I : gI) (Po : Int32 → Prop) : Prop :=
  wp_X10_firstFree a2 (fun r1 => vp_in (r1 + (1 : Int32)) 22 ∧ ∀ n3 : Int32, n3 = (I 215 ((r1 + (1 : Int32))).toNatClampNeg) → w_X10_nextFit_16 Po a2 a3 n3 a1 I)
set_option maxRecDepth 100000 in
set_option maxHeartbeats 4000000 in
theorem t_X10_nextFit_50 {X : gX} {l : Launch} {D : va_G} {cy : Nat → ClassId} {nm : String} {V : gV} (hM : gModM V) (C : gC X cX10_nextFit RX10 (some .int) 6 rm_X10_nextFit) (hX : gIs X l D cy nm) {I : gI} {J : gL} {Po : Int32 → Prop} (hR : gR X (gPi V (fun x I' J' => I = I' ∧ J = J' ∧ Po x))) {v2 : Int32} {v3 : Int32} {v4 : Int32} {v5 : Int32} {K16 : Int32 → Prop} (hK16 : ∀ (y5 : Int32), K16 y5 → gJ X V 0 0 16 [(0, .ref (V.2.1 200)), (2, .int v2), (3, .int v3), (4, .int v4), (5, .int y5)] [] I J) (h : w_X10_nextFit_50 Po K16 v2 v3 v4 v5 I) : gJ X V 0 0 50 [(0, .ref (V.2.1 200)), (2, .int v2), (3, .int v3), (4, .int v4), (5, .int v5)] [] I J := by
  unfold w_X10_nextFit_50 at h
  obtain ⟨n7, en7⟩ : ∃ z : Int32, z = v5 + 1 := ⟨_, rfl⟩
  have h := h n7 en7
  refine j_iinc (pc := 50) (v := n7) (lv' := [(5, .int n7), (0, .ref (V.2.1 200)), (2, .int v2), (3, .int v3), (4, .int v4)]) C dX10_nextFit_50 4 rfl (by rw [en7]; rfl) (by decide) rfl ?_
  refine j_goto (pc := 53) (tgt := 16) C dX10_nextFit_53 (by decide) ?_
  refine gJ.sub [1, 2, 3, 4, 0] rfl ?_
  exact hK16 _ h
set_option maxRecDepth 100000 in
set_option maxHeartbeats 4000000 in
theorem t_X10_nextFit_16b {X : gX} {l : Launch} {D : va_G} {cy : Nat → ClassId} {nm : String} {V : gV} (hM : gModM V) (C : gC X cX10_nextFit RX10 (some .int) 6 rm_X10_nextFit) (hX : gIs X l D cy nm) {I : gI} {J : gL} {Po : Int32 → Prop} (hR : gR X (gPi V (fun x I' J' => I = I' ∧ J = J' ∧ Po x))) {v2 : Int32} {v3 : Int32} {v4 : Int32} {v5 : Int32} {K16 : Int32 → Prop} (hK16 : ∀ (y5 : Int32), K16 y5 → gJ X V 0 0 16 [(0, .ref (V.2.1 200)), (2, .int v2), (3, .int v3), (4, .int v4), (5, .int y5)] [] I J) (h : w_X10_nextFit_16b Po K16 v2 v3 v4 v5 I) : gJ X V 0 0 16 [(0, .ref (V.2.1 200)), (2, .int v2), (3, .int v3), (4, .int v4), (5, .int v5)] [] I J := by
  unfold w_X10_nextFit_16b at h
  refine j_iload (pc := 16) C dX10_nextFit_16 4 rfl ?_
  refine j_iload (pc := 18) C dX10_nextFit_18 3 rfl ?_
  refine j_icmp_ge (pc := 20) (tgt := 56) C dX10_nextFit_20 (by decide) (fun c4 => ?_) (fun c4 => ?_)
  · have h := h.1 c4
    refine j_iload (pc := 56) C dX10_nextFit_56 4 rfl ?_
    exact j_iret (pc := 58) C hR (Nat.zero_le _) (Nat.zero_le _) dX10_nextFit_58 ⟨_, rfl, rfl, rfl, rfl, h⟩
  · have h := h.2 c4
    refine j_aload_n (pc := 23) C dX10_nextFit_23 rfl 0 rfl ?_
    refine j_getR (pc := 24) C 200 20 213 (c_200 hM).1 (c_200 hM).2 rfl rfl (by decide) inw_X10 wd_986 dX10_nextFit_24 ?_
    refine j_iload (pc := 27) C dX10_nextFit_27 4 rfl ?_
    obtain ⟨g5, h⟩ := h
    refine j_iald (pc := 29) C 213 (c_213 hM).1 (c_213 hM).2 g5 dX10_nextFit_29 ?_
    refine j_iload_n (pc := 30) C dX10_nextFit_30 rfl 1 rfl ?_
    refine j_iand (pc := 31) C dX10_nextFit_31 ?_
    refine j_if_ne (pc := 32) (tgt := 50) C dX10_nextFit_32 (by decide) (fun c6 => ?_) (fun c6 => ?_)
    · have h := h.1 c6
      refine gJ.sub [0, 1, 2, 3, 4] rfl ?_
      exact t_X10_nextFit_50 hM C hX hR  hK16 h
    · have h := h.2 c6
      refine j_iload_n (pc := 35) C dX10_nextFit_35 rfl 2 rfl ?_
      refine j_aload_n (pc := 36) C dX10_nextFit_36 rfl 0 rfl ?_
      refine j_getR (pc := 37) C 200 21 214 (c_200 hM).1 (c_200 hM).2 rfl rfl (by decide) inw_X10 wd_987 dX10_nextFit_37 ?_
      refine j_iload (pc := 40) C dX10_nextFit_40 4 rfl ?_
      obtain ⟨g8, h⟩ := h
      refine j_iald (pc := 42) C 214 (c_214 hM).1 (c_214 hM).2 g8 dX10_nextFit_42 ?_
      refine j_ishr (pc := 43) C dX10_nextFit_43 ?_
      refine j_iconst (pc := 44) (v := 1) C dX10_nextFit_44 (by decide) ?_
      refine j_iand (pc := 45) C dX10_nextFit_45 ?_
      refine j_iconst (pc := 46) (v := 1) C dX10_nextFit_46 (by decide) ?_
      refine j_icmp_ne (pc := 47) (tgt := 56) C dX10_nextFit_47 (by decide) (fun c9 => ?_) (fun c9 => ?_)
      · have h := h.1 c9
        refine j_iload (pc := 56) C dX10_nextFit_56 4 rfl ?_
        exact j_iret (pc := 58) C hR (Nat.zero_le _) (Nat.zero_le _) dX10_nextFit_58 ⟨_, rfl, rfl, rfl, rfl, h⟩
      · have h := h.2 c9
        refine gJ.sub [0, 1, 2, 3, 4] rfl ?_
        exact t_X10_nextFit_50 hM C hX hR  hK16 h
set_option maxRecDepth 100000 in
set_option maxHeartbeats 4000000 in
theorem t_X10_nextFit_16 {X : gX} {l : Launch} {D : va_G} {cy : Nat → ClassId} {nm : String} {V : gV} (hM : gModM V) (C : gC X cX10_nextFit RX10 (some .int) 6 rm_X10_nextFit) (hX : gIs X l D cy nm) {I : gI} {J : gL} {Po : Int32 → Prop} (hR : gR X (gPi V (fun x I' J' => I = I' ∧ J = J' ∧ Po x))) {v2 : Int32} {v3 : Int32} {v4 : Int32} {v5 : Int32} (h : w_X10_nextFit_16 Po v2 v3 v4 v5 I) : gJ X V 0 0 16 [(0, .ref (V.2.1 200)), (2, .int v2), (3, .int v3), (4, .int v4), (5, .int v5)] [] I J := by
  unfold w_X10_nextFit_16 at h
  obtain ⟨Inv, mu, h0, hs⟩ := h
  have key : ∀ (n : Nat) (v5 : Int32), Inv v5 → mu v5 < n → gJ X V 0 0 16 [(0, .ref (V.2.1 200)), (2, .int v2), (3, .int v3), (4, .int v4), (5, .int v5)] [] I J := by
    intro n
    induction n with
    | zero => intro v5 hi hn; exact absurd hn (Nat.not_lt_zero _)
    | succ n ih =>
      intro v5 hi hn
      exact t_X10_nextFit_16b hM C hX hR   (fun u5 hk => ih u5 hk.1 (Nat.lt_of_lt_of_le hk.2 (Nat.le_of_lt_succ hn))) (hs v5 hi)
  exact key _ v5 h0 (Nat.lt_succ_self _)
set_option maxRecDepth 100000 in
set_option maxHeartbeats 4000000 in
theorem m_X10_nextFit {l : Launch} {D : va_G} {cy : Nat → ClassId} {V : gV} (hM : gModM V) {a1 : Int32} {a2 : Int32} {a3 : Int32} {I : gI} {J : gL} {Po : Int32 → Prop} (h : wp_X10_nextFit a1 a2 a3 I Po) : gMet l D cy yX10_nextFit cX10_nextFit 6 (some .int) rm_X10_nextFit V [.ref (V.2.1 200), .int a1, .int a2, .int a3] I J (gPi V (fun x I' J' => I = I' ∧ J = J' ∧ Po x)) := by
  refine gMet.of (by decide) (Nat.le_of_ble_eq_true rfl) (fun X hX C hR => ?_)
  have C : gC X cX10_nextFit RX10 (some .int) 6 rm_X10_nextFit := C
  show gJ X V 0 0 0 [(0, .ref (V.2.1 200)), (1, .int a1), (2, .int a2), (3, .int a3)] [] I J
  unfold wp_X10_nextFit at h
  refine j_aload_n (pc := 0) C dX10_nextFit_0 rfl 0 rfl ?_
  refine j_getR (pc := 1) C 200 22 215 (c_200 hM).1 (c_200 hM).2 rfl rfl (by decide) inw_X10 wd_988 dX10_nextFit_1 ?_
  refine j_iload_n (pc := 4) C dX10_nextFit_4 rfl 2 rfl ?_
  refine j_callS (pc := 5) (As := [.int a2]) (st := [.ref (V.2.1 215)]) C hX (m_X10_firstFree   h) ok_X10_firstFree wd_1214 wd_1215 ⟨by decide, by decide⟩ rfl rfl (Nat.le_of_ble_eq_true rfl) ⟨Nat.le_refl 0, Nat.le_refl 0⟩ dX10_nextFit_5 (fun r V1 I1 J1 hp => ?_)
  obtain ⟨r1, rfl, rfl, rfl, rfl, h⟩ := hp
  show gJ X V 0 0 8 _ [.int r1, .ref (V.2.1 215)] _ _
  refine j_iconst (pc := 8) (v := 1) C dX10_nextFit_8 (by decide) ?_
  refine j_iadd (pc := 9) C dX10_nextFit_9 ?_
  obtain ⟨g2, h⟩ := h
  refine j_iald (pc := 10) C 215 (c_215 hM).1 (c_215 hM).2 g2 dX10_nextFit_10 ?_
  refine gJ.topi (fun n3 en3 => ?_)
  have h := h n3 en3
  refine j_istore (pc := 11) (lv' := [(4, .int n3), (0, .ref (V.2.1 200)), (1, .int a1), (2, .int a2), (3, .int a3)]) C dX10_nextFit_11 (by decide) rfl ?_
  refine j_iload_n (pc := 13) C dX10_nextFit_13 rfl 2 rfl ?_
  refine j_istore (pc := 14) (lv' := [(5, .int a1), (4, .int n3), (0, .ref (V.2.1 200)), (1, .int a1), (2, .int a2), (3, .int a3)]) C dX10_nextFit_14 (by decide) rfl ?_
  refine gJ.sub [2, 4, 5, 1, 0] rfl ?_
  exact t_X10_nextFit_16 hM C hX hR   h
/-! TileRulesModel.seek(IIZ)V -/
abbrev rm_X10_seek : Room := { frames := 2, cells := 0, slots := 0, locals := 46 }
theorem ok_X10_seek : gOk yX10_seek cX10_seek 8 none 3 := ⟨wd_1220, wd_74, by decide +kernel⟩
def w_X10_seek_272  (Po : gI → gL → Prop) (K41 : Int32 → gI → gL → Prop) (v3 : Int32) (v4 : Int32) (v5 : Int32) (I : gI) (J : gL) : Prop :=
  K41 v5 I J
def w_X10_seek_161  (Po : gI → gL → Prop) (K41 : Int32 → gI → gL → Prop) (v3 : Int32) (v4 : Int32) (v5 : Int32) (v6 : Int32) (s0 : Int32) (I : gI) (J : gL) : Prop :=
  vp_in v5 8 ∧ vp_in v5 8 ∧ wp_X10_nextFit s0 (I 220 (v5).toNatClampNeg) (I 221 (v5).toNatClampNeg) I (fun r20 => vp_in v5 8 ∧ ∀ I22 : gI, I22 = gup I 219 (v5).toNatClampNeg r20 → vp_in (v6 + (1 : Int32)) 22 ∧ (¬ r20 = (I22 215 ((v6 + (1 : Int32))).toNatClampNeg) → vp_in v5 8 ∧ vp_in r20 1200 ∧ vp_in (v5 + (1 : Int32)) 8 ∧ ∀ I28 : gI, I28 = gup I22 220 ((v5 + (1 : Int32))).toNatClampNeg ((I22 220 (v5).toNatClampNeg) ||| (I22 213 (r20).toNatClampNeg)) → vp_in v5 8 ∧ vp_in r20 1200 ∧ vp_in (v5 + (1 : Int32)) 8 ∧ ∀ I32 : gI, I32 = gup I28 221 ((v5 + (1 : Int32))).toNatClampNeg ((I28 221 (v5).toNatClampNeg) ||| ((1 : Int32) <<< ((I28 214 (r20).toNatClampNeg) &&& 31))) → vp_in (v5 + (1 : Int32)) 8 ∧ ∀ I34 : gI, I34 = gup I32 219 ((v5 + (1 : Int32))).toNatClampNeg (-1 : Int32) → ∀ n35 : Int32, n35 = v5 + 1 → w_X10_seek_272 Po K41 v3 v4 n35 I34 J) ∧ (r20 = (I22 215 ((v6 + (1 : Int32))).toNatClampNeg) → ∀ n36 : Int32, n36 = v5 + (-1) → w_X10_seek_272 Po K41 v3 v4 n36 I22 J))
def w_X10_seek_112  (Po : gI → gL → Prop) (K41 : Int32 → gI → gL → Prop) (v3 : Int32) (v4 : Int32) (v5 : Int32) (I : gI) (J : gL) : Prop :=
  ∀ n42 : Int32, n42 = v5 + (-1) → K41 n42 I J
def w_X10_seek_109  (Po : gI → gL → Prop) (K41 : Int32 → gI → gL → Prop) (v3 : Int32) (v4 : Int32) (v5 : Int32) (s0 : Int32) (I : gI) (J : gL) : Prop :=
  ∀ I41 : gI, I41 = gup I 200 30 s0 → w_X10_seek_112 Po K41 v3 v4 v5 I41 J
def w_X10_seek_80  (Po : gI → gL → Prop) (K41 : Int32 → gI → gL → Prop) (v3 : Int32) (v4 : Int32) (v5 : Int32) (I : gI) (J : gL) : Prop :=
  ∀ J39 : gL, J39 = gup J 200 29 ((J 200 29) + (1 : Int64)) → ((I 200 30) ≤ v5 → w_X10_seek_109 Po K41 v3 v4 v5 (I 200 30) I J39) ∧ (¬ (I 200 30) ≤ v5 → w_X10_seek_109 Po K41 v3 v4 v5 v5 I J39)
def w_X10_seek_41b  (Po : gI → gL → Prop) (K41 : Int32 → gI → gL → Prop) (v3 : Int32) (v4 : Int32) (v5 : Int32) (I : gI) (J : gL) : Prop :=
  (v5 < 0 → Po I J) ∧ (¬ v5 < 0 → vp_in v5 8 ∧ (¬ (I 220 (v5).toNatClampNeg) = v4 → vp_in v5 8 ∧ wp_X10_firstFree (I 220 (v5).toNatClampNeg) (fun r14 => vp_in v5 8 ∧ (¬ (I 219 (v5).toNatClampNeg) = (-1 : Int32) → vp_in v5 8 ∧ w_X10_seek_161 Po K41 v3 v4 v5 r14 ((I 219 (v5).toNatClampNeg) + (1 : Int32)) I J) ∧ ((I 219 (v5).toNatClampNeg) = (-1 : Int32) → vp_in r14 22 ∧ w_X10_seek_161 Po K41 v3 v4 v5 r14 (I 215 (r14).toNatClampNeg) I J))) ∧ ((I 220 (v5).toNatClampNeg) = v4 → (v3 = 0 → w_X10_seek_80 Po K41 v3 v4 v5 I J) ∧ (¬ v3 = 0 → vp_in v5 8 ∧ (¬ (I 221 (v5).toNatClampNeg) = (((1 : Int32) <<< ((I 200 11) &&& 31)) - (1 : Int32)) → w_X10_seek_112 Po K41 v3 v4 v5 I J) ∧ ((I 221 (v5).toNatClampNeg) = (((1 : Int32) <<< ((I 200 11) &&& 31)) - (1 : Int32)) → w_X10_seek_80 Po K41 v3 v4 v5 I J))))
def w_X10_seek_41  (Po : gI → gL → Prop)  (v3 : Int32) (v4 : Int32) (v5 : Int32) (I : gI) (J : gL) : Prop :=
  ∃ (Inv : Int32 → gI → gL → Prop) (mu : Int32 → gI → gL → Nat), Inv v5 I J ∧ ∀ (v5 : Int32) (I : gI) (J : gL), Inv v5 I J → w_X10_seek_41b  Po  (fun u5 I1 J1 => Inv u5 I1 J1 ∧ mu u5 I1 J1 < mu v5 I J) v3 v4 v5 I J
def wp_X10_seek (a1 : Int32) (a2 : Int32) (a3 : Int32) (I : gI) (J : gL) (Po : gI → gL → Prop) : Prop :=
  wp_X10_cells I (fun r1 => ∀ J2 : gL, J2 = gup J 200 29 (0 : Int64) → ∀ I3 : gI, I3 = gup I 200 30 (100 : Int32) → vp_in (0 : Int32) 8 ∧ ∀ I5 : gI, I5 = gup I3 220 ((0 : Int32)).toNatClampNeg a1 → vp_in (0 : Int32) 8 ∧ ∀ I7 : gI, I7 = gup I5 221 ((0 : Int32)).toNatClampNeg a2 → vp_in (0 : Int32) 8 ∧ ∀ I9 : gI, I9 = gup I7 219 ((0 : Int32)).toNatClampNeg (-1 : Int32) → w_X10_seek_41 Po a3 r1 (0 : Int32) I9 J2)
set_option maxRecDepth 100000 in
set_option maxHeartbeats 4000000 in
theorem t_X10_seek_272 {X : gX} {l : Launch} {D : va_G} {cy : Nat → ClassId} {nm : String} {V : gV} (hM : gModM V) (C : gC X cX10_seek RX10 none 8 rm_X10_seek) (hX : gIs X l D cy nm) {I : gI} {J : gL} {Po : gI → gL → Prop} (hR : gR X (gPv V (fun I' J' => Po I' J'))) {v3 : Int32} {v4 : Int32} {v5 : Int32} {K41 : Int32 → gI → gL → Prop} (hK41 : ∀ (y5 : Int32) (I1 : gI) (J1 : gL), K41 y5 I1 J1 → gJ X V 0 0 41 [(0, .ref (V.2.1 200)), (3, .int v3), (4, .int v4), (5, .int y5)] [] I1 J1) (h : w_X10_seek_272 Po K41 v3 v4 v5 I J) : gJ X V 0 0 272 [(0, .ref (V.2.1 200)), (3, .int v3), (4, .int v4), (5, .int v5)] [] I J := by
  unfold w_X10_seek_272 at h
  refine j_goto (pc := 272) (tgt := 41) C dX10_seek_272 (by decide) ?_
  refine gJ.sub [0, 1, 2, 3] rfl ?_
  exact hK41 _ _ _ h
set_option maxRecDepth 100000 in
set_option maxHeartbeats 4000000 in
theorem t_X10_seek_161 {X : gX} {l : Launch} {D : va_G} {cy : Nat → ClassId} {nm : String} {V : gV} (hM : gModM V) (C : gC X cX10_seek RX10 none 8 rm_X10_seek) (hX : gIs X l D cy nm) {I : gI} {J : gL} {Po : gI → gL → Prop} (hR : gR X (gPv V (fun I' J' => Po I' J'))) {v3 : Int32} {v4 : Int32} {v5 : Int32} {v6 : Int32} {s0 : Int32} {K41 : Int32 → gI → gL → Prop} (hK41 : ∀ (y5 : Int32) (I1 : gI) (J1 : gL), K41 y5 I1 J1 → gJ X V 0 0 41 [(0, .ref (V.2.1 200)), (3, .int v3), (4, .int v4), (5, .int y5)] [] I1 J1) (h : w_X10_seek_161 Po K41 v3 v4 v5 v6 s0 I J) : gJ X V 0 0 161 [(0, .ref (V.2.1 200)), (3, .int v3), (4, .int v4), (5, .int v5), (6, .int v6)] [.int s0, .ref (V.2.1 200)] I J := by
  unfold w_X10_seek_161 at h
  refine j_aload_n (pc := 161) C dX10_seek_161 rfl 0 rfl ?_
  refine j_getR (pc := 162) C 200 27 220 (c_200 hM).1 (c_200 hM).2 rfl rfl (by decide) inw_X10 wd_993 dX10_seek_162 ?_
  refine j_iload (pc := 165) C dX10_seek_165 3 rfl ?_
  obtain ⟨g18, h⟩ := h
  refine j_iald (pc := 167) C 220 (c_220 hM).1 (c_220 hM).2 g18 dX10_seek_167 ?_
  refine j_aload_n (pc := 168) C dX10_seek_168 rfl 0 rfl ?_
  refine j_getR (pc := 169) C 200 28 221 (c_200 hM).1 (c_200 hM).2 rfl rfl (by decide) inw_X10 wd_994 dX10_seek_169 ?_
  refine j_iload (pc := 172) C dX10_seek_172 3 rfl ?_
  obtain ⟨g19, h⟩ := h
  refine j_iald (pc := 174) C 221 (c_221 hM).1 (c_221 hM).2 g19 dX10_seek_174 ?_
  refine j_callV (pc := 175) (As := [.int s0, .int (I 220 (v5).toNatClampNeg), .int (I 221 (v5).toNatClampNeg)]) (st := []) C hX 200 (m_X10_nextFit hM  h) (c_200 hM).1 (c_200 hM).2 rfl ok_X10_nextFit wd_1221 wd_1223 wd_57 ⟨by decide, by decide⟩ rfl rfl (Nat.le_of_ble_eq_true rfl) ⟨Nat.le_refl 0, Nat.le_refl 0⟩ dX10_seek_175 (fun r V1 I1 J1 hp => ?_)
  obtain ⟨r20, rfl, rfl, rfl, rfl, h⟩ := hp
  show gJ X V 0 0 178 _ [.int r20] _ _
  refine j_istore (pc := 178) (lv' := [(7, .int r20), (0, .ref (V.2.1 200)), (3, .int v3), (4, .int v4), (5, .int v5), (6, .int v6)]) C dX10_seek_178 (by decide) rfl ?_
  refine j_aload_n (pc := 180) C dX10_seek_180 rfl 1 rfl ?_
  refine j_getR (pc := 181) C 200 26 219 (c_200 hM).1 (c_200 hM).2 rfl rfl (by decide) inw_X10 wd_992 dX10_seek_181 ?_
  refine j_iload (pc := 184) C dX10_seek_184 4 rfl ?_
  refine j_iload (pc := 186) C dX10_seek_186 0 rfl ?_
  obtain ⟨g21, h⟩ := h
  refine j_iast (pc := 188) C 219 (c_219 hM).1 (c_219 hM).2 g21 dX10_seek_188 ?_
  refine gJ.nmI (fun I22 eI22 => ?_)
  have h := h I22 eI22
  refine j_iload (pc := 189) C dX10_seek_189 0 rfl ?_
  refine j_aload_n (pc := 191) C dX10_seek_191 rfl 1 rfl ?_
  refine j_getR (pc := 192) C 200 22 215 (c_200 hM).1 (c_200 hM).2 rfl rfl (by decide) inw_X10 wd_988 dX10_seek_192 ?_
  refine j_iload (pc := 195) C dX10_seek_195 5 rfl ?_
  refine j_iconst (pc := 197) (v := 1) C dX10_seek_197 (by decide) ?_
  refine j_iadd (pc := 198) C dX10_seek_198 ?_
  obtain ⟨g23, h⟩ := h
  refine j_iald (pc := 199) C 215 (c_215 hM).1 (c_215 hM).2 g23 dX10_seek_199 ?_
  refine j_icmp_ne (pc := 200) (tgt := 209) C dX10_seek_200 (by decide) (fun c24 => ?_) (fun c24 => ?_)
  · have h := h.1 c24
    refine j_aload_n (pc := 209) C dX10_seek_209 rfl 1 rfl ?_
    refine j_getR (pc := 210) C 200 27 220 (c_200 hM).1 (c_200 hM).2 rfl rfl (by decide) inw_X10 wd_993 dX10_seek_210 ?_
    refine j_iload (pc := 213) C dX10_seek_213 4 rfl ?_
    refine j_iconst (pc := 215) (v := 1) C dX10_seek_215 (by decide) ?_
    refine j_iadd (pc := 216) C dX10_seek_216 ?_
    refine j_aload_n (pc := 217) C dX10_seek_217 rfl 1 rfl ?_
    refine j_getR (pc := 218) C 200 27 220 (c_200 hM).1 (c_200 hM).2 rfl rfl (by decide) inw_X10 wd_993 dX10_seek_218 ?_
    refine j_iload (pc := 221) C dX10_seek_221 4 rfl ?_
    obtain ⟨g25, h⟩ := h
    refine j_iald (pc := 223) C 220 (c_220 hM).1 (c_220 hM).2 g25 dX10_seek_223 ?_
    refine j_aload_n (pc := 224) C dX10_seek_224 rfl 1 rfl ?_
    refine j_getR (pc := 225) C 200 20 213 (c_200 hM).1 (c_200 hM).2 rfl rfl (by decide) inw_X10 wd_986 dX10_seek_225 ?_
    refine j_iload (pc := 228) C dX10_seek_228 0 rfl ?_
    obtain ⟨g26, h⟩ := h
    refine j_iald (pc := 230) C 213 (c_213 hM).1 (c_213 hM).2 g26 dX10_seek_230 ?_
    refine j_ior (pc := 231) C dX10_seek_231 ?_
    obtain ⟨g27, h⟩ := h
    refine j_iast (pc := 232) C 220 (c_220 hM).1 (c_220 hM).2 g27 dX10_seek_232 ?_
    refine gJ.nmI (fun I28 eI28 => ?_)
    have h := h I28 eI28
    refine j_aload_n (pc := 233) C dX10_seek_233 rfl 1 rfl ?_
    refine j_getR (pc := 234) C 200 28 221 (c_200 hM).1 (c_200 hM).2 rfl rfl (by decide) inw_X10 wd_994 dX10_seek_234 ?_
    refine j_iload (pc := 237) C dX10_seek_237 4 rfl ?_
    refine j_iconst (pc := 239) (v := 1) C dX10_seek_239 (by decide) ?_
    refine j_iadd (pc := 240) C dX10_seek_240 ?_
    refine j_aload_n (pc := 241) C dX10_seek_241 rfl 1 rfl ?_
    refine j_getR (pc := 242) C 200 28 221 (c_200 hM).1 (c_200 hM).2 rfl rfl (by decide) inw_X10 wd_994 dX10_seek_242 ?_
    refine j_iload (pc := 245) C dX10_seek_245 4 rfl ?_
    obtain ⟨g29, h⟩ := h
    refine j_iald (pc := 247) C 221 (c_221 hM).1 (c_221 hM).2 g29 dX10_seek_247 ?_
    refine j_iconst (pc := 248) (v := 1) C dX10_seek_248 (by decide) ?_
    refine j_aload_n (pc := 249) C dX10_seek_249 rfl 1 rfl ?_
    refine j_getR (pc := 250) C 200 21 214 (c_200 hM).1 (c_200 hM).2 rfl rfl (by decide) inw_X10 wd_987 dX10_seek_250 ?_
    refine j_iload (pc := 253) C dX10_seek_253 0 rfl ?_
    obtain ⟨g30, h⟩ := h
    refine j_iald (pc := 255) C 214 (c_214 hM).1 (c_214 hM).2 g30 dX10_seek_255 ?_
    refine j_ishl (pc := 256) C dX10_seek_256 ?_
    refine j_ior (pc := 257) C dX10_seek_257 ?_
    obtain ⟨g31, h⟩ := h
    refine j_iast (pc := 258) C 221 (c_221 hM).1 (c_221 hM).2 g31 dX10_seek_258 ?_
    refine gJ.nmI (fun I32 eI32 => ?_)
    have h := h I32 eI32
    refine j_aload_n (pc := 259) C dX10_seek_259 rfl 1 rfl ?_
    refine j_getR (pc := 260) C 200 26 219 (c_200 hM).1 (c_200 hM).2 rfl rfl (by decide) inw_X10 wd_992 dX10_seek_260 ?_
    refine j_iload (pc := 263) C dX10_seek_263 4 rfl ?_
    refine j_iconst (pc := 265) (v := 1) C dX10_seek_265 (by decide) ?_
    refine j_iadd (pc := 266) C dX10_seek_266 ?_
    refine j_iconst (pc := 267) (v := (-1)) C dX10_seek_267 (by decide) ?_
    obtain ⟨g33, h⟩ := h
    refine j_iast (pc := 268) C 219 (c_219 hM).1 (c_219 hM).2 g33 dX10_seek_268 ?_
    refine gJ.nmI (fun I34 eI34 => ?_)
    have h := h I34 eI34
    obtain ⟨n35, en35⟩ : ∃ z : Int32, z = v5 + 1 := ⟨_, rfl⟩
    have h := h n35 en35
    refine j_iinc (pc := 269) (v := n35) (lv' := [(5, .int n35), (7, .int r20), (0, .ref (V.2.1 200)), (3, .int v3), (4, .int v4), (6, .int v6)]) C dX10_seek_269 4 rfl (by rw [en35]; rfl) (by decide) rfl ?_
    refine gJ.sub [2, 3, 4, 0] rfl ?_
    exact t_X10_seek_272 hM C hX hR  hK41 h
  · have h := h.2 c24
    obtain ⟨n36, en36⟩ : ∃ z : Int32, z = v5 + (-1) := ⟨_, rfl⟩
    have h := h n36 en36
    refine j_iinc (pc := 203) (v := n36) (lv' := [(5, .int n36), (7, .int r20), (0, .ref (V.2.1 200)), (3, .int v3), (4, .int v4), (6, .int v6)]) C dX10_seek_203 4 rfl (by rw [en36]; rfl) (by decide) rfl ?_
    refine j_goto (pc := 206) (tgt := 272) C dX10_seek_206 (by decide) ?_
    refine gJ.sub [2, 3, 4, 0] rfl ?_
    exact t_X10_seek_272 hM C hX hR  hK41 h
set_option maxRecDepth 100000 in
set_option maxHeartbeats 4000000 in
theorem t_X10_seek_112 {X : gX} {l : Launch} {D : va_G} {cy : Nat → ClassId} {nm : String} {V : gV} (hM : gModM V) (C : gC X cX10_seek RX10 none 8 rm_X10_seek) (hX : gIs X l D cy nm) {I : gI} {J : gL} {Po : gI → gL → Prop} (hR : gR X (gPv V (fun I' J' => Po I' J'))) {v3 : Int32} {v4 : Int32} {v5 : Int32} {K41 : Int32 → gI → gL → Prop} (hK41 : ∀ (y5 : Int32) (I1 : gI) (J1 : gL), K41 y5 I1 J1 → gJ X V 0 0 41 [(0, .ref (V.2.1 200)), (3, .int v3), (4, .int v4), (5, .int y5)] [] I1 J1) (h : w_X10_seek_112 Po K41 v3 v4 v5 I J) : gJ X V 0 0 112 [(0, .ref (V.2.1 200)), (3, .int v3), (4, .int v4), (5, .int v5)] [] I J := by
  unfold w_X10_seek_112 at h
  obtain ⟨n42, en42⟩ : ∃ z : Int32, z = v5 + (-1) := ⟨_, rfl⟩
  have h := h n42 en42
  refine j_iinc (pc := 112) (v := n42) (lv' := [(5, .int n42), (0, .ref (V.2.1 200)), (3, .int v3), (4, .int v4)]) C dX10_seek_112 3 rfl (by rw [en42]; rfl) (by decide) rfl ?_
  refine j_goto (pc := 115) (tgt := 41) C dX10_seek_115 (by decide) ?_
  refine gJ.sub [1, 2, 3, 0] rfl ?_
  exact hK41 _ _ _ h
set_option maxRecDepth 100000 in
set_option maxHeartbeats 4000000 in
theorem t_X10_seek_109 {X : gX} {l : Launch} {D : va_G} {cy : Nat → ClassId} {nm : String} {V : gV} (hM : gModM V) (C : gC X cX10_seek RX10 none 8 rm_X10_seek) (hX : gIs X l D cy nm) {I : gI} {J : gL} {Po : gI → gL → Prop} (hR : gR X (gPv V (fun I' J' => Po I' J'))) {v3 : Int32} {v4 : Int32} {v5 : Int32} {s0 : Int32} {K41 : Int32 → gI → gL → Prop} (hK41 : ∀ (y5 : Int32) (I1 : gI) (J1 : gL), K41 y5 I1 J1 → gJ X V 0 0 41 [(0, .ref (V.2.1 200)), (3, .int v3), (4, .int v4), (5, .int y5)] [] I1 J1) (h : w_X10_seek_109 Po K41 v3 v4 v5 s0 I J) : gJ X V 0 0 109 [(0, .ref (V.2.1 200)), (3, .int v3), (4, .int v4), (5, .int v5)] [.int s0, .ref (V.2.1 200)] I J := by
  unfold w_X10_seek_109 at h
  refine j_putI (pc := 109) (ft := .int) C tyX10 tyX10_ok nmX10 200 30 (c_200 hM).1 (c_200 hM).2 rfl rfl (by decide) inw_X10 wd_996 rfl (by decide +kernel) rfl rfl dX10_seek_109 ?_
  refine gJ.nmI (fun I41 eI41 => ?_)
  have h := h I41 eI41
  refine gJ.sub [0, 1, 2, 3] rfl ?_
  exact t_X10_seek_112 hM C hX hR  hK41 h
set_option maxRecDepth 100000 in
set_option maxHeartbeats 4000000 in
theorem t_X10_seek_80 {X : gX} {l : Launch} {D : va_G} {cy : Nat → ClassId} {nm : String} {V : gV} (hM : gModM V) (C : gC X cX10_seek RX10 none 8 rm_X10_seek) (hX : gIs X l D cy nm) {I : gI} {J : gL} {Po : gI → gL → Prop} (hR : gR X (gPv V (fun I' J' => Po I' J'))) {v3 : Int32} {v4 : Int32} {v5 : Int32} {K41 : Int32 → gI → gL → Prop} (hK41 : ∀ (y5 : Int32) (I1 : gI) (J1 : gL), K41 y5 I1 J1 → gJ X V 0 0 41 [(0, .ref (V.2.1 200)), (3, .int v3), (4, .int v4), (5, .int y5)] [] I1 J1) (h : w_X10_seek_80 Po K41 v3 v4 v5 I J) : gJ X V 0 0 80 [(0, .ref (V.2.1 200)), (3, .int v3), (4, .int v4), (5, .int v5)] [] I J := by
  unfold w_X10_seek_80 at h
  refine j_aload_n (pc := 80) C dX10_seek_80 rfl 0 rfl ?_
  refine j_dup (pc := 81) C dX10_seek_81 rfl ?_
  refine j_getL (pc := 82) C 200 29 (c_200 hM).1 (c_200 hM).2 rfl rfl (by decide) inw_X10 wd_995 dX10_seek_82 ?_
  refine j_lconst (pc := 85) (v := 1) C dX10_seek_85 (by decide) ?_
  refine j_ladd (pc := 86) C dX10_seek_86 ?_
  refine j_putL (pc := 87) (ft := .long) C tyX10 tyX10_ok nmX10 200 29 (c_200 hM).1 (c_200 hM).2 rfl rfl (by decide) inw_X10 wd_995 rfl (by decide +kernel) rfl rfl dX10_seek_87 ?_
  refine gJ.nmJ (fun J39 eJ39 => ?_)
  have h := h J39 eJ39
  refine j_aload_n (pc := 90) C dX10_seek_90 rfl 0 rfl ?_
  refine j_iload (pc := 91) C dX10_seek_91 3 rfl ?_
  refine j_aload_n (pc := 93) C dX10_seek_93 rfl 0 rfl ?_
  refine j_getI (pc := 94) C 200 30 (c_200 hM).1 (c_200 hM).2 rfl rfl (by decide) inw_X10 wd_996 dX10_seek_94 ?_
  refine j_icmp_ge (pc := 97) (tgt := 105) C dX10_seek_97 (by decide) (fun c40 => ?_) (fun c40 => ?_)
  · have h := h.1 c40
    refine j_aload_n (pc := 105) C dX10_seek_105 rfl 0 rfl ?_
    refine j_getI (pc := 106) C 200 30 (c_200 hM).1 (c_200 hM).2 rfl rfl (by decide) inw_X10 wd_996 dX10_seek_106 ?_
    refine gJ.sub [0, 1, 2, 3] rfl ?_
    exact t_X10_seek_109 hM C hX hR  hK41 h
  · have h := h.2 c40
    refine j_iload (pc := 100) C dX10_seek_100 3 rfl ?_
    refine j_goto (pc := 102) (tgt := 109) C dX10_seek_102 (by decide) ?_
    refine gJ.sub [0, 1, 2, 3] rfl ?_
    exact t_X10_seek_109 hM C hX hR  hK41 h
set_option maxRecDepth 100000 in
set_option maxHeartbeats 4000000 in
theorem t_X10_seek_41b {X : gX} {l : Launch} {D : va_G} {cy : Nat → ClassId} {nm : String} {V : gV} (hM : gModM V) (C : gC X cX10_seek RX10 none 8 rm_X10_seek) (hX : gIs X l D cy nm) {I : gI} {J : gL} {Po : gI → gL → Prop} (hR : gR X (gPv V (fun I' J' => Po I' J'))) {v3 : Int32} {v4 : Int32} {v5 : Int32} {K41 : Int32 → gI → gL → Prop} (hK41 : ∀ (y5 : Int32) (I1 : gI) (J1 : gL), K41 y5 I1 J1 → gJ X V 0 0 41 [(0, .ref (V.2.1 200)), (3, .int v3), (4, .int v4), (5, .int y5)] [] I1 J1) (h : w_X10_seek_41b Po K41 v3 v4 v5 I J) : gJ X V 0 0 41 [(0, .ref (V.2.1 200)), (3, .int v3), (4, .int v4), (5, .int v5)] [] I J := by
  unfold w_X10_seek_41b at h
  refine j_iload (pc := 41) C dX10_seek_41 3 rfl ?_
  refine j_if_lt (pc := 43) (tgt := 275) C dX10_seek_43 (by decide) (fun c10 => ?_) (fun c10 => ?_)
  · have h := h.1 c10
    exact j_vret (pc := 275) C hR (Nat.zero_le _) (Nat.zero_le _) dX10_seek_275 ⟨rfl, rfl, h⟩
  · have h := h.2 c10
    refine j_aload_n (pc := 46) C dX10_seek_46 rfl 0 rfl ?_
    refine j_getR (pc := 47) C 200 27 220 (c_200 hM).1 (c_200 hM).2 rfl rfl (by decide) inw_X10 wd_993 dX10_seek_47 ?_
    refine j_iload (pc := 50) C dX10_seek_50 3 rfl ?_
    obtain ⟨g11, h⟩ := h
    refine j_iald (pc := 52) C 220 (c_220 hM).1 (c_220 hM).2 g11 dX10_seek_52 ?_
    refine j_iload (pc := 53) C dX10_seek_53 2 rfl ?_
    refine j_icmp_ne (pc := 55) (tgt := 118) C dX10_seek_55 (by decide) (fun c12 => ?_) (fun c12 => ?_)
    · have h := h.1 c12
      refine j_aload_n (pc := 118) C dX10_seek_118 rfl 0 rfl ?_
      refine j_getR (pc := 119) C 200 27 220 (c_200 hM).1 (c_200 hM).2 rfl rfl (by decide) inw_X10 wd_993 dX10_seek_119 ?_
      refine j_iload (pc := 122) C dX10_seek_122 3 rfl ?_
      obtain ⟨g13, h⟩ := h
      refine j_iald (pc := 124) C 220 (c_220 hM).1 (c_220 hM).2 g13 dX10_seek_124 ?_
      refine j_callS (pc := 125) (As := [.int (I 220 (v5).toNatClampNeg)]) (st := []) C hX (m_X10_firstFree   h) ok_X10_firstFree wd_1214 wd_1215 ⟨by decide, by decide⟩ rfl rfl (Nat.le_of_ble_eq_true rfl) ⟨Nat.le_refl 0, Nat.le_refl 0⟩ dX10_seek_125 (fun r V1 I1 J1 hp => ?_)
      obtain ⟨r14, rfl, rfl, rfl, rfl, h⟩ := hp
      show gJ X V 0 0 128 _ [.int r14] _ _
      refine j_istore (pc := 128) (lv' := [(6, .int r14), (0, .ref (V.2.1 200)), (3, .int v3), (4, .int v4), (5, .int v5)]) C dX10_seek_128 (by decide) rfl ?_
      refine j_aload_n (pc := 130) C dX10_seek_130 rfl 1 rfl ?_
      refine j_aload_n (pc := 131) C dX10_seek_131 rfl 1 rfl ?_
      refine j_getR (pc := 132) C 200 26 219 (c_200 hM).1 (c_200 hM).2 rfl rfl (by decide) inw_X10 wd_992 dX10_seek_132 ?_
      refine j_iload (pc := 135) C dX10_seek_135 4 rfl ?_
      obtain ⟨g15, h⟩ := h
      refine j_iald (pc := 137) C 219 (c_219 hM).1 (c_219 hM).2 g15 dX10_seek_137 ?_
      refine j_iconst (pc := 138) (v := (-1)) C dX10_seek_138 (by decide) ?_
      refine j_icmp_ne (pc := 139) (tgt := 152) C dX10_seek_139 (by decide) (fun c16 => ?_) (fun c16 => ?_)
      · have h := h.1 c16
        refine j_aload_n (pc := 152) C dX10_seek_152 rfl 1 rfl ?_
        refine j_getR (pc := 153) C 200 26 219 (c_200 hM).1 (c_200 hM).2 rfl rfl (by decide) inw_X10 wd_992 dX10_seek_153 ?_
        refine j_iload (pc := 156) C dX10_seek_156 4 rfl ?_
        obtain ⟨g17, h⟩ := h
        refine j_iald (pc := 158) C 219 (c_219 hM).1 (c_219 hM).2 g17 dX10_seek_158 ?_
        refine j_iconst (pc := 159) (v := 1) C dX10_seek_159 (by decide) ?_
        refine j_iadd (pc := 160) C dX10_seek_160 ?_
        refine gJ.sub [1, 2, 3, 4, 0] rfl ?_
        exact t_X10_seek_161 hM C hX hR  hK41 h
      · have h := h.2 c16
        refine j_aload_n (pc := 142) C dX10_seek_142 rfl 1 rfl ?_
        refine j_getR (pc := 143) C 200 22 215 (c_200 hM).1 (c_200 hM).2 rfl rfl (by decide) inw_X10 wd_988 dX10_seek_143 ?_
        refine j_iload (pc := 146) C dX10_seek_146 0 rfl ?_
        obtain ⟨g37, h⟩ := h
        refine j_iald (pc := 148) C 215 (c_215 hM).1 (c_215 hM).2 g37 dX10_seek_148 ?_
        refine j_goto (pc := 149) (tgt := 161) C dX10_seek_149 (by decide) ?_
        refine gJ.sub [1, 2, 3, 4, 0] rfl ?_
        exact t_X10_seek_161 hM C hX hR  hK41 h
    · have h := h.2 c12
      refine j_iload_n (pc := 58) C dX10_seek_58 rfl 1 rfl ?_
      refine j_if_eq (pc := 59) (tgt := 80) C dX10_seek_59 (by decide) (fun c38 => ?_) (fun c38 => ?_)
      · have h := h.1 c38
        refine gJ.sub [0, 1, 2, 3] rfl ?_
        exact t_X10_seek_80 hM C hX hR  hK41 h
      · have h := h.2 c38
        refine j_aload_n (pc := 62) C dX10_seek_62 rfl 0 rfl ?_
        refine j_getR (pc := 63) C 200 28 221 (c_200 hM).1 (c_200 hM).2 rfl rfl (by decide) inw_X10 wd_994 dX10_seek_63 ?_
        refine j_iload (pc := 66) C dX10_seek_66 3 rfl ?_
        obtain ⟨g43, h⟩ := h
        refine j_iald (pc := 68) C 221 (c_221 hM).1 (c_221 hM).2 g43 dX10_seek_68 ?_
        refine j_iconst (pc := 69) (v := 1) C dX10_seek_69 (by decide) ?_
        refine j_aload_n (pc := 70) C dX10_seek_70 rfl 0 rfl ?_
        refine j_getI (pc := 71) C 200 11 (c_200 hM).1 (c_200 hM).2 rfl rfl (by decide) inw_X10 wd_977 dX10_seek_71 ?_
        refine j_ishl (pc := 74) C dX10_seek_74 ?_
        refine j_iconst (pc := 75) (v := 1) C dX10_seek_75 (by decide) ?_
        refine j_isub (pc := 76) C dX10_seek_76 ?_
        refine j_icmp_ne (pc := 77) (tgt := 112) C dX10_seek_77 (by decide) (fun c44 => ?_) (fun c44 => ?_)
        · have h := h.1 c44
          refine gJ.sub [0, 1, 2, 3] rfl ?_
          exact t_X10_seek_112 hM C hX hR  hK41 h
        · have h := h.2 c44
          refine gJ.sub [0, 1, 2, 3] rfl ?_
          exact t_X10_seek_80 hM C hX hR  hK41 h
set_option maxRecDepth 100000 in
set_option maxHeartbeats 4000000 in
theorem t_X10_seek_41 {X : gX} {l : Launch} {D : va_G} {cy : Nat → ClassId} {nm : String} {V : gV} (hM : gModM V) (C : gC X cX10_seek RX10 none 8 rm_X10_seek) (hX : gIs X l D cy nm) {I : gI} {J : gL} {Po : gI → gL → Prop} (hR : gR X (gPv V (fun I' J' => Po I' J'))) {v3 : Int32} {v4 : Int32} {v5 : Int32} (h : w_X10_seek_41 Po v3 v4 v5 I J) : gJ X V 0 0 41 [(0, .ref (V.2.1 200)), (3, .int v3), (4, .int v4), (5, .int v5)] [] I J := by
  unfold w_X10_seek_41 at h
  obtain ⟨Inv, mu, h0, hs⟩ := h
  have key : ∀ (n : Nat) (v5 : Int32) (I : gI) (J : gL), Inv v5 I J → mu v5 I J < n → gJ X V 0 0 41 [(0, .ref (V.2.1 200)), (3, .int v3), (4, .int v4), (5, .int v5)] [] I J := by
    intro n
    induction n with
    | zero => intro v5 I J hi hn; exact absurd hn (Nat.not_lt_zero _)
    | succ n ih =>
      intro v5 I J hi hn
      exact t_X10_seek_41b hM C hX hR   (fun u5 I1 J1 hk => ih u5 I1 J1 hk.1 (Nat.lt_of_lt_of_le hk.2 (Nat.le_of_lt_succ hn))) (hs v5 I J hi)
  exact key _ v5 I J h0 (Nat.lt_succ_self _)
set_option maxRecDepth 100000 in
set_option maxHeartbeats 4000000 in
theorem m_X10_seek {l : Launch} {D : va_G} {cy : Nat → ClassId} {V : gV} (hM : gModM V) {a1 : Int32} {a2 : Int32} {a3 : Int32} {I : gI} {J : gL} {Po : gI → gL → Prop} (h : wp_X10_seek a1 a2 a3 I J Po) : gMet l D cy yX10_seek cX10_seek 8 none rm_X10_seek V [.ref (V.2.1 200), .int a1, .int a2, .int a3] I J (gPv V (fun I' J' => Po I' J')) := by
  refine gMet.of (by decide) (Nat.le_of_ble_eq_true rfl) (fun X hX C hR => ?_)
  have C : gC X cX10_seek RX10 none 8 rm_X10_seek := C
  show gJ X V 0 0 0 [(0, .ref (V.2.1 200)), (1, .int a1), (2, .int a2), (3, .int a3)] [] I J
  unfold wp_X10_seek at h
  refine j_aload_n (pc := 0) C dX10_seek_0 rfl 0 rfl ?_
  refine j_callV (pc := 1) (As := []) (st := []) C hX 200 (m_X10_cells hM  h) (c_200 hM).1 (c_200 hM).2 rfl ok_X10_cells wd_1210 wd_1212 wd_55 ⟨by decide, by decide⟩ rfl rfl (Nat.le_of_ble_eq_true rfl) ⟨Nat.le_refl 0, Nat.le_refl 0⟩ dX10_seek_1 (fun r V1 I1 J1 hp => ?_)
  obtain ⟨r1, rfl, rfl, rfl, rfl, h⟩ := hp
  show gJ X V 0 0 4 _ [.int r1] _ _
  refine j_istore (pc := 4) (lv' := [(4, .int r1), (0, .ref (V.2.1 200)), (1, .int a1), (2, .int a2), (3, .int a3)]) C dX10_seek_4 (by decide) rfl ?_
  refine j_aload_n (pc := 6) C dX10_seek_6 rfl 1 rfl ?_
  refine j_lconst (pc := 7) (v := 0) C dX10_seek_7 (by decide) ?_
  refine j_putL (pc := 8) (ft := .long) C tyX10 tyX10_ok nmX10 200 29 (c_200 hM).1 (c_200 hM).2 rfl rfl (by decide) inw_X10 wd_995 rfl (by decide +kernel) rfl rfl dX10_seek_8 ?_
  refine gJ.nmJ (fun J2 eJ2 => ?_)
  have h := h J2 eJ2
  refine j_aload_n (pc := 11) C dX10_seek_11 rfl 1 rfl ?_
  refine j_bipush (pc := 12) (v := 100) C dX10_seek_12 (by decide) ?_
  refine j_putI (pc := 14) (ft := .int) C tyX10 tyX10_ok nmX10 200 30 (c_200 hM).1 (c_200 hM).2 rfl rfl (by decide) inw_X10 wd_996 rfl (by decide +kernel) rfl rfl dX10_seek_14 ?_
  refine gJ.nmI (fun I3 eI3 => ?_)
  have h := h I3 eI3
  refine j_iconst (pc := 17) (v := 0) C dX10_seek_17 (by decide) ?_
  refine j_istore (pc := 18) (lv' := [(5, .int (0 : Int32)), (4, .int r1), (0, .ref (V.2.1 200)), (1, .int a1), (2, .int a2), (3, .int a3)]) C dX10_seek_18 (by decide) rfl ?_
  refine j_aload_n (pc := 20) C dX10_seek_20 rfl 2 rfl ?_
  refine j_getR (pc := 21) C 200 27 220 (c_200 hM).1 (c_200 hM).2 rfl rfl (by decide) inw_X10 wd_993 dX10_seek_21 ?_
  refine j_iconst (pc := 24) (v := 0) C dX10_seek_24 (by decide) ?_
  refine j_iload_n (pc := 25) C dX10_seek_25 rfl 3 rfl ?_
  obtain ⟨g4, h⟩ := h
  refine j_iast (pc := 26) C 220 (c_220 hM).1 (c_220 hM).2 g4 dX10_seek_26 ?_
  refine gJ.nmI (fun I5 eI5 => ?_)
  have h := h I5 eI5
  refine j_aload_n (pc := 27) C dX10_seek_27 rfl 2 rfl ?_
  refine j_getR (pc := 28) C 200 28 221 (c_200 hM).1 (c_200 hM).2 rfl rfl (by decide) inw_X10 wd_994 dX10_seek_28 ?_
  refine j_iconst (pc := 31) (v := 0) C dX10_seek_31 (by decide) ?_
  refine j_iload_n (pc := 32) C dX10_seek_32 rfl 4 rfl ?_
  obtain ⟨g6, h⟩ := h
  refine j_iast (pc := 33) C 221 (c_221 hM).1 (c_221 hM).2 g6 dX10_seek_33 ?_
  refine gJ.nmI (fun I7 eI7 => ?_)
  have h := h I7 eI7
  refine j_aload_n (pc := 34) C dX10_seek_34 rfl 2 rfl ?_
  refine j_getR (pc := 35) C 200 26 219 (c_200 hM).1 (c_200 hM).2 rfl rfl (by decide) inw_X10 wd_992 dX10_seek_35 ?_
  refine j_iconst (pc := 38) (v := 0) C dX10_seek_38 (by decide) ?_
  refine j_iconst (pc := 39) (v := (-1)) C dX10_seek_39 (by decide) ?_
  obtain ⟨g8, h⟩ := h
  refine j_iast (pc := 40) C 219 (c_219 hM).1 (c_219 hM).2 g8 dX10_seek_40 ?_
  refine gJ.nmI (fun I9 eI9 => ?_)
  have h := h I9 eI9
  refine gJ.sub [2, 5, 1, 0] rfl ?_
  exact t_X10_seek_41 hM C hX hR   h
/-! TileRulesModel.covers(I)J -/
abbrev rm_X10_covers : Room := { frames := 4, cells := 0, slots := 0, locals := 104 }
theorem ok_X10_covers : gOk yX10_covers cX10_covers 2 (some .long) 1 := ⟨wd_1205, wd_74, by decide +kernel⟩
def w_X10_covers_51  (Po : Int64 → gI → gL → Prop)  (s0 : Int32) (s1 : Int32) (s2 : Int32) (I : gI) (J : gL) : Prop :=
  wp_X10_seek s2 s1 s0 I J (fun I6 J7 => Po (J7 200 29) I6 J7)
def wp_X10_covers (a1 : Int32) (I : gI) (J : gL) (Po : Int64 → gI → gL → Prop) : Prop :=
  wp_X10_isIn a1 (0 : Int32) (2 : Int32) (fun r1 => (¬ r1 = 0 → (¬ a1 = (1 : Int32) → wp_X10_placeAll I (fun I4 => (¬ a1 = 0 → w_X10_covers_51 Po (0 : Int32) (0 : Int32) (I4 200 15) I4 J) ∧ (a1 = 0 → w_X10_covers_51 Po (1 : Int32) (0 : Int32) (I4 200 15) I4 J))) ∧ (a1 = (1 : Int32) → wp_X10_tellLeft I J (fun I8 J9 => vp_in (I8 200 15) 1048576 ∧ Po (J9 216 ((I8 200 15)).toNatClampNeg) I8 J9))) ∧ (r1 = 0 → Po (-2 : Int64) I J))
set_option maxRecDepth 100000 in
set_option maxHeartbeats 4000000 in
theorem t_X10_covers_51 {X : gX} {l : Launch} {D : va_G} {cy : Nat → ClassId} {nm : String} {V : gV} (hM : gModM V) (C : gC X cX10_covers RX10 (some .long) 2 rm_X10_covers) (hX : gIs X l D cy nm) {I : gI} {J : gL} {Po : Int64 → gI → gL → Prop} (hR : gR X (gPl V (fun x I' J' => Po x I' J'))) {s0 : Int32} {s1 : Int32} {s2 : Int32} (h : w_X10_covers_51 Po s0 s1 s2 I J) : gJ X V 0 0 51 [(0, .ref (V.2.1 200))] [.int s0, .int s1, .int s2, .ref (V.2.1 200)] I J := by
  unfold w_X10_covers_51 at h
  refine j_callV (pc := 51) (As := [.int s2, .int s1, .int s0]) (st := []) C hX 200 (m_X10_seek hM  h) (c_200 hM).1 (c_200 hM).2 rfl ok_X10_seek wd_1217 wd_1219 wd_56 ⟨by decide, by decide⟩ rfl rfl (Nat.le_of_ble_eq_true rfl) ⟨Nat.le_refl 0, Nat.le_refl 0⟩ dX10_covers_51 (fun r V1 I6 J7 hp => ?_)
  obtain ⟨rfl, rfl, h⟩ := hp
  show gJ X V 0 0 54 _ [] _ _
  refine j_aload_n (pc := 54) C dX10_covers_54 rfl 0 rfl ?_
  refine j_getL (pc := 55) C 200 29 (c_200 hM).1 (c_200 hM).2 rfl rfl (by decide) inw_X10 wd_995 dX10_covers_55 ?_
  exact j_lret (pc := 58) C hR (Nat.zero_le _) (Nat.zero_le _) dX10_covers_58 ⟨_, rfl, rfl, h⟩
set_option maxRecDepth 100000 in
set_option maxHeartbeats 4000000 in
theorem m_X10_covers {l : Launch} {D : va_G} {cy : Nat → ClassId} {V : gV} (hM : gModM V) {a1 : Int32} {I : gI} {J : gL} {Po : Int64 → gI → gL → Prop} (h : wp_X10_covers a1 I J Po) : gMet l D cy yX10_covers cX10_covers 2 (some .long) rm_X10_covers V [.ref (V.2.1 200), .int a1] I J (gPl V (fun x I' J' => Po x I' J')) := by
  refine gMet.of (by decide) (Nat.le_of_ble_eq_true rfl) (fun X hX C hR => ?_)
  have C : gC X cX10_covers RX10 (some .long) 2 rm_X10_covers := C
  show gJ X V 0 0 0 [(0, .ref (V.2.1 200)), (1, .int a1)] [] I J
  unfold wp_X10_covers at h
  refine j_iload_n (pc := 0) C dX10_covers_0 rfl 1 rfl ?_
  refine j_iconst (pc := 1) (v := 0) C dX10_covers_1 (by decide) ?_
  refine j_iconst (pc := 2) (v := 2) C dX10_covers_2 (by decide) ?_
  refine j_callS (pc := 3) (As := [.int a1, .int (0 : Int32), .int (2 : Int32)]) (st := []) C hX (m_X10_isIn   h) ok_X10_isIn wd_1108 wd_1109 ⟨by decide, by decide⟩ rfl rfl (Nat.le_of_ble_eq_true rfl) ⟨Nat.le_refl 0, Nat.le_refl 0⟩ dX10_covers_3 (fun r V1 I1 J1 hp => ?_)
  obtain ⟨r1, rfl, rfl, rfl, rfl, h⟩ := hp
  show gJ X V 0 0 6 _ [.int r1] _ _
  refine j_if_ne (pc := 6) (tgt := 13) C dX10_covers_6 (by decide) (fun c2 => ?_) (fun c2 => ?_)
  · have h := h.1 c2
    refine j_iload_n (pc := 13) C dX10_covers_13 rfl 1 rfl ?_
    refine j_iconst (pc := 14) (v := 1) C dX10_covers_14 (by decide) ?_
    refine j_icmp_ne (pc := 15) (tgt := 32) C dX10_covers_15 (by decide) (fun c3 => ?_) (fun c3 => ?_)
    · have h := h.1 c3
      refine j_aload_n (pc := 32) C dX10_covers_32 rfl 0 rfl ?_
      refine j_callV (pc := 33) (As := []) (st := []) C hX 200 (m_X10_placeAll hM  h) (c_200 hM).1 (c_200 hM).2 rfl ok_X10_placeAll wd_1186 wd_1188 wd_50 ⟨by decide, by decide⟩ rfl rfl (Nat.le_of_ble_eq_true rfl) ⟨Nat.le_refl 0, Nat.le_refl 0⟩ dX10_covers_33 (fun r V1 I4 J1 hp => ?_)
      obtain ⟨rfl, rfl, rfl, h⟩ := hp
      show gJ X V 0 0 36 _ [] _ _
      refine j_aload_n (pc := 36) C dX10_covers_36 rfl 0 rfl ?_
      refine j_aload_n (pc := 37) C dX10_covers_37 rfl 0 rfl ?_
      refine j_getI (pc := 38) C 200 15 (c_200 hM).1 (c_200 hM).2 rfl rfl (by decide) inw_X10 wd_981 dX10_covers_38 ?_
      refine j_iconst (pc := 41) (v := 0) C dX10_covers_41 (by decide) ?_
      refine j_iload_n (pc := 42) C dX10_covers_42 rfl 1 rfl ?_
      refine j_if_ne (pc := 43) (tgt := 50) C dX10_covers_43 (by decide) (fun c5 => ?_) (fun c5 => ?_)
      · have h := h.1 c5
        refine j_iconst (pc := 50) (v := 0) C dX10_covers_50 (by decide) ?_
        refine gJ.sub [0] rfl ?_
        exact t_X10_covers_51 hM C hX hR   h
      · have h := h.2 c5
        refine j_iconst (pc := 46) (v := 1) C dX10_covers_46 (by decide) ?_
        refine j_goto (pc := 47) (tgt := 51) C dX10_covers_47 (by decide) ?_
        refine gJ.sub [0] rfl ?_
        exact t_X10_covers_51 hM C hX hR   h
    · have h := h.2 c3
      refine j_aload_n (pc := 18) C dX10_covers_18 rfl 0 rfl ?_
      refine j_callV (pc := 19) (As := []) (st := []) C hX 200 (m_X10_tellLeft hM  h) (c_200 hM).1 (c_200 hM).2 rfl ok_X10_tellLeft wd_1206 wd_1208 wd_54 ⟨by decide, by decide⟩ rfl rfl (Nat.le_of_ble_eq_true rfl) ⟨Nat.le_refl 0, Nat.le_refl 0⟩ dX10_covers_19 (fun r V1 I8 J9 hp => ?_)
      obtain ⟨rfl, rfl, h⟩ := hp
      show gJ X V 0 0 22 _ [] _ _
      refine j_aload_n (pc := 22) C dX10_covers_22 rfl 0 rfl ?_
      refine j_getR (pc := 23) C 200 23 216 (c_200 hM).1 (c_200 hM).2 rfl rfl (by decide) inw_X10 wd_989 dX10_covers_23 ?_
      refine j_aload_n (pc := 26) C dX10_covers_26 rfl 0 rfl ?_
      refine j_getI (pc := 27) C 200 15 (c_200 hM).1 (c_200 hM).2 rfl rfl (by decide) inw_X10 wd_981 dX10_covers_27 ?_
      obtain ⟨g10, h⟩ := h
      refine j_lald (pc := 30) C 216 (c_216 hM).1 (c_216 hM).2 g10 dX10_covers_30 ?_
      exact j_lret (pc := 31) C hR (Nat.zero_le _) (Nat.zero_le _) dX10_covers_31 ⟨_, rfl, rfl, h⟩
  · have h := h.2 c2
    refine j_ldc2 (pc := 9) (v := (-2)) C dX10_covers_9 wd_1138 ?_
    exact j_lret (pc := 12) C hR (Nat.zero_le _) (Nat.zero_le _) dX10_covers_12 ⟨_, rfl, rfl, h⟩
/-! TileRulesModel.leads(III)Z -/
abbrev rm_X10_leads : Room := { frames := 3, cells := 0, slots := 0, locals := 73 }
theorem ok_X10_leads : gOk yX10_leads cX10_leads 4 (some .boolean) 3 := ⟨wd_1232, wd_74, by decide +kernel⟩
def w_X10_leads_34  (Po : Int32 → gI → gL → Prop)  (s0 : Int32) (s1 : Int32) (s2 : Int32) (I : gI) (J : gL) : Prop :=
  wp_X10_seek s2 s1 s0 I J (fun I3 J4 => ((lg_cmp (J4 200 29) (0 : Int64)) ≤ 0 → Po (0 : Int32) I3 J4) ∧ (¬ (lg_cmp (J4 200 29) (0 : Int64)) ≤ 0 → Po (1 : Int32) I3 J4))
def wp_X10_leads (a1 : Int32) (a2 : Int32) (a3 : Int32) (I : gI) (J : gL) (Po : Int32 → gI → gL → Prop) : Prop :=
  (¬ a1 = (1 : Int32) → (¬ a1 = 0 → w_X10_leads_34 Po (0 : Int32) a3 a2 I J) ∧ (a1 = 0 → w_X10_leads_34 Po (1 : Int32) a3 a2 I J)) ∧ (a1 = (1 : Int32) → vp_in a2 1048576 ∧ ((lg_cmp (J 216 (a2).toNatClampNeg) (0 : Int64)) = 0 → Po (0 : Int32) I J) ∧ (¬ (lg_cmp (J 216 (a2).toNatClampNeg) (0 : Int64)) = 0 → Po (1 : Int32) I J))
set_option maxRecDepth 100000 in
set_option maxHeartbeats 4000000 in
theorem t_X10_leads_34 {X : gX} {l : Launch} {D : va_G} {cy : Nat → ClassId} {nm : String} {V : gV} (hM : gModM V) (C : gC X cX10_leads RX10 (some .boolean) 4 rm_X10_leads) (hX : gIs X l D cy nm) {I : gI} {J : gL} {Po : Int32 → gI → gL → Prop} (hR : gR X (gPi V (fun x I' J' => Po x I' J'))) {s0 : Int32} {s1 : Int32} {s2 : Int32} (h : w_X10_leads_34 Po s0 s1 s2 I J) : gJ X V 0 0 34 [(0, .ref (V.2.1 200))] [.int s0, .int s1, .int s2, .ref (V.2.1 200)] I J := by
  unfold w_X10_leads_34 at h
  refine j_callV (pc := 34) (As := [.int s2, .int s1, .int s0]) (st := []) C hX 200 (m_X10_seek hM  h) (c_200 hM).1 (c_200 hM).2 rfl ok_X10_seek wd_1217 wd_1219 wd_56 ⟨by decide, by decide⟩ rfl rfl (Nat.le_of_ble_eq_true rfl) ⟨Nat.le_refl 0, Nat.le_refl 0⟩ dX10_leads_34 (fun r V1 I3 J4 hp => ?_)
  obtain ⟨rfl, rfl, h⟩ := hp
  show gJ X V 0 0 37 _ [] _ _
  refine j_aload_n (pc := 37) C dX10_leads_37 rfl 0 rfl ?_
  refine j_getL (pc := 38) C 200 29 (c_200 hM).1 (c_200 hM).2 rfl rfl (by decide) inw_X10 wd_995 dX10_leads_38 ?_
  refine j_lconst (pc := 41) (v := 0) C dX10_leads_41 (by decide) ?_
  refine j_lcmp (pc := 42) C dX10_leads_42 ?_
  refine j_if_le (pc := 43) (tgt := 50) C dX10_leads_43 (by decide) (fun c5 => ?_) (fun c5 => ?_)
  · have h := h.1 c5
    refine j_iconst (pc := 50) (v := 0) C dX10_leads_50 (by decide) ?_
    exact j_zret (pc := 51) C hR (Or.inl rfl) (Nat.zero_le _) (Nat.zero_le _) dX10_leads_51 ⟨_, rfl, rfl, h⟩
  · have h := h.2 c5
    refine j_iconst (pc := 46) (v := 1) C dX10_leads_46 (by decide) ?_
    refine j_goto (pc := 47) (tgt := 51) C dX10_leads_47 (by decide) ?_
    exact j_zret (pc := 51) C hR (Or.inr rfl) (Nat.zero_le _) (Nat.zero_le _) dX10_leads_51 ⟨_, rfl, rfl, h⟩
set_option maxRecDepth 100000 in
set_option maxHeartbeats 4000000 in
theorem m_X10_leads {l : Launch} {D : va_G} {cy : Nat → ClassId} {V : gV} (hM : gModM V) {a1 : Int32} {a2 : Int32} {a3 : Int32} {I : gI} {J : gL} {Po : Int32 → gI → gL → Prop} (h : wp_X10_leads a1 a2 a3 I J Po) : gMet l D cy yX10_leads cX10_leads 4 (some .boolean) rm_X10_leads V [.ref (V.2.1 200), .int a1, .int a2, .int a3] I J (gPi V (fun x I' J' => Po x I' J')) := by
  refine gMet.of (by decide) (Nat.le_of_ble_eq_true rfl) (fun X hX C hR => ?_)
  have C : gC X cX10_leads RX10 (some .boolean) 4 rm_X10_leads := C
  show gJ X V 0 0 0 [(0, .ref (V.2.1 200)), (1, .int a1), (2, .int a2), (3, .int a3)] [] I J
  unfold wp_X10_leads at h
  refine j_iload_n (pc := 0) C dX10_leads_0 rfl 1 rfl ?_
  refine j_iconst (pc := 1) (v := 1) C dX10_leads_1 (by decide) ?_
  refine j_icmp_ne (pc := 2) (tgt := 22) C dX10_leads_2 (by decide) (fun c1 => ?_) (fun c1 => ?_)
  · have h := h.1 c1
    refine j_aload_n (pc := 22) C dX10_leads_22 rfl 0 rfl ?_
    refine j_iload_n (pc := 23) C dX10_leads_23 rfl 2 rfl ?_
    refine j_iload_n (pc := 24) C dX10_leads_24 rfl 3 rfl ?_
    refine j_iload_n (pc := 25) C dX10_leads_25 rfl 1 rfl ?_
    refine j_if_ne (pc := 26) (tgt := 33) C dX10_leads_26 (by decide) (fun c2 => ?_) (fun c2 => ?_)
    · have h := h.1 c2
      refine j_iconst (pc := 33) (v := 0) C dX10_leads_33 (by decide) ?_
      refine gJ.sub [0] rfl ?_
      exact t_X10_leads_34 hM C hX hR   h
    · have h := h.2 c2
      refine j_iconst (pc := 29) (v := 1) C dX10_leads_29 (by decide) ?_
      refine j_goto (pc := 30) (tgt := 34) C dX10_leads_30 (by decide) ?_
      refine gJ.sub [0] rfl ?_
      exact t_X10_leads_34 hM C hX hR   h
  · have h := h.2 c1
    refine j_aload_n (pc := 5) C dX10_leads_5 rfl 0 rfl ?_
    refine j_getR (pc := 6) C 200 23 216 (c_200 hM).1 (c_200 hM).2 rfl rfl (by decide) inw_X10 wd_989 dX10_leads_6 ?_
    refine j_iload_n (pc := 9) C dX10_leads_9 rfl 2 rfl ?_
    obtain ⟨g6, h⟩ := h
    refine j_lald (pc := 10) C 216 (c_216 hM).1 (c_216 hM).2 g6 dX10_leads_10 ?_
    refine j_lconst (pc := 11) (v := 0) C dX10_leads_11 (by decide) ?_
    refine j_lcmp (pc := 12) C dX10_leads_12 ?_
    refine j_if_eq (pc := 13) (tgt := 20) C dX10_leads_13 (by decide) (fun c7 => ?_) (fun c7 => ?_)
    · have h := h.1 c7
      refine j_iconst (pc := 20) (v := 0) C dX10_leads_20 (by decide) ?_
      exact j_zret (pc := 21) C hR (Or.inl rfl) (Nat.zero_le _) (Nat.zero_le _) dX10_leads_21 ⟨_, rfl, rfl, h⟩
    · have h := h.2 c7
      refine j_iconst (pc := 16) (v := 1) C dX10_leads_16 (by decide) ?_
      refine j_goto (pc := 17) (tgt := 21) C dX10_leads_17 (by decide) ?_
      exact j_zret (pc := 21) C hR (Or.inr rfl) (Nat.zero_le _) (Nat.zero_le _) dX10_leads_21 ⟨_, rfl, rfl, h⟩
/-! TileRulesModel.cover(IIII)I -/
abbrev rm_X10_cover : Room := { frames := 4, cells := 0, slots := 0, locals := 104 }
theorem ok_X10_cover : gOk yX10_cover cX10_cover 8 (some .int) 4 := ⟨wd_1228, wd_74, by decide +kernel⟩
def w_X10_cover_187  (Po : Int32 → gI → gL → Prop) (K110 : Int32 → Int32 → gI → gL → Prop) (K139 : Int32 → gI → gL → Prop) (v1 : Int32) (v2 : Int32) (v3 : Int32) (v4 : Int32) (v5 : Int32) (v6 : Int32) (s0 : Int32) (s1 : Int32) (s2 : Int32) (I : gI) (J : gL) : Prop :=
  wp_X10_nextFit s2 s1 s0 I (fun r37 => K139 r37 I J)
def w_X10_cover_139b  (Po : Int32 → gI → gL → Prop) (K110 : Int32 → Int32 → gI → gL → Prop) (K139 : Int32 → gI → gL → Prop) (v1 : Int32) (v2 : Int32) (v3 : Int32) (v4 : Int32) (v5 : Int32) (v6 : Int32) (v7 : Int32) (I : gI) (J : gL) : Prop :=
  vp_in v7 1200 ∧ vp_in v7 1200 ∧ wp_X10_leads v1 (v5 ||| (I 213 (v7).toNatClampNeg)) (v6 ||| ((1 : Int32) <<< ((I 214 (v7).toNatClampNeg) &&& 31))) I J (fun r23 I24 J25 => (¬ r23 = 0 → vp_in v7 1200 ∧ ∀ n28 : Int32, n28 = (v5 ||| (I24 213 (v7).toNatClampNeg)) → vp_in v7 1200 ∧ ∀ n30 : Int32, n30 = (v6 ||| ((1 : Int32) <<< ((I24 214 (v7).toNatClampNeg) &&& 31))) → vp_in v7 1200 ∧ (¬ (((I24 213 (v7).toNatClampNeg) >>> (((v3 * (I24 200 13)) + v2) &&& 31)) &&& (1 : Int32)) = (1 : Int32) → K110 n28 n30 I24 J25) ∧ ((((I24 213 (v7).toNatClampNeg) >>> (((v3 * (I24 200 13)) + v2) &&& 31)) &&& (1 : Int32)) = (1 : Int32) → (¬ v4 = 0 → vp_in v7 1200 ∧ Po (I24 213 (v7).toNatClampNeg) I24 J25) ∧ (v4 = 0 → vp_in v7 1200 ∧ Po (I24 214 (v7).toNatClampNeg) I24 J25))) ∧ (r23 = 0 → (¬ v1 = (1 : Int32) → w_X10_cover_187 Po K110 K139 v1 v2 v3 v4 v5 v6 v6 v5 (v7 + (1 : Int32)) I24 J25) ∧ (v1 = (1 : Int32) → w_X10_cover_187 Po K110 K139 v1 v2 v3 v4 v5 v6 (0 : Int32) v5 (v7 + (1 : Int32)) I24 J25)))
def w_X10_cover_139  (Po : Int32 → gI → gL → Prop) (K110 : Int32 → Int32 → gI → gL → Prop) (v1 : Int32) (v2 : Int32) (v3 : Int32) (v4 : Int32) (v5 : Int32) (v6 : Int32) (v7 : Int32) (I : gI) (J : gL) : Prop :=
  ∃ (Inv : Int32 → gI → gL → Prop) (mu : Int32 → gI → gL → Nat), Inv v7 I J ∧ ∀ (v7 : Int32) (I : gI) (J : gL), Inv v7 I J → w_X10_cover_139b  Po K110 (fun u7 I1 J1 => Inv u7 I1 J1 ∧ mu u7 I1 J1 < mu v7 I J) v1 v2 v3 v4 v5 v6 v7 I J
def w_X10_cover_134  (Po : Int32 → gI → gL → Prop) (K110 : Int32 → Int32 → gI → gL → Prop) (v1 : Int32) (v2 : Int32) (v3 : Int32) (v4 : Int32) (v5 : Int32) (v6 : Int32) (s0 : Int32) (s1 : Int32) (s2 : Int32) (I : gI) (J : gL) : Prop :=
  wp_X10_nextFit s2 s1 s0 I (fun r20 => w_X10_cover_139 Po K110 v1 v2 v3 v4 v5 v6 r20 I J)
def w_X10_cover_110b  (Po : Int32 → gI → gL → Prop) (K110 : Int32 → Int32 → gI → gL → Prop) (v1 : Int32) (v2 : Int32) (v3 : Int32) (v4 : Int32) (v5 : Int32) (v6 : Int32) (I : gI) (J : gL) : Prop :=
  wp_X10_firstFree v5 (fun r17 => vp_in r17 22 ∧ (¬ v1 = (1 : Int32) → w_X10_cover_134 Po K110 v1 v2 v3 v4 v5 v6 v6 v5 (I 215 (r17).toNatClampNeg) I J) ∧ (v1 = (1 : Int32) → w_X10_cover_134 Po K110 v1 v2 v3 v4 v5 v6 (0 : Int32) v5 (I 215 (r17).toNatClampNeg) I J))
def w_X10_cover_110  (Po : Int32 → gI → gL → Prop)  (v1 : Int32) (v2 : Int32) (v3 : Int32) (v4 : Int32) (v5 : Int32) (v6 : Int32) (I : gI) (J : gL) : Prop :=
  ∃ (Inv : Int32 → Int32 → gI → gL → Prop) (mu : Int32 → Int32 → gI → gL → Nat), Inv v5 v6 I J ∧ ∀ (v5 : Int32) (v6 : Int32) (I : gI) (J : gL), Inv v5 v6 I J → w_X10_cover_110b  Po  (fun u5 u6 I1 J1 => Inv u5 u6 I1 J1 ∧ mu u5 u6 I1 J1 < mu v5 v6 I J) v1 v2 v3 v4 v5 v6 I J
def w_X10_cover_87  (Po : Int32 → gI → gL → Prop)  (v1 : Int32) (v2 : Int32) (v3 : Int32) (v4 : Int32) (I : gI) (J : gL) : Prop :=
  ∀ n12 : Int32, n12 = (I 200 15) → wp_X10_leads v1 n12 (0 : Int32) I J (fun r13 I14 J15 => (¬ r13 = 0 → w_X10_cover_110 Po v1 v2 v3 v4 n12 (0 : Int32) I14 J15) ∧ (r13 = 0 → Po (-1 : Int32) I14 J15))
def wp_X10_cover (a1 : Int32) (a2 : Int32) (a3 : Int32) (a4 : Int32) (I : gI) (J : gL) (Po : Int32 → gI → gL → Prop) : Prop :=
  wp_X10_isIn a1 (0 : Int32) (2 : Int32) (fun r1 => (r1 = 0 → Po (-2 : Int32) I J) ∧ (¬ r1 = 0 → wp_X10_isIn a2 (0 : Int32) ((I 200 13) - (1 : Int32)) (fun r3 => (r3 = 0 → Po (-2 : Int32) I J) ∧ (¬ r3 = 0 → wp_X10_isIn a3 (0 : Int32) ((I 200 14) - (1 : Int32)) (fun r5 => (r5 = 0 → Po (-2 : Int32) I J) ∧ (¬ r5 = 0 → wp_X10_isIn a4 (0 : Int32) (1 : Int32) (fun r7 => (¬ r7 = 0 → (¬ (((I 200 15) >>> (((a3 * (I 200 13)) + a2) &&& 31)) &&& (1 : Int32)) = (1 : Int32) → (¬ a1 = (1 : Int32) → wp_X10_placeAll I (fun I11 => w_X10_cover_87 Po a1 a2 a3 a4 I11 J)) ∧ (a1 = (1 : Int32) → wp_X10_tellLeft I J (fun I38 J39 => w_X10_cover_87 Po a1 a2 a3 a4 I38 J39))) ∧ ((((I 200 15) >>> (((a3 * (I 200 13)) + a2) &&& 31)) &&& (1 : Int32)) = (1 : Int32) → Po (-1 : Int32) I J)) ∧ (r7 = 0 → Po (-2 : Int32) I J))))))))
set_option maxRecDepth 100000 in
set_option maxHeartbeats 4000000 in
theorem t_X10_cover_187 {X : gX} {l : Launch} {D : va_G} {cy : Nat → ClassId} {nm : String} {V : gV} (hM : gModM V) (C : gC X cX10_cover RX10 (some .int) 8 rm_X10_cover) (hX : gIs X l D cy nm) {I : gI} {J : gL} {Po : Int32 → gI → gL → Prop} (hR : gR X (gPi V (fun x I' J' => Po x I' J'))) {v1 : Int32} {v2 : Int32} {v3 : Int32} {v4 : Int32} {v5 : Int32} {v6 : Int32} {s0 : Int32} {s1 : Int32} {s2 : Int32} {K110 : Int32 → Int32 → gI → gL → Prop} {K139 : Int32 → gI → gL → Prop} (hK110 : ∀ (y5 : Int32) (y6 : Int32) (I1 : gI) (J1 : gL), K110 y5 y6 I1 J1 → gJ X V 0 0 110 [(0, .ref (V.2.1 200)), (1, .int v1), (2, .int v2), (3, .int v3), (4, .int v4), (5, .int y5), (6, .int y6)] [] I1 J1) (hK139 : ∀ (y7 : Int32) (I1 : gI) (J1 : gL), K139 y7 I1 J1 → gJ X V 0 0 139 [(0, .ref (V.2.1 200)), (1, .int v1), (2, .int v2), (3, .int v3), (4, .int v4), (5, .int v5), (6, .int v6), (7, .int y7)] [] I1 J1) (h : w_X10_cover_187 Po K110 K139 v1 v2 v3 v4 v5 v6 s0 s1 s2 I J) : gJ X V 0 0 187 [(0, .ref (V.2.1 200)), (1, .int v1), (2, .int v2), (3, .int v3), (4, .int v4), (5, .int v5), (6, .int v6)] [.int s0, .int s1, .int s2, .ref (V.2.1 200)] I J := by
  unfold w_X10_cover_187 at h
  refine j_callV (pc := 187) (As := [.int s2, .int s1, .int s0]) (st := []) C hX 200 (m_X10_nextFit hM  h) (c_200 hM).1 (c_200 hM).2 rfl ok_X10_nextFit wd_1221 wd_1223 wd_57 ⟨by decide, by decide⟩ rfl rfl (Nat.le_of_ble_eq_true rfl) ⟨Nat.le_refl 0, Nat.le_refl 0⟩ dX10_cover_187 (fun r V1 I1 J1 hp => ?_)
  obtain ⟨r37, rfl, rfl, rfl, rfl, h⟩ := hp
  show gJ X V 0 0 190 _ [.int r37] _ _
  refine j_istore (pc := 190) (lv' := [(7, .int r37), (0, .ref (V.2.1 200)), (1, .int v1), (2, .int v2), (3, .int v3), (4, .int v4), (5, .int v5), (6, .int v6)]) C dX10_cover_190 (by decide) rfl ?_
  refine j_goto (pc := 192) (tgt := 139) C dX10_cover_192 (by decide) ?_
  refine gJ.sub [1, 2, 3, 4, 5, 6, 7, 0] rfl ?_
  exact hK139 _ _ _ h
set_option maxRecDepth 100000 in
set_option maxHeartbeats 4000000 in
theorem t_X10_cover_139b {X : gX} {l : Launch} {D : va_G} {cy : Nat → ClassId} {nm : String} {V : gV} (hM : gModM V) (C : gC X cX10_cover RX10 (some .int) 8 rm_X10_cover) (hX : gIs X l D cy nm) {I : gI} {J : gL} {Po : Int32 → gI → gL → Prop} (hR : gR X (gPi V (fun x I' J' => Po x I' J'))) {v1 : Int32} {v2 : Int32} {v3 : Int32} {v4 : Int32} {v5 : Int32} {v6 : Int32} {v7 : Int32} {K110 : Int32 → Int32 → gI → gL → Prop} {K139 : Int32 → gI → gL → Prop} (hK110 : ∀ (y5 : Int32) (y6 : Int32) (I1 : gI) (J1 : gL), K110 y5 y6 I1 J1 → gJ X V 0 0 110 [(0, .ref (V.2.1 200)), (1, .int v1), (2, .int v2), (3, .int v3), (4, .int v4), (5, .int y5), (6, .int y6)] [] I1 J1) (hK139 : ∀ (y7 : Int32) (I1 : gI) (J1 : gL), K139 y7 I1 J1 → gJ X V 0 0 139 [(0, .ref (V.2.1 200)), (1, .int v1), (2, .int v2), (3, .int v3), (4, .int v4), (5, .int v5), (6, .int v6), (7, .int y7)] [] I1 J1) (h : w_X10_cover_139b Po K110 K139 v1 v2 v3 v4 v5 v6 v7 I J) : gJ X V 0 0 139 [(0, .ref (V.2.1 200)), (1, .int v1), (2, .int v2), (3, .int v3), (4, .int v4), (5, .int v5), (6, .int v6), (7, .int v7)] [] I J := by
  unfold w_X10_cover_139b at h
  refine j_aload_n (pc := 139) C dX10_cover_139 rfl 0 rfl ?_
  refine j_iload_n (pc := 140) C dX10_cover_140 rfl 1 rfl ?_
  refine j_iload (pc := 141) C dX10_cover_141 5 rfl ?_
  refine j_aload_n (pc := 143) C dX10_cover_143 rfl 0 rfl ?_
  refine j_getR (pc := 144) C 200 20 213 (c_200 hM).1 (c_200 hM).2 rfl rfl (by decide) inw_X10 wd_986 dX10_cover_144 ?_
  refine j_iload (pc := 147) C dX10_cover_147 7 rfl ?_
  obtain ⟨g21, h⟩ := h
  refine j_iald (pc := 149) C 213 (c_213 hM).1 (c_213 hM).2 g21 dX10_cover_149 ?_
  refine j_ior (pc := 150) C dX10_cover_150 ?_
  refine j_iload (pc := 151) C dX10_cover_151 6 rfl ?_
  refine j_iconst (pc := 153) (v := 1) C dX10_cover_153 (by decide) ?_
  refine j_aload_n (pc := 154) C dX10_cover_154 rfl 0 rfl ?_
  refine j_getR (pc := 155) C 200 21 214 (c_200 hM).1 (c_200 hM).2 rfl rfl (by decide) inw_X10 wd_987 dX10_cover_155 ?_
  refine j_iload (pc := 158) C dX10_cover_158 7 rfl ?_
  obtain ⟨g22, h⟩ := h
  refine j_iald (pc := 160) C 214 (c_214 hM).1 (c_214 hM).2 g22 dX10_cover_160 ?_
  refine j_ishl (pc := 161) C dX10_cover_161 ?_
  refine j_ior (pc := 162) C dX10_cover_162 ?_
  refine j_callV (pc := 163) (As := [.int v1, .int (v5 ||| (I 213 (v7).toNatClampNeg)), .int (v6 ||| ((1 : Int32) <<< ((I 214 (v7).toNatClampNeg) &&& 31)))]) (st := []) C hX 200 (m_X10_leads hM  h) (c_200 hM).1 (c_200 hM).2 rfl ok_X10_leads wd_1229 wd_1231 wd_58 ⟨by decide, by decide⟩ rfl rfl (Nat.le_of_ble_eq_true rfl) ⟨Nat.le_refl 0, Nat.le_refl 0⟩ dX10_cover_163 (fun r V1 I24 J25 hp => ?_)
  obtain ⟨r23, rfl, rfl, h⟩ := hp
  show gJ X V 0 0 166 _ [.int r23] _ _
  refine j_if_ne (pc := 166) (tgt := 195) C dX10_cover_166 (by decide) (fun c26 => ?_) (fun c26 => ?_)
  · have h := h.1 c26
    refine j_iload (pc := 195) C dX10_cover_195 5 rfl ?_
    refine j_aload_n (pc := 197) C dX10_cover_197 rfl 0 rfl ?_
    refine j_getR (pc := 198) C 200 20 213 (c_200 hM).1 (c_200 hM).2 rfl rfl (by decide) inw_X10 wd_986 dX10_cover_198 ?_
    refine j_iload (pc := 201) C dX10_cover_201 7 rfl ?_
    obtain ⟨g27, h⟩ := h
    refine j_iald (pc := 203) C 213 (c_213 hM).1 (c_213 hM).2 g27 dX10_cover_203 ?_
    refine j_ior (pc := 204) C dX10_cover_204 ?_
    refine gJ.topi (fun n28 en28 => ?_)
    have h := h n28 en28
    refine j_istore (pc := 205) (lv' := [(5, .int n28), (0, .ref (V.2.1 200)), (1, .int v1), (2, .int v2), (3, .int v3), (4, .int v4), (6, .int v6), (7, .int v7)]) C dX10_cover_205 (by decide) rfl ?_
    refine j_iload (pc := 207) C dX10_cover_207 6 rfl ?_
    refine j_iconst (pc := 209) (v := 1) C dX10_cover_209 (by decide) ?_
    refine j_aload_n (pc := 210) C dX10_cover_210 rfl 1 rfl ?_
    refine j_getR (pc := 211) C 200 21 214 (c_200 hM).1 (c_200 hM).2 rfl rfl (by decide) inw_X10 wd_987 dX10_cover_211 ?_
    refine j_iload (pc := 214) C dX10_cover_214 7 rfl ?_
    obtain ⟨g29, h⟩ := h
    refine j_iald (pc := 216) C 214 (c_214 hM).1 (c_214 hM).2 g29 dX10_cover_216 ?_
    refine j_ishl (pc := 217) C dX10_cover_217 ?_
    refine j_ior (pc := 218) C dX10_cover_218 ?_
    refine gJ.topi (fun n30 en30 => ?_)
    have h := h n30 en30
    refine j_istore (pc := 219) (lv' := [(6, .int n30), (5, .int n28), (0, .ref (V.2.1 200)), (1, .int v1), (2, .int v2), (3, .int v3), (4, .int v4), (7, .int v7)]) C dX10_cover_219 (by decide) rfl ?_
    refine j_aload_n (pc := 221) C dX10_cover_221 rfl 2 rfl ?_
    refine j_getR (pc := 222) C 200 20 213 (c_200 hM).1 (c_200 hM).2 rfl rfl (by decide) inw_X10 wd_986 dX10_cover_222 ?_
    refine j_iload (pc := 225) C dX10_cover_225 7 rfl ?_
    obtain ⟨g31, h⟩ := h
    refine j_iald (pc := 227) C 213 (c_213 hM).1 (c_213 hM).2 g31 dX10_cover_227 ?_
    refine j_iload_n (pc := 228) C dX10_cover_228 rfl 5 rfl ?_
    refine j_aload_n (pc := 229) C dX10_cover_229 rfl 2 rfl ?_
    refine j_getI (pc := 230) C 200 13 (c_200 hM).1 (c_200 hM).2 rfl rfl (by decide) inw_X10 wd_979 dX10_cover_230 ?_
    refine j_imul (pc := 233) C dX10_cover_233 ?_
    refine j_iload_n (pc := 234) C dX10_cover_234 rfl 4 rfl ?_
    refine j_iadd (pc := 235) C dX10_cover_235 ?_
    refine j_ishr (pc := 236) C dX10_cover_236 ?_
    refine j_iconst (pc := 237) (v := 1) C dX10_cover_237 (by decide) ?_
    refine j_iand (pc := 238) C dX10_cover_238 ?_
    refine j_iconst (pc := 239) (v := 1) C dX10_cover_239 (by decide) ?_
    refine j_icmp_ne (pc := 240) (tgt := 266) C dX10_cover_240 (by decide) (fun c32 => ?_) (fun c32 => ?_)
    · have h := h.1 c32
      refine j_goto (pc := 266) (tgt := 110) C dX10_cover_266 (by decide) ?_
      refine gJ.sub [2, 3, 4, 5, 6, 1, 0] rfl ?_
      exact hK110 _ _ _ _ h
    · have h := h.2 c32
      refine j_iload (pc := 243) C dX10_cover_243 6 rfl ?_
      refine j_if_ne (pc := 245) (tgt := 258) C dX10_cover_245 (by decide) (fun c33 => ?_) (fun c33 => ?_)
      · have h := h.1 c33
        refine j_aload_n (pc := 258) C dX10_cover_258 rfl 2 rfl ?_
        refine j_getR (pc := 259) C 200 20 213 (c_200 hM).1 (c_200 hM).2 rfl rfl (by decide) inw_X10 wd_986 dX10_cover_259 ?_
        refine j_iload (pc := 262) C dX10_cover_262 7 rfl ?_
        obtain ⟨g34, h⟩ := h
        refine j_iald (pc := 264) C 213 (c_213 hM).1 (c_213 hM).2 g34 dX10_cover_264 ?_
        exact j_iret (pc := 265) C hR (Nat.zero_le _) (Nat.zero_le _) dX10_cover_265 ⟨_, rfl, rfl, h⟩
      · have h := h.2 c33
        refine j_aload_n (pc := 248) C dX10_cover_248 rfl 2 rfl ?_
        refine j_getR (pc := 249) C 200 21 214 (c_200 hM).1 (c_200 hM).2 rfl rfl (by decide) inw_X10 wd_987 dX10_cover_249 ?_
        refine j_iload (pc := 252) C dX10_cover_252 7 rfl ?_
        obtain ⟨g35, h⟩ := h
        refine j_iald (pc := 254) C 214 (c_214 hM).1 (c_214 hM).2 g35 dX10_cover_254 ?_
        refine j_goto (pc := 255) (tgt := 265) C dX10_cover_255 (by decide) ?_
        exact j_iret (pc := 265) C hR (Nat.zero_le _) (Nat.zero_le _) dX10_cover_265 ⟨_, rfl, rfl, h⟩
  · have h := h.2 c26
    refine j_aload_n (pc := 169) C dX10_cover_169 rfl 0 rfl ?_
    refine j_iload (pc := 170) C dX10_cover_170 7 rfl ?_
    refine j_iconst (pc := 172) (v := 1) C dX10_cover_172 (by decide) ?_
    refine j_iadd (pc := 173) C dX10_cover_173 ?_
    refine j_iload (pc := 174) C dX10_cover_174 5 rfl ?_
    refine j_iload_n (pc := 176) C dX10_cover_176 rfl 1 rfl ?_
    refine j_iconst (pc := 177) (v := 1) C dX10_cover_177 (by decide) ?_
    refine j_icmp_ne (pc := 178) (tgt := 185) C dX10_cover_178 (by decide) (fun c36 => ?_) (fun c36 => ?_)
    · have h := h.1 c36
      refine j_iload (pc := 185) C dX10_cover_185 6 rfl ?_
      refine gJ.sub [0, 1, 2, 3, 4, 5, 6] rfl ?_
      exact t_X10_cover_187 hM C hX hR  hK110 hK139 h
    · have h := h.2 c36
      refine j_iconst (pc := 181) (v := 0) C dX10_cover_181 (by decide) ?_
      refine j_goto (pc := 182) (tgt := 187) C dX10_cover_182 (by decide) ?_
      refine gJ.sub [0, 1, 2, 3, 4, 5, 6] rfl ?_
      exact t_X10_cover_187 hM C hX hR  hK110 hK139 h
set_option maxRecDepth 100000 in
set_option maxHeartbeats 4000000 in
theorem t_X10_cover_139 {X : gX} {l : Launch} {D : va_G} {cy : Nat → ClassId} {nm : String} {V : gV} (hM : gModM V) (C : gC X cX10_cover RX10 (some .int) 8 rm_X10_cover) (hX : gIs X l D cy nm) {I : gI} {J : gL} {Po : Int32 → gI → gL → Prop} (hR : gR X (gPi V (fun x I' J' => Po x I' J'))) {v1 : Int32} {v2 : Int32} {v3 : Int32} {v4 : Int32} {v5 : Int32} {v6 : Int32} {v7 : Int32} {K110 : Int32 → Int32 → gI → gL → Prop} (hK110 : ∀ (y5 : Int32) (y6 : Int32) (I1 : gI) (J1 : gL), K110 y5 y6 I1 J1 → gJ X V 0 0 110 [(0, .ref (V.2.1 200)), (1, .int v1), (2, .int v2), (3, .int v3), (4, .int v4), (5, .int y5), (6, .int y6)] [] I1 J1) (h : w_X10_cover_139 Po K110 v1 v2 v3 v4 v5 v6 v7 I J) : gJ X V 0 0 139 [(0, .ref (V.2.1 200)), (1, .int v1), (2, .int v2), (3, .int v3), (4, .int v4), (5, .int v5), (6, .int v6), (7, .int v7)] [] I J := by
  unfold w_X10_cover_139 at h
  obtain ⟨Inv, mu, h0, hs⟩ := h
  have key : ∀ (n : Nat) (v7 : Int32) (I : gI) (J : gL), Inv v7 I J → mu v7 I J < n → gJ X V 0 0 139 [(0, .ref (V.2.1 200)), (1, .int v1), (2, .int v2), (3, .int v3), (4, .int v4), (5, .int v5), (6, .int v6), (7, .int v7)] [] I J := by
    intro n
    induction n with
    | zero => intro v7 I J hi hn; exact absurd hn (Nat.not_lt_zero _)
    | succ n ih =>
      intro v7 I J hi hn
      exact t_X10_cover_139b hM C hX hR  hK110 (fun u7 I1 J1 hk => ih u7 I1 J1 hk.1 (Nat.lt_of_lt_of_le hk.2 (Nat.le_of_lt_succ hn))) (hs v7 I J hi)
  exact key _ v7 I J h0 (Nat.lt_succ_self _)
set_option maxRecDepth 100000 in
set_option maxHeartbeats 4000000 in
theorem t_X10_cover_134 {X : gX} {l : Launch} {D : va_G} {cy : Nat → ClassId} {nm : String} {V : gV} (hM : gModM V) (C : gC X cX10_cover RX10 (some .int) 8 rm_X10_cover) (hX : gIs X l D cy nm) {I : gI} {J : gL} {Po : Int32 → gI → gL → Prop} (hR : gR X (gPi V (fun x I' J' => Po x I' J'))) {v1 : Int32} {v2 : Int32} {v3 : Int32} {v4 : Int32} {v5 : Int32} {v6 : Int32} {s0 : Int32} {s1 : Int32} {s2 : Int32} {K110 : Int32 → Int32 → gI → gL → Prop} (hK110 : ∀ (y5 : Int32) (y6 : Int32) (I1 : gI) (J1 : gL), K110 y5 y6 I1 J1 → gJ X V 0 0 110 [(0, .ref (V.2.1 200)), (1, .int v1), (2, .int v2), (3, .int v3), (4, .int v4), (5, .int y5), (6, .int y6)] [] I1 J1) (h : w_X10_cover_134 Po K110 v1 v2 v3 v4 v5 v6 s0 s1 s2 I J) : gJ X V 0 0 134 [(0, .ref (V.2.1 200)), (1, .int v1), (2, .int v2), (3, .int v3), (4, .int v4), (5, .int v5), (6, .int v6)] [.int s0, .int s1, .int s2, .ref (V.2.1 200)] I J := by
  unfold w_X10_cover_134 at h
  refine j_callV (pc := 134) (As := [.int s2, .int s1, .int s0]) (st := []) C hX 200 (m_X10_nextFit hM  h) (c_200 hM).1 (c_200 hM).2 rfl ok_X10_nextFit wd_1221 wd_1223 wd_57 ⟨by decide, by decide⟩ rfl rfl (Nat.le_of_ble_eq_true rfl) ⟨Nat.le_refl 0, Nat.le_refl 0⟩ dX10_cover_134 (fun r V1 I1 J1 hp => ?_)
  obtain ⟨r20, rfl, rfl, rfl, rfl, h⟩ := hp
  show gJ X V 0 0 137 _ [.int r20] _ _
  refine j_istore (pc := 137) (lv' := [(7, .int r20), (0, .ref (V.2.1 200)), (1, .int v1), (2, .int v2), (3, .int v3), (4, .int v4), (5, .int v5), (6, .int v6)]) C dX10_cover_137 (by decide) rfl ?_
  refine gJ.sub [1, 2, 3, 4, 5, 6, 7, 0] rfl ?_
  exact t_X10_cover_139 hM C hX hR  hK110 h
set_option maxRecDepth 100000 in
set_option maxHeartbeats 4000000 in
theorem t_X10_cover_110b {X : gX} {l : Launch} {D : va_G} {cy : Nat → ClassId} {nm : String} {V : gV} (hM : gModM V) (C : gC X cX10_cover RX10 (some .int) 8 rm_X10_cover) (hX : gIs X l D cy nm) {I : gI} {J : gL} {Po : Int32 → gI → gL → Prop} (hR : gR X (gPi V (fun x I' J' => Po x I' J'))) {v1 : Int32} {v2 : Int32} {v3 : Int32} {v4 : Int32} {v5 : Int32} {v6 : Int32} {K110 : Int32 → Int32 → gI → gL → Prop} (hK110 : ∀ (y5 : Int32) (y6 : Int32) (I1 : gI) (J1 : gL), K110 y5 y6 I1 J1 → gJ X V 0 0 110 [(0, .ref (V.2.1 200)), (1, .int v1), (2, .int v2), (3, .int v3), (4, .int v4), (5, .int y5), (6, .int y6)] [] I1 J1) (h : w_X10_cover_110b Po K110 v1 v2 v3 v4 v5 v6 I J) : gJ X V 0 0 110 [(0, .ref (V.2.1 200)), (1, .int v1), (2, .int v2), (3, .int v3), (4, .int v4), (5, .int v5), (6, .int v6)] [] I J := by
  unfold w_X10_cover_110b at h
  refine j_aload_n (pc := 110) C dX10_cover_110 rfl 0 rfl ?_
  refine j_aload_n (pc := 111) C dX10_cover_111 rfl 0 rfl ?_
  refine j_getR (pc := 112) C 200 22 215 (c_200 hM).1 (c_200 hM).2 rfl rfl (by decide) inw_X10 wd_988 dX10_cover_112 ?_
  refine j_iload (pc := 115) C dX10_cover_115 5 rfl ?_
  refine j_callS (pc := 117) (As := [.int v5]) (st := [.ref (V.2.1 215), .ref (V.2.1 200)]) C hX (m_X10_firstFree   h) ok_X10_firstFree wd_1214 wd_1215 ⟨by decide, by decide⟩ rfl rfl (Nat.le_of_ble_eq_true rfl) ⟨Nat.le_refl 0, Nat.le_refl 0⟩ dX10_cover_117 (fun r V1 I1 J1 hp => ?_)
  obtain ⟨r17, rfl, rfl, rfl, rfl, h⟩ := hp
  show gJ X V 0 0 120 _ [.int r17, .ref (V.2.1 215), .ref (V.2.1 200)] _ _
  obtain ⟨g18, h⟩ := h
  refine j_iald (pc := 120) C 215 (c_215 hM).1 (c_215 hM).2 g18 dX10_cover_120 ?_
  refine j_iload (pc := 121) C dX10_cover_121 5 rfl ?_
  refine j_iload_n (pc := 123) C dX10_cover_123 rfl 1 rfl ?_
  refine j_iconst (pc := 124) (v := 1) C dX10_cover_124 (by decide) ?_
  refine j_icmp_ne (pc := 125) (tgt := 132) C dX10_cover_125 (by decide) (fun c19 => ?_) (fun c19 => ?_)
  · have h := h.1 c19
    refine j_iload (pc := 132) C dX10_cover_132 6 rfl ?_
    refine gJ.sub [0, 1, 2, 3, 4, 5, 6] rfl ?_
    exact t_X10_cover_134 hM C hX hR  hK110 h
  · have h := h.2 c19
    refine j_iconst (pc := 128) (v := 0) C dX10_cover_128 (by decide) ?_
    refine j_goto (pc := 129) (tgt := 134) C dX10_cover_129 (by decide) ?_
    refine gJ.sub [0, 1, 2, 3, 4, 5, 6] rfl ?_
    exact t_X10_cover_134 hM C hX hR  hK110 h
set_option maxRecDepth 100000 in
set_option maxHeartbeats 4000000 in
theorem t_X10_cover_110 {X : gX} {l : Launch} {D : va_G} {cy : Nat → ClassId} {nm : String} {V : gV} (hM : gModM V) (C : gC X cX10_cover RX10 (some .int) 8 rm_X10_cover) (hX : gIs X l D cy nm) {I : gI} {J : gL} {Po : Int32 → gI → gL → Prop} (hR : gR X (gPi V (fun x I' J' => Po x I' J'))) {v1 : Int32} {v2 : Int32} {v3 : Int32} {v4 : Int32} {v5 : Int32} {v6 : Int32} (h : w_X10_cover_110 Po v1 v2 v3 v4 v5 v6 I J) : gJ X V 0 0 110 [(0, .ref (V.2.1 200)), (1, .int v1), (2, .int v2), (3, .int v3), (4, .int v4), (5, .int v5), (6, .int v6)] [] I J := by
  unfold w_X10_cover_110 at h
  obtain ⟨Inv, mu, h0, hs⟩ := h
  have key : ∀ (n : Nat) (v5 : Int32) (v6 : Int32) (I : gI) (J : gL), Inv v5 v6 I J → mu v5 v6 I J < n → gJ X V 0 0 110 [(0, .ref (V.2.1 200)), (1, .int v1), (2, .int v2), (3, .int v3), (4, .int v4), (5, .int v5), (6, .int v6)] [] I J := by
    intro n
    induction n with
    | zero => intro v5 v6 I J hi hn; exact absurd hn (Nat.not_lt_zero _)
    | succ n ih =>
      intro v5 v6 I J hi hn
      exact t_X10_cover_110b hM C hX hR   (fun u5 u6 I1 J1 hk => ih u5 u6 I1 J1 hk.1 (Nat.lt_of_lt_of_le hk.2 (Nat.le_of_lt_succ hn))) (hs v5 v6 I J hi)
  exact key _ v5 v6 I J h0 (Nat.lt_succ_self _)
set_option maxRecDepth 100000 in
set_option maxHeartbeats 4000000 in
theorem t_X10_cover_87 {X : gX} {l : Launch} {D : va_G} {cy : Nat → ClassId} {nm : String} {V : gV} (hM : gModM V) (C : gC X cX10_cover RX10 (some .int) 8 rm_X10_cover) (hX : gIs X l D cy nm) {I : gI} {J : gL} {Po : Int32 → gI → gL → Prop} (hR : gR X (gPi V (fun x I' J' => Po x I' J'))) {v1 : Int32} {v2 : Int32} {v3 : Int32} {v4 : Int32} (h : w_X10_cover_87 Po v1 v2 v3 v4 I J) : gJ X V 0 0 87 [(0, .ref (V.2.1 200)), (1, .int v1), (2, .int v2), (3, .int v3), (4, .int v4)] [] I J := by
  unfold w_X10_cover_87 at h
  refine j_aload_n (pc := 87) C dX10_cover_87 rfl 0 rfl ?_
  refine j_getI (pc := 88) C 200 15 (c_200 hM).1 (c_200 hM).2 rfl rfl (by decide) inw_X10 wd_981 dX10_cover_88 ?_
  refine gJ.topi (fun n12 en12 => ?_)
  have h := h n12 en12
  refine j_istore (pc := 91) (lv' := [(5, .int n12), (0, .ref (V.2.1 200)), (1, .int v1), (2, .int v2), (3, .int v3), (4, .int v4)]) C dX10_cover_91 (by decide) rfl ?_
  refine j_iconst (pc := 93) (v := 0) C dX10_cover_93 (by decide) ?_
  refine j_istore (pc := 94) (lv' := [(6, .int (0 : Int32)), (5, .int n12), (0, .ref (V.2.1 200)), (1, .int v1), (2, .int v2), (3, .int v3), (4, .int v4)]) C dX10_cover_94 (by decide) rfl ?_
  refine j_aload_n (pc := 96) C dX10_cover_96 rfl 2 rfl ?_
  refine j_iload_n (pc := 97) C dX10_cover_97 rfl 3 rfl ?_
  refine j_iload (pc := 98) C dX10_cover_98 1 rfl ?_
  refine j_iload (pc := 100) C dX10_cover_100 0 rfl ?_
  refine j_callV (pc := 102) (As := [.int v1, .int n12, .int (0 : Int32)]) (st := []) C hX 200 (m_X10_leads hM  h) (c_200 hM).1 (c_200 hM).2 rfl ok_X10_leads wd_1229 wd_1231 wd_58 ⟨by decide, by decide⟩ rfl rfl (Nat.le_of_ble_eq_true rfl) ⟨Nat.le_refl 0, Nat.le_refl 0⟩ dX10_cover_102 (fun r V1 I14 J15 hp => ?_)
  obtain ⟨r13, rfl, rfl, h⟩ := hp
  show gJ X V 0 0 105 _ [.int r13] _ _
  refine j_if_ne (pc := 105) (tgt := 110) C dX10_cover_105 (by decide) (fun c16 => ?_) (fun c16 => ?_)
  · have h := h.1 c16
    refine gJ.sub [2, 3, 4, 5, 6, 1, 0] rfl ?_
    exact t_X10_cover_110 hM C hX hR   h
  · have h := h.2 c16
    refine j_iconst (pc := 108) (v := (-1)) C dX10_cover_108 (by decide) ?_
    exact j_iret (pc := 109) C hR (Nat.zero_le _) (Nat.zero_le _) dX10_cover_109 ⟨_, rfl, rfl, h⟩
set_option maxRecDepth 100000 in
set_option maxHeartbeats 4000000 in
theorem m_X10_cover {l : Launch} {D : va_G} {cy : Nat → ClassId} {V : gV} (hM : gModM V) {a1 : Int32} {a2 : Int32} {a3 : Int32} {a4 : Int32} {I : gI} {J : gL} {Po : Int32 → gI → gL → Prop} (h : wp_X10_cover a1 a2 a3 a4 I J Po) : gMet l D cy yX10_cover cX10_cover 8 (some .int) rm_X10_cover V [.ref (V.2.1 200), .int a1, .int a2, .int a3, .int a4] I J (gPi V (fun x I' J' => Po x I' J')) := by
  refine gMet.of (by decide) (Nat.le_of_ble_eq_true rfl) (fun X hX C hR => ?_)
  have C : gC X cX10_cover RX10 (some .int) 8 rm_X10_cover := C
  show gJ X V 0 0 0 [(0, .ref (V.2.1 200)), (1, .int a1), (2, .int a2), (3, .int a3), (4, .int a4)] [] I J
  unfold wp_X10_cover at h
  refine j_iload_n (pc := 0) C dX10_cover_0 rfl 1 rfl ?_
  refine j_iconst (pc := 1) (v := 0) C dX10_cover_1 (by decide) ?_
  refine j_iconst (pc := 2) (v := 2) C dX10_cover_2 (by decide) ?_
  refine j_callS (pc := 3) (As := [.int a1, .int (0 : Int32), .int (2 : Int32)]) (st := []) C hX (m_X10_isIn   h) ok_X10_isIn wd_1108 wd_1109 ⟨by decide, by decide⟩ rfl rfl (Nat.le_of_ble_eq_true rfl) ⟨Nat.le_refl 0, Nat.le_refl 0⟩ dX10_cover_3 (fun r V1 I1 J1 hp => ?_)
  obtain ⟨r1, rfl, rfl, rfl, rfl, h⟩ := hp
  show gJ X V 0 0 6 _ [.int r1] _ _
  refine j_if_eq (pc := 6) (tgt := 47) C dX10_cover_6 (by decide) (fun c2 => ?_) (fun c2 => ?_)
  · have h := h.1 c2
    refine j_bipush (pc := 47) (v := (-2)) C dX10_cover_47 (by decide) ?_
    exact j_iret (pc := 49) C hR (Nat.zero_le _) (Nat.zero_le _) dX10_cover_49 ⟨_, rfl, rfl, h⟩
  · have h := h.2 c2
    refine j_iload_n (pc := 9) C dX10_cover_9 rfl 2 rfl ?_
    refine j_iconst (pc := 10) (v := 0) C dX10_cover_10 (by decide) ?_
    refine j_aload_n (pc := 11) C dX10_cover_11 rfl 0 rfl ?_
    refine j_getI (pc := 12) C 200 13 (c_200 hM).1 (c_200 hM).2 rfl rfl (by decide) inw_X10 wd_979 dX10_cover_12 ?_
    refine j_iconst (pc := 15) (v := 1) C dX10_cover_15 (by decide) ?_
    refine j_isub (pc := 16) C dX10_cover_16 ?_
    refine j_callS (pc := 17) (As := [.int a2, .int (0 : Int32), .int ((I 200 13) - (1 : Int32))]) (st := []) C hX (m_X10_isIn   h) ok_X10_isIn wd_1108 wd_1109 ⟨by decide, by decide⟩ rfl rfl (Nat.le_of_ble_eq_true rfl) ⟨Nat.le_refl 0, Nat.le_refl 0⟩ dX10_cover_17 (fun r V1 I1 J1 hp => ?_)
    obtain ⟨r3, rfl, rfl, rfl, rfl, h⟩ := hp
    show gJ X V 0 0 20 _ [.int r3] _ _
    refine j_if_eq (pc := 20) (tgt := 47) C dX10_cover_20 (by decide) (fun c4 => ?_) (fun c4 => ?_)
    · have h := h.1 c4
      refine j_bipush (pc := 47) (v := (-2)) C dX10_cover_47 (by decide) ?_
      exact j_iret (pc := 49) C hR (Nat.zero_le _) (Nat.zero_le _) dX10_cover_49 ⟨_, rfl, rfl, h⟩
    · have h := h.2 c4
      refine j_iload_n (pc := 23) C dX10_cover_23 rfl 3 rfl ?_
      refine j_iconst (pc := 24) (v := 0) C dX10_cover_24 (by decide) ?_
      refine j_aload_n (pc := 25) C dX10_cover_25 rfl 0 rfl ?_
      refine j_getI (pc := 26) C 200 14 (c_200 hM).1 (c_200 hM).2 rfl rfl (by decide) inw_X10 wd_980 dX10_cover_26 ?_
      refine j_iconst (pc := 29) (v := 1) C dX10_cover_29 (by decide) ?_
      refine j_isub (pc := 30) C dX10_cover_30 ?_
      refine j_callS (pc := 31) (As := [.int a3, .int (0 : Int32), .int ((I 200 14) - (1 : Int32))]) (st := []) C hX (m_X10_isIn   h) ok_X10_isIn wd_1108 wd_1109 ⟨by decide, by decide⟩ rfl rfl (Nat.le_of_ble_eq_true rfl) ⟨Nat.le_refl 0, Nat.le_refl 0⟩ dX10_cover_31 (fun r V1 I1 J1 hp => ?_)
      obtain ⟨r5, rfl, rfl, rfl, rfl, h⟩ := hp
      show gJ X V 0 0 34 _ [.int r5] _ _
      refine j_if_eq (pc := 34) (tgt := 47) C dX10_cover_34 (by decide) (fun c6 => ?_) (fun c6 => ?_)
      · have h := h.1 c6
        refine j_bipush (pc := 47) (v := (-2)) C dX10_cover_47 (by decide) ?_
        exact j_iret (pc := 49) C hR (Nat.zero_le _) (Nat.zero_le _) dX10_cover_49 ⟨_, rfl, rfl, h⟩
      · have h := h.2 c6
        refine j_iload (pc := 37) C dX10_cover_37 4 rfl ?_
        refine j_iconst (pc := 39) (v := 0) C dX10_cover_39 (by decide) ?_
        refine j_iconst (pc := 40) (v := 1) C dX10_cover_40 (by decide) ?_
        refine j_callS (pc := 41) (As := [.int a4, .int (0 : Int32), .int (1 : Int32)]) (st := []) C hX (m_X10_isIn   h) ok_X10_isIn wd_1108 wd_1109 ⟨by decide, by decide⟩ rfl rfl (Nat.le_of_ble_eq_true rfl) ⟨Nat.le_refl 0, Nat.le_refl 0⟩ dX10_cover_41 (fun r V1 I1 J1 hp => ?_)
        obtain ⟨r7, rfl, rfl, rfl, rfl, h⟩ := hp
        show gJ X V 0 0 44 _ [.int r7] _ _
        refine j_if_ne (pc := 44) (tgt := 50) C dX10_cover_44 (by decide) (fun c8 => ?_) (fun c8 => ?_)
        · have h := h.1 c8
          refine j_aload_n (pc := 50) C dX10_cover_50 rfl 0 rfl ?_
          refine j_getI (pc := 51) C 200 15 (c_200 hM).1 (c_200 hM).2 rfl rfl (by decide) inw_X10 wd_981 dX10_cover_51 ?_
          refine j_iload_n (pc := 54) C dX10_cover_54 rfl 3 rfl ?_
          refine j_aload_n (pc := 55) C dX10_cover_55 rfl 0 rfl ?_
          refine j_getI (pc := 56) C 200 13 (c_200 hM).1 (c_200 hM).2 rfl rfl (by decide) inw_X10 wd_979 dX10_cover_56 ?_
          refine j_imul (pc := 59) C dX10_cover_59 ?_
          refine j_iload_n (pc := 60) C dX10_cover_60 rfl 2 rfl ?_
          refine j_iadd (pc := 61) C dX10_cover_61 ?_
          refine j_ishr (pc := 62) C dX10_cover_62 ?_
          refine j_iconst (pc := 63) (v := 1) C dX10_cover_63 (by decide) ?_
          refine j_iand (pc := 64) C dX10_cover_64 ?_
          refine j_iconst (pc := 65) (v := 1) C dX10_cover_65 (by decide) ?_
          refine j_icmp_ne (pc := 66) (tgt := 71) C dX10_cover_66 (by decide) (fun c9 => ?_) (fun c9 => ?_)
          · have h := h.1 c9
            refine j_iload_n (pc := 71) C dX10_cover_71 rfl 1 rfl ?_
            refine j_iconst (pc := 72) (v := 1) C dX10_cover_72 (by decide) ?_
            refine j_icmp_ne (pc := 73) (tgt := 83) C dX10_cover_73 (by decide) (fun c10 => ?_) (fun c10 => ?_)
            · have h := h.1 c10
              refine j_aload_n (pc := 83) C dX10_cover_83 rfl 0 rfl ?_
              refine j_callV (pc := 84) (As := []) (st := []) C hX 200 (m_X10_placeAll hM  h) (c_200 hM).1 (c_200 hM).2 rfl ok_X10_placeAll wd_1186 wd_1188 wd_50 ⟨by decide, by decide⟩ rfl rfl (Nat.le_of_ble_eq_true rfl) ⟨Nat.le_refl 0, Nat.le_refl 0⟩ dX10_cover_84 (fun r V1 I11 J1 hp => ?_)
              obtain ⟨rfl, rfl, rfl, h⟩ := hp
              show gJ X V 0 0 87 _ [] _ _
              refine gJ.sub [0, 1, 2, 3, 4] rfl ?_
              exact t_X10_cover_87 hM C hX hR   h
            · have h := h.2 c10
              refine j_aload_n (pc := 76) C dX10_cover_76 rfl 0 rfl ?_
              refine j_callV (pc := 77) (As := []) (st := []) C hX 200 (m_X10_tellLeft hM  h) (c_200 hM).1 (c_200 hM).2 rfl ok_X10_tellLeft wd_1206 wd_1208 wd_54 ⟨by decide, by decide⟩ rfl rfl (Nat.le_of_ble_eq_true rfl) ⟨Nat.le_refl 0, Nat.le_refl 0⟩ dX10_cover_77 (fun r V1 I38 J39 hp => ?_)
              obtain ⟨rfl, rfl, h⟩ := hp
              show gJ X V 0 0 80 _ [] _ _
              refine j_goto (pc := 80) (tgt := 87) C dX10_cover_80 (by decide) ?_
              refine gJ.sub [0, 1, 2, 3, 4] rfl ?_
              exact t_X10_cover_87 hM C hX hR   h
          · have h := h.2 c9
            refine j_iconst (pc := 69) (v := (-1)) C dX10_cover_69 (by decide) ?_
            exact j_iret (pc := 70) C hR (Nat.zero_le _) (Nat.zero_le _) dX10_cover_70 ⟨_, rfl, rfl, h⟩
        · have h := h.2 c8
          refine j_bipush (pc := 47) (v := (-2)) C dX10_cover_47 (by decide) ?_
          exact j_iret (pc := 49) C hR (Nat.zero_le _) (Nat.zero_le _) dX10_cover_49 ⟨_, rfl, rfl, h⟩
/-! TileRulesModel.fewest(I)I -/
abbrev rm_X10_fewest : Room := { frames := 4, cells := 0, slots := 0, locals := 104 }
theorem ok_X10_fewest : gOk yX10_fewest cX10_fewest 2 (some .int) 1 := ⟨wd_1236, wd_74, by decide +kernel⟩
def w_X10_fewest_68  (Po : Int32 → gI → gL → Prop)  (s0 : Int32) (s1 : Int32) (s2 : Int32) (I : gI) (J : gL) : Prop :=
  wp_X10_seek s2 s1 s0 I J (fun I6 J7 => (¬ (lg_cmp (J7 200 29) (0 : Int64)) = 0 → Po (I6 200 30) I6 J7) ∧ ((lg_cmp (J7 200 29) (0 : Int64)) = 0 → Po (-1 : Int32) I6 J7))
def wp_X10_fewest (a1 : Int32) (I : gI) (J : gL) (Po : Int32 → gI → gL → Prop) : Prop :=
  wp_X10_isIn a1 (0 : Int32) (2 : Int32) (fun r1 => (¬ r1 = 0 → (¬ a1 = (1 : Int32) → wp_X10_placeAll I (fun I4 => (¬ a1 = 0 → w_X10_fewest_68 Po (0 : Int32) (0 : Int32) (I4 200 15) I4 J) ∧ (a1 = 0 → w_X10_fewest_68 Po (1 : Int32) (0 : Int32) (I4 200 15) I4 J))) ∧ (a1 = (1 : Int32) → wp_X10_tellLeft I J (fun I9 J10 => vp_in (I9 200 15) 1048576 ∧ (¬ (I9 217 ((I9 200 15)).toNatClampNeg) = (100 : Int32) → vp_in (I9 200 15) 1048576 ∧ Po (I9 217 ((I9 200 15)).toNatClampNeg) I9 J10) ∧ ((I9 217 ((I9 200 15)).toNatClampNeg) = (100 : Int32) → Po (-1 : Int32) I9 J10)))) ∧ (r1 = 0 → Po (-2 : Int32) I J))
set_option maxRecDepth 100000 in
set_option maxHeartbeats 4000000 in
theorem t_X10_fewest_68 {X : gX} {l : Launch} {D : va_G} {cy : Nat → ClassId} {nm : String} {V : gV} (hM : gModM V) (C : gC X cX10_fewest RX10 (some .int) 2 rm_X10_fewest) (hX : gIs X l D cy nm) {I : gI} {J : gL} {Po : Int32 → gI → gL → Prop} (hR : gR X (gPi V (fun x I' J' => Po x I' J'))) {s0 : Int32} {s1 : Int32} {s2 : Int32} (h : w_X10_fewest_68 Po s0 s1 s2 I J) : gJ X V 0 0 68 [(0, .ref (V.2.1 200))] [.int s0, .int s1, .int s2, .ref (V.2.1 200)] I J := by
  unfold w_X10_fewest_68 at h
  refine j_callV (pc := 68) (As := [.int s2, .int s1, .int s0]) (st := []) C hX 200 (m_X10_seek hM  h) (c_200 hM).1 (c_200 hM).2 rfl ok_X10_seek wd_1217 wd_1219 wd_56 ⟨by decide, by decide⟩ rfl rfl (Nat.le_of_ble_eq_true rfl) ⟨Nat.le_refl 0, Nat.le_refl 0⟩ dX10_fewest_68 (fun r V1 I6 J7 hp => ?_)
  obtain ⟨rfl, rfl, h⟩ := hp
  show gJ X V 0 0 71 _ [] _ _
  refine j_aload_n (pc := 71) C dX10_fewest_71 rfl 0 rfl ?_
  refine j_getL (pc := 72) C 200 29 (c_200 hM).1 (c_200 hM).2 rfl rfl (by decide) inw_X10 wd_995 dX10_fewest_72 ?_
  refine j_lconst (pc := 75) (v := 0) C dX10_fewest_75 (by decide) ?_
  refine j_lcmp (pc := 76) C dX10_fewest_76 ?_
  refine j_if_ne (pc := 77) (tgt := 84) C dX10_fewest_77 (by decide) (fun c8 => ?_) (fun c8 => ?_)
  · have h := h.1 c8
    refine j_aload_n (pc := 84) C dX10_fewest_84 rfl 0 rfl ?_
    refine j_getI (pc := 85) C 200 30 (c_200 hM).1 (c_200 hM).2 rfl rfl (by decide) inw_X10 wd_996 dX10_fewest_85 ?_
    exact j_iret (pc := 88) C hR (Nat.zero_le _) (Nat.zero_le _) dX10_fewest_88 ⟨_, rfl, rfl, h⟩
  · have h := h.2 c8
    refine j_iconst (pc := 80) (v := (-1)) C dX10_fewest_80 (by decide) ?_
    refine j_goto (pc := 81) (tgt := 88) C dX10_fewest_81 (by decide) ?_
    exact j_iret (pc := 88) C hR (Nat.zero_le _) (Nat.zero_le _) dX10_fewest_88 ⟨_, rfl, rfl, h⟩
set_option maxRecDepth 100000 in
set_option maxHeartbeats 4000000 in
theorem m_X10_fewest {l : Launch} {D : va_G} {cy : Nat → ClassId} {V : gV} (hM : gModM V) {a1 : Int32} {I : gI} {J : gL} {Po : Int32 → gI → gL → Prop} (h : wp_X10_fewest a1 I J Po) : gMet l D cy yX10_fewest cX10_fewest 2 (some .int) rm_X10_fewest V [.ref (V.2.1 200), .int a1] I J (gPi V (fun x I' J' => Po x I' J')) := by
  refine gMet.of (by decide) (Nat.le_of_ble_eq_true rfl) (fun X hX C hR => ?_)
  have C : gC X cX10_fewest RX10 (some .int) 2 rm_X10_fewest := C
  show gJ X V 0 0 0 [(0, .ref (V.2.1 200)), (1, .int a1)] [] I J
  unfold wp_X10_fewest at h
  refine j_iload_n (pc := 0) C dX10_fewest_0 rfl 1 rfl ?_
  refine j_iconst (pc := 1) (v := 0) C dX10_fewest_1 (by decide) ?_
  refine j_iconst (pc := 2) (v := 2) C dX10_fewest_2 (by decide) ?_
  refine j_callS (pc := 3) (As := [.int a1, .int (0 : Int32), .int (2 : Int32)]) (st := []) C hX (m_X10_isIn   h) ok_X10_isIn wd_1108 wd_1109 ⟨by decide, by decide⟩ rfl rfl (Nat.le_of_ble_eq_true rfl) ⟨Nat.le_refl 0, Nat.le_refl 0⟩ dX10_fewest_3 (fun r V1 I1 J1 hp => ?_)
  obtain ⟨r1, rfl, rfl, rfl, rfl, h⟩ := hp
  show gJ X V 0 0 6 _ [.int r1] _ _
  refine j_if_ne (pc := 6) (tgt := 12) C dX10_fewest_6 (by decide) (fun c2 => ?_) (fun c2 => ?_)
  · have h := h.1 c2
    refine j_iload_n (pc := 12) C dX10_fewest_12 rfl 1 rfl ?_
    refine j_iconst (pc := 13) (v := 1) C dX10_fewest_13 (by decide) ?_
    refine j_icmp_ne (pc := 14) (tgt := 49) C dX10_fewest_14 (by decide) (fun c3 => ?_) (fun c3 => ?_)
    · have h := h.1 c3
      refine j_aload_n (pc := 49) C dX10_fewest_49 rfl 0 rfl ?_
      refine j_callV (pc := 50) (As := []) (st := []) C hX 200 (m_X10_placeAll hM  h) (c_200 hM).1 (c_200 hM).2 rfl ok_X10_placeAll wd_1186 wd_1188 wd_50 ⟨by decide, by decide⟩ rfl rfl (Nat.le_of_ble_eq_true rfl) ⟨Nat.le_refl 0, Nat.le_refl 0⟩ dX10_fewest_50 (fun r V1 I4 J1 hp => ?_)
      obtain ⟨rfl, rfl, rfl, h⟩ := hp
      show gJ X V 0 0 53 _ [] _ _
      refine j_aload_n (pc := 53) C dX10_fewest_53 rfl 0 rfl ?_
      refine j_aload_n (pc := 54) C dX10_fewest_54 rfl 0 rfl ?_
      refine j_getI (pc := 55) C 200 15 (c_200 hM).1 (c_200 hM).2 rfl rfl (by decide) inw_X10 wd_981 dX10_fewest_55 ?_
      refine j_iconst (pc := 58) (v := 0) C dX10_fewest_58 (by decide) ?_
      refine j_iload_n (pc := 59) C dX10_fewest_59 rfl 1 rfl ?_
      refine j_if_ne (pc := 60) (tgt := 67) C dX10_fewest_60 (by decide) (fun c5 => ?_) (fun c5 => ?_)
      · have h := h.1 c5
        refine j_iconst (pc := 67) (v := 0) C dX10_fewest_67 (by decide) ?_
        refine gJ.sub [0] rfl ?_
        exact t_X10_fewest_68 hM C hX hR   h
      · have h := h.2 c5
        refine j_iconst (pc := 63) (v := 1) C dX10_fewest_63 (by decide) ?_
        refine j_goto (pc := 64) (tgt := 68) C dX10_fewest_64 (by decide) ?_
        refine gJ.sub [0] rfl ?_
        exact t_X10_fewest_68 hM C hX hR   h
    · have h := h.2 c3
      refine j_aload_n (pc := 17) C dX10_fewest_17 rfl 0 rfl ?_
      refine j_callV (pc := 18) (As := []) (st := []) C hX 200 (m_X10_tellLeft hM  h) (c_200 hM).1 (c_200 hM).2 rfl ok_X10_tellLeft wd_1206 wd_1208 wd_54 ⟨by decide, by decide⟩ rfl rfl (Nat.le_of_ble_eq_true rfl) ⟨Nat.le_refl 0, Nat.le_refl 0⟩ dX10_fewest_18 (fun r V1 I9 J10 hp => ?_)
      obtain ⟨rfl, rfl, h⟩ := hp
      show gJ X V 0 0 21 _ [] _ _
      refine j_aload_n (pc := 21) C dX10_fewest_21 rfl 0 rfl ?_
      refine j_getR (pc := 22) C 200 24 217 (c_200 hM).1 (c_200 hM).2 rfl rfl (by decide) inw_X10 wd_990 dX10_fewest_22 ?_
      refine j_aload_n (pc := 25) C dX10_fewest_25 rfl 0 rfl ?_
      refine j_getI (pc := 26) C 200 15 (c_200 hM).1 (c_200 hM).2 rfl rfl (by decide) inw_X10 wd_981 dX10_fewest_26 ?_
      obtain ⟨g11, h⟩ := h
      refine j_bald (pc := 29) C 217 (c_217 hM).1 (c_217 hM).2 g11 dX10_fewest_29 ?_
      refine j_bipush (pc := 30) (v := 100) C dX10_fewest_30 (by decide) ?_
      refine j_icmp_ne (pc := 32) (tgt := 39) C dX10_fewest_32 (by decide) (fun c12 => ?_) (fun c12 => ?_)
      · have h := h.1 c12
        refine j_aload_n (pc := 39) C dX10_fewest_39 rfl 0 rfl ?_
        refine j_getR (pc := 40) C 200 24 217 (c_200 hM).1 (c_200 hM).2 rfl rfl (by decide) inw_X10 wd_990 dX10_fewest_40 ?_
        refine j_aload_n (pc := 43) C dX10_fewest_43 rfl 0 rfl ?_
        refine j_getI (pc := 44) C 200 15 (c_200 hM).1 (c_200 hM).2 rfl rfl (by decide) inw_X10 wd_981 dX10_fewest_44 ?_
        obtain ⟨g13, h⟩ := h
        refine j_bald (pc := 47) C 217 (c_217 hM).1 (c_217 hM).2 g13 dX10_fewest_47 ?_
        exact j_iret (pc := 48) C hR (Nat.zero_le _) (Nat.zero_le _) dX10_fewest_48 ⟨_, rfl, rfl, h⟩
      · have h := h.2 c12
        refine j_iconst (pc := 35) (v := (-1)) C dX10_fewest_35 (by decide) ?_
        refine j_goto (pc := 36) (tgt := 48) C dX10_fewest_36 (by decide) ?_
        exact j_iret (pc := 48) C hR (Nat.zero_le _) (Nat.zero_le _) dX10_fewest_48 ⟨_, rfl, rfl, h⟩
  · have h := h.2 c2
    refine j_bipush (pc := 9) (v := (-2)) C dX10_fewest_9 (by decide) ?_
    exact j_iret (pc := 11) C hR (Nat.zero_le _) (Nat.zero_le _) dX10_fewest_11 ⟨_, rfl, rfl, h⟩
/-! TileRulesModel.letters(II)I -/
abbrev rm_X10_letters : Room := { frames := 1, cells := 0, slots := 0, locals := 22 }
theorem ok_X10_letters : gOk yX10_letters cX10_letters 5 (some .int) 2 := ⟨wd_1240, wd_74, by decide +kernel⟩
def w_X10_letters_40b  (Po : Int32 → gI → Prop) (K40 : Int32 → gI → Prop) (v3 : Int32) (v4 : Int32) (I : gI) : Prop :=
  ((54 : Int32) ≤ v4 → Po v3 I) ∧ (¬ (54 : Int32) ≤ v4 → vp_in v4 54 ∧ ∀ I10 : gI, I10 = gup I 222 (v4).toNatClampNeg (0 : Int32) → ∀ n11 : Int32, n11 = v4 + 1 → K40 n11 I10)
def w_X10_letters_40  (Po : Int32 → gI → Prop)  (v3 : Int32) (v4 : Int32) (I : gI) : Prop :=
  ∃ (Inv : Int32 → gI → Prop) (mu : Int32 → gI → Nat), Inv v4 I ∧ ∀ (v4 : Int32) (I : gI), Inv v4 I → w_X10_letters_40b  Po  (fun u4 I1 => Inv u4 I1 ∧ mu u4 I1 < mu v4 I) v3 v4 I
def wp_X10_letters (a1 : Int32) (a2 : Int32) (I : gI) (Po : Int32 → gI → Prop) : Prop :=
  wp_X10_isIn a1 (1 : Int32) (6 : Int32) (fun r1 => (r1 = 0 → Po (-2 : Int32) I) ∧ (¬ r1 = 0 → wp_X10_isIn a2 (2 : Int32) (3 : Int32) (fun r3 => (¬ r3 = 0 → ∀ n5 : Int32, n5 = (I 200 31) → ∀ I6 : gI, I6 = gup I 200 31 a1 → ∀ I7 : gI, I7 = gup I6 200 32 a2 → w_X10_letters_40 Po n5 (0 : Int32) I7) ∧ (r3 = 0 → Po (-2 : Int32) I))))
set_option maxRecDepth 100000 in
set_option maxHeartbeats 4000000 in
theorem t_X10_letters_40b {X : gX} {l : Launch} {D : va_G} {cy : Nat → ClassId} {nm : String} {V : gV} (hM : gModM V) (C : gC X cX10_letters RX10 (some .int) 5 rm_X10_letters) (hX : gIs X l D cy nm) {I : gI} {J : gL} {Po : Int32 → gI → Prop} (hR : gR X (gPi V (fun x I' J' => J = J' ∧ Po x I'))) {v3 : Int32} {v4 : Int32} {K40 : Int32 → gI → Prop} (hK40 : ∀ (y4 : Int32) (I1 : gI), K40 y4 I1 → gJ X V 0 0 40 [(0, .ref (V.2.1 200)), (3, .int v3), (4, .int y4)] [] I1 J) (h : w_X10_letters_40b Po K40 v3 v4 I) : gJ X V 0 0 40 [(0, .ref (V.2.1 200)), (3, .int v3), (4, .int v4)] [] I J := by
  unfold w_X10_letters_40b at h
  refine j_iload (pc := 40) C dX10_letters_40 2 rfl ?_
  refine j_bipush (pc := 42) (v := 54) C dX10_letters_42 (by decide) ?_
  refine j_icmp_ge (pc := 44) (tgt := 61) C dX10_letters_44 (by decide) (fun c8 => ?_) (fun c8 => ?_)
  · have h := h.1 c8
    refine j_iload_n (pc := 61) C dX10_letters_61 rfl 1 rfl ?_
    exact j_iret (pc := 62) C hR (Nat.zero_le _) (Nat.zero_le _) dX10_letters_62 ⟨_, rfl, rfl, rfl, h⟩
  · have h := h.2 c8
    refine j_aload_n (pc := 47) C dX10_letters_47 rfl 0 rfl ?_
    refine j_getR (pc := 48) C 200 33 222 (c_200 hM).1 (c_200 hM).2 rfl rfl (by decide) inw_X10 wd_999 dX10_letters_48 ?_
    refine j_iload (pc := 51) C dX10_letters_51 2 rfl ?_
    refine j_iconst (pc := 53) (v := 0) C dX10_letters_53 (by decide) ?_
    obtain ⟨g9, h⟩ := h
    refine j_iast (pc := 54) C 222 (c_222 hM).1 (c_222 hM).2 g9 dX10_letters_54 ?_
    refine gJ.nmI (fun I10 eI10 => ?_)
    have h := h I10 eI10
    obtain ⟨n11, en11⟩ : ∃ z : Int32, z = v4 + 1 := ⟨_, rfl⟩
    have h := h n11 en11
    refine j_iinc (pc := 55) (v := n11) (lv' := [(4, .int n11), (0, .ref (V.2.1 200)), (3, .int v3)]) C dX10_letters_55 2 rfl (by rw [en11]; rfl) (by decide) rfl ?_
    refine j_goto (pc := 58) (tgt := 40) C dX10_letters_58 (by decide) ?_
    refine gJ.sub [1, 2, 0] rfl ?_
    exact hK40 _ _ h
set_option maxRecDepth 100000 in
set_option maxHeartbeats 4000000 in
theorem t_X10_letters_40 {X : gX} {l : Launch} {D : va_G} {cy : Nat → ClassId} {nm : String} {V : gV} (hM : gModM V) (C : gC X cX10_letters RX10 (some .int) 5 rm_X10_letters) (hX : gIs X l D cy nm) {I : gI} {J : gL} {Po : Int32 → gI → Prop} (hR : gR X (gPi V (fun x I' J' => J = J' ∧ Po x I'))) {v3 : Int32} {v4 : Int32} (h : w_X10_letters_40 Po v3 v4 I) : gJ X V 0 0 40 [(0, .ref (V.2.1 200)), (3, .int v3), (4, .int v4)] [] I J := by
  unfold w_X10_letters_40 at h
  obtain ⟨Inv, mu, h0, hs⟩ := h
  have key : ∀ (n : Nat) (v4 : Int32) (I : gI), Inv v4 I → mu v4 I < n → gJ X V 0 0 40 [(0, .ref (V.2.1 200)), (3, .int v3), (4, .int v4)] [] I J := by
    intro n
    induction n with
    | zero => intro v4 I hi hn; exact absurd hn (Nat.not_lt_zero _)
    | succ n ih =>
      intro v4 I hi hn
      exact t_X10_letters_40b hM C hX hR   (fun u4 I1 hk => ih u4 I1 hk.1 (Nat.lt_of_lt_of_le hk.2 (Nat.le_of_lt_succ hn))) (hs v4 I hi)
  exact key _ v4 I h0 (Nat.lt_succ_self _)
set_option maxRecDepth 100000 in
set_option maxHeartbeats 4000000 in
theorem m_X10_letters {l : Launch} {D : va_G} {cy : Nat → ClassId} {V : gV} (hM : gModM V) {a1 : Int32} {a2 : Int32} {I : gI} {J : gL} {Po : Int32 → gI → Prop} (h : wp_X10_letters a1 a2 I Po) : gMet l D cy yX10_letters cX10_letters 5 (some .int) rm_X10_letters V [.ref (V.2.1 200), .int a1, .int a2] I J (gPi V (fun x I' J' => J = J' ∧ Po x I')) := by
  refine gMet.of (by decide) (Nat.le_of_ble_eq_true rfl) (fun X hX C hR => ?_)
  have C : gC X cX10_letters RX10 (some .int) 5 rm_X10_letters := C
  show gJ X V 0 0 0 [(0, .ref (V.2.1 200)), (1, .int a1), (2, .int a2)] [] I J
  unfold wp_X10_letters at h
  refine j_iload_n (pc := 0) C dX10_letters_0 rfl 1 rfl ?_
  refine j_iconst (pc := 1) (v := 1) C dX10_letters_1 (by decide) ?_
  refine j_bipush (pc := 2) (v := 6) C dX10_letters_2 (by decide) ?_
  refine j_callS (pc := 4) (As := [.int a1, .int (1 : Int32), .int (6 : Int32)]) (st := []) C hX (m_X10_isIn   h) ok_X10_isIn wd_1108 wd_1109 ⟨by decide, by decide⟩ rfl rfl (Nat.le_of_ble_eq_true rfl) ⟨Nat.le_refl 0, Nat.le_refl 0⟩ dX10_letters_4 (fun r V1 I1 J1 hp => ?_)
  obtain ⟨r1, rfl, rfl, rfl, rfl, h⟩ := hp
  show gJ X V 0 0 7 _ [.int r1] _ _
  refine j_if_eq (pc := 7) (tgt := 19) C dX10_letters_7 (by decide) (fun c2 => ?_) (fun c2 => ?_)
  · have h := h.1 c2
    refine j_bipush (pc := 19) (v := (-2)) C dX10_letters_19 (by decide) ?_
    exact j_iret (pc := 21) C hR (Nat.zero_le _) (Nat.zero_le _) dX10_letters_21 ⟨_, rfl, rfl, rfl, h⟩
  · have h := h.2 c2
    refine j_iload_n (pc := 10) C dX10_letters_10 rfl 2 rfl ?_
    refine j_iconst (pc := 11) (v := 2) C dX10_letters_11 (by decide) ?_
    refine j_iconst (pc := 12) (v := 3) C dX10_letters_12 (by decide) ?_
    refine j_callS (pc := 13) (As := [.int a2, .int (2 : Int32), .int (3 : Int32)]) (st := []) C hX (m_X10_isIn   h) ok_X10_isIn wd_1108 wd_1109 ⟨by decide, by decide⟩ rfl rfl (Nat.le_of_ble_eq_true rfl) ⟨Nat.le_refl 0, Nat.le_refl 0⟩ dX10_letters_13 (fun r V1 I1 J1 hp => ?_)
    obtain ⟨r3, rfl, rfl, rfl, rfl, h⟩ := hp
    show gJ X V 0 0 16 _ [.int r3] _ _
    refine j_if_ne (pc := 16) (tgt := 22) C dX10_letters_16 (by decide) (fun c4 => ?_) (fun c4 => ?_)
    · have h := h.1 c4
      refine j_aload_n (pc := 22) C dX10_letters_22 rfl 0 rfl ?_
      refine j_getI (pc := 23) C 200 31 (c_200 hM).1 (c_200 hM).2 rfl rfl (by decide) inw_X10 wd_997 dX10_letters_23 ?_
      refine gJ.topi (fun n5 en5 => ?_)
      have h := h n5 en5
      refine j_istore_n (pc := 26) (lv' := [(3, .int n5), (0, .ref (V.2.1 200)), (1, .int a1), (2, .int a2)]) C dX10_letters_26 rfl (by decide) rfl ?_
      refine j_aload_n (pc := 27) C dX10_letters_27 rfl 1 rfl ?_
      refine j_iload_n (pc := 28) C dX10_letters_28 rfl 2 rfl ?_
      refine j_putI (pc := 29) (ft := .int) C tyX10 tyX10_ok nmX10 200 31 (c_200 hM).1 (c_200 hM).2 rfl rfl (by decide) inw_X10 wd_997 rfl (by decide +kernel) rfl rfl dX10_letters_29 ?_
      refine gJ.nmI (fun I6 eI6 => ?_)
      have h := h I6 eI6
      refine j_aload_n (pc := 32) C dX10_letters_32 rfl 1 rfl ?_
      refine j_iload_n (pc := 33) C dX10_letters_33 rfl 3 rfl ?_
      refine j_putI (pc := 34) (ft := .int) C tyX10 tyX10_ok nmX10 200 32 (c_200 hM).1 (c_200 hM).2 rfl rfl (by decide) inw_X10 wd_998 rfl (by decide +kernel) rfl rfl dX10_letters_34 ?_
      refine gJ.nmI (fun I7 eI7 => ?_)
      have h := h I7 eI7
      refine j_iconst (pc := 37) (v := 0) C dX10_letters_37 (by decide) ?_
      refine j_istore (pc := 38) (lv' := [(4, .int (0 : Int32)), (3, .int n5), (0, .ref (V.2.1 200)), (1, .int a1), (2, .int a2)]) C dX10_letters_38 (by decide) rfl ?_
      refine gJ.sub [2, 1, 0] rfl ?_
      exact t_X10_letters_40 hM C hX hR   h
    · have h := h.2 c4
      refine j_bipush (pc := 19) (v := (-2)) C dX10_letters_19 (by decide) ?_
      exact j_iret (pc := 21) C hR (Nat.zero_le _) (Nat.zero_le _) dX10_letters_21 ⟨_, rfl, rfl, rfl, h⟩
/-! TileRulesModel.isLetter(I)Z -/
abbrev rm_X10_isLetter : Room := { frames := 1, cells := 0, slots := 0, locals := 22 }
theorem ok_X10_isLetter : gOk yX10_isLetter cX10_isLetter 2 (some .boolean) 1 := ⟨wd_1248, wd_74, by decide +kernel⟩
def wp_X10_isLetter (a1 : Int32) (I : gI) (Po : Int32 → Prop) : Prop :=
  wp_X10_isIn a1 (0 : Int32) ((I 200 31) - (1 : Int32)) (fun r1 => (r1 = 0 ∨ r1 = 1) ∧ Po r1)
set_option maxRecDepth 100000 in
set_option maxHeartbeats 4000000 in
theorem m_X10_isLetter {l : Launch} {D : va_G} {cy : Nat → ClassId} {V : gV} (hM : gModM V) {a1 : Int32} {I : gI} {J : gL} {Po : Int32 → Prop} (h : wp_X10_isLetter a1 I Po) : gMet l D cy yX10_isLetter cX10_isLetter 2 (some .boolean) rm_X10_isLetter V [.ref (V.2.1 200), .int a1] I J (gPi V (fun x I' J' => I = I' ∧ J = J' ∧ Po x)) := by
  refine gMet.of (by decide) (Nat.le_of_ble_eq_true rfl) (fun X hX C hR => ?_)
  have C : gC X cX10_isLetter RX10 (some .boolean) 2 rm_X10_isLetter := C
  show gJ X V 0 0 0 [(0, .ref (V.2.1 200)), (1, .int a1)] [] I J
  unfold wp_X10_isLetter at h
  refine j_iload_n (pc := 0) C dX10_isLetter_0 rfl 1 rfl ?_
  refine j_iconst (pc := 1) (v := 0) C dX10_isLetter_1 (by decide) ?_
  refine j_aload_n (pc := 2) C dX10_isLetter_2 rfl 0 rfl ?_
  refine j_getI (pc := 3) C 200 31 (c_200 hM).1 (c_200 hM).2 rfl rfl (by decide) inw_X10 wd_997 dX10_isLetter_3 ?_
  refine j_iconst (pc := 6) (v := 1) C dX10_isLetter_6 (by decide) ?_
  refine j_isub (pc := 7) C dX10_isLetter_7 ?_
  refine j_callS (pc := 8) (As := [.int a1, .int (0 : Int32), .int ((I 200 31) - (1 : Int32))]) (st := []) C hX (m_X10_isIn   h) ok_X10_isIn wd_1108 wd_1109 ⟨by decide, by decide⟩ rfl rfl (Nat.le_of_ble_eq_true rfl) ⟨Nat.le_refl 0, Nat.le_refl 0⟩ dX10_isLetter_8 (fun r V1 I1 J1 hp => ?_)
  obtain ⟨r1, rfl, rfl, rfl, rfl, h⟩ := hp
  show gJ X V 0 0 11 _ [.int r1] _ _
  obtain ⟨g2, h⟩ := h
  exact j_zret (pc := 11) C hR g2 (Nat.zero_le _) (Nat.zero_le _) dX10_isLetter_11 ⟨_, rfl, rfl, rfl, rfl, h⟩
/-! TileRulesModel.at(III)I -/
abbrev rm_X10_at : Room := { frames := 0, cells := 0, slots := 0, locals := 0 }
theorem ok_X10_at : gOk yX10_at cX10_at 4 (some .int) 3 := ⟨wd_1252, wd_74, by decide +kernel⟩
def wp_X10_at (a1 : Int32) (a2 : Int32) (a3 : Int32) (I : gI) (Po : Int32 → Prop) : Prop :=
  vp_in ((((9 : Int32) * a1) + ((I 200 32) * a3)) + a2) 54 ∧ Po (I 222 (((((9 : Int32) * a1) + ((I 200 32) * a3)) + a2)).toNatClampNeg)
set_option maxRecDepth 100000 in
set_option maxHeartbeats 4000000 in
theorem m_X10_at {l : Launch} {D : va_G} {cy : Nat → ClassId} {V : gV} (hM : gModM V) {a1 : Int32} {a2 : Int32} {a3 : Int32} {I : gI} {J : gL} {Po : Int32 → Prop} (h : wp_X10_at a1 a2 a3 I Po) : gMet l D cy yX10_at cX10_at 4 (some .int) rm_X10_at V [.ref (V.2.1 200), .int a1, .int a2, .int a3] I J (gPi V (fun x I' J' => I = I' ∧ J = J' ∧ Po x)) := by
  refine gMet.of (by decide) (Nat.le_of_ble_eq_true rfl) (fun X hX C hR => ?_)
  have C : gC X cX10_at RX10 (some .int) 4 rm_X10_at := C
  show gJ X V 0 0 0 [(0, .ref (V.2.1 200)), (1, .int a1), (2, .int a2), (3, .int a3)] [] I J
  unfold wp_X10_at at h
  refine j_aload_n (pc := 0) C dX10_at_0 rfl 0 rfl ?_
  refine j_getR (pc := 1) C 200 33 222 (c_200 hM).1 (c_200 hM).2 rfl rfl (by decide) inw_X10 wd_999 dX10_at_1 ?_
  refine j_bipush (pc := 4) (v := 9) C dX10_at_4 (by decide) ?_
  refine j_iload_n (pc := 6) C dX10_at_6 rfl 1 rfl ?_
  refine j_imul (pc := 7) C dX10_at_7 ?_
  refine j_aload_n (pc := 8) C dX10_at_8 rfl 0 rfl ?_
  refine j_getI (pc := 9) C 200 32 (c_200 hM).1 (c_200 hM).2 rfl rfl (by decide) inw_X10 wd_998 dX10_at_9 ?_
  refine j_iload_n (pc := 12) C dX10_at_12 rfl 3 rfl ?_
  refine j_imul (pc := 13) C dX10_at_13 ?_
  refine j_iadd (pc := 14) C dX10_at_14 ?_
  refine j_iload_n (pc := 15) C dX10_at_15 rfl 2 rfl ?_
  refine j_iadd (pc := 16) C dX10_at_16 ?_
  obtain ⟨g1, h⟩ := h
  refine j_iald (pc := 17) C 222 (c_222 hM).1 (c_222 hM).2 g1 dX10_at_17 ?_
  exact j_iret (pc := 18) C hR (Nat.zero_le _) (Nat.zero_le _) dX10_at_18 ⟨_, rfl, rfl, rfl, rfl, h⟩
/-! TileRulesModel.block(IIII)I -/
abbrev rm_X10_block : Room := { frames := 2, cells := 0, slots := 0, locals := 43 }
theorem ok_X10_block : gOk yX10_block cX10_block 6 (some .int) 4 := ⟨wd_1244, wd_74, by decide +kernel⟩
def wp_X10_block (a1 : Int32) (a2 : Int32) (a3 : Int32) (a4 : Int32) (I : gI) (Po : Int32 → gI → Prop) : Prop :=
  wp_X10_isLetter a1 I (fun r1 => (r1 = 0 → Po (-2 : Int32) I) ∧ (¬ r1 = 0 → wp_X10_isLetter a4 I (fun r3 => (r3 = 0 → Po (-2 : Int32) I) ∧ (¬ r3 = 0 → wp_X10_isIn a2 (0 : Int32) ((I 200 32) - (1 : Int32)) (fun r5 => (r5 = 0 → Po (-2 : Int32) I) ∧ (¬ r5 = 0 → wp_X10_isIn a3 (0 : Int32) ((I 200 32) - (1 : Int32)) (fun r7 => (¬ r7 = 0 → wp_X10_at a1 a2 a3 I (fun r9 => vp_in ((((9 : Int32) * a1) + ((I 200 32) * a3)) + a2) 54 ∧ ∀ I11 : gI, I11 = gup I 222 (((((9 : Int32) * a1) + ((I 200 32) * a3)) + a2)).toNatClampNeg a4 → Po r9 I11)) ∧ (r7 = 0 → Po (-2 : Int32) I))))))))
set_option maxRecDepth 100000 in
set_option maxHeartbeats 4000000 in
theorem m_X10_block {l : Launch} {D : va_G} {cy : Nat → ClassId} {V : gV} (hM : gModM V) {a1 : Int32} {a2 : Int32} {a3 : Int32} {a4 : Int32} {I : gI} {J : gL} {Po : Int32 → gI → Prop} (h : wp_X10_block a1 a2 a3 a4 I Po) : gMet l D cy yX10_block cX10_block 6 (some .int) rm_X10_block V [.ref (V.2.1 200), .int a1, .int a2, .int a3, .int a4] I J (gPi V (fun x I' J' => J = J' ∧ Po x I')) := by
  refine gMet.of (by decide) (Nat.le_of_ble_eq_true rfl) (fun X hX C hR => ?_)
  have C : gC X cX10_block RX10 (some .int) 6 rm_X10_block := C
  show gJ X V 0 0 0 [(0, .ref (V.2.1 200)), (1, .int a1), (2, .int a2), (3, .int a3), (4, .int a4)] [] I J
  unfold wp_X10_block at h
  refine j_aload_n (pc := 0) C dX10_block_0 rfl 0 rfl ?_
  refine j_iload_n (pc := 1) C dX10_block_1 rfl 1 rfl ?_
  refine j_callV (pc := 2) (As := [.int a1]) (st := []) C hX 200 (m_X10_isLetter hM  h) (c_200 hM).1 (c_200 hM).2 rfl ok_X10_isLetter wd_1245 wd_1247 wd_59 ⟨by decide, by decide⟩ rfl rfl (Nat.le_of_ble_eq_true rfl) ⟨Nat.le_refl 0, Nat.le_refl 0⟩ dX10_block_2 (fun r V1 I1 J1 hp => ?_)
  obtain ⟨r1, rfl, rfl, rfl, rfl, h⟩ := hp
  show gJ X V 0 0 5 _ [.int r1] _ _
  refine j_if_eq (pc := 5) (tgt := 45) C dX10_block_5 (by decide) (fun c2 => ?_) (fun c2 => ?_)
  · have h := h.1 c2
    refine j_bipush (pc := 45) (v := (-2)) C dX10_block_45 (by decide) ?_
    exact j_iret (pc := 47) C hR (Nat.zero_le _) (Nat.zero_le _) dX10_block_47 ⟨_, rfl, rfl, rfl, h⟩
  · have h := h.2 c2
    refine j_aload_n (pc := 8) C dX10_block_8 rfl 0 rfl ?_
    refine j_iload (pc := 9) C dX10_block_9 4 rfl ?_
    refine j_callV (pc := 11) (As := [.int a4]) (st := []) C hX 200 (m_X10_isLetter hM  h) (c_200 hM).1 (c_200 hM).2 rfl ok_X10_isLetter wd_1245 wd_1247 wd_59 ⟨by decide, by decide⟩ rfl rfl (Nat.le_of_ble_eq_true rfl) ⟨Nat.le_refl 0, Nat.le_refl 0⟩ dX10_block_11 (fun r V1 I1 J1 hp => ?_)
    obtain ⟨r3, rfl, rfl, rfl, rfl, h⟩ := hp
    show gJ X V 0 0 14 _ [.int r3] _ _
    refine j_if_eq (pc := 14) (tgt := 45) C dX10_block_14 (by decide) (fun c4 => ?_) (fun c4 => ?_)
    · have h := h.1 c4
      refine j_bipush (pc := 45) (v := (-2)) C dX10_block_45 (by decide) ?_
      exact j_iret (pc := 47) C hR (Nat.zero_le _) (Nat.zero_le _) dX10_block_47 ⟨_, rfl, rfl, rfl, h⟩
    · have h := h.2 c4
      refine j_iload_n (pc := 17) C dX10_block_17 rfl 2 rfl ?_
      refine j_iconst (pc := 18) (v := 0) C dX10_block_18 (by decide) ?_
      refine j_aload_n (pc := 19) C dX10_block_19 rfl 0 rfl ?_
      refine j_getI (pc := 20) C 200 32 (c_200 hM).1 (c_200 hM).2 rfl rfl (by decide) inw_X10 wd_998 dX10_block_20 ?_
      refine j_iconst (pc := 23) (v := 1) C dX10_block_23 (by decide) ?_
      refine j_isub (pc := 24) C dX10_block_24 ?_
      refine j_callS (pc := 25) (As := [.int a2, .int (0 : Int32), .int ((I 200 32) - (1 : Int32))]) (st := []) C hX (m_X10_isIn   h) ok_X10_isIn wd_1108 wd_1109 ⟨by decide, by decide⟩ rfl rfl (Nat.le_of_ble_eq_true rfl) ⟨Nat.le_refl 0, Nat.le_refl 0⟩ dX10_block_25 (fun r V1 I1 J1 hp => ?_)
      obtain ⟨r5, rfl, rfl, rfl, rfl, h⟩ := hp
      show gJ X V 0 0 28 _ [.int r5] _ _
      refine j_if_eq (pc := 28) (tgt := 45) C dX10_block_28 (by decide) (fun c6 => ?_) (fun c6 => ?_)
      · have h := h.1 c6
        refine j_bipush (pc := 45) (v := (-2)) C dX10_block_45 (by decide) ?_
        exact j_iret (pc := 47) C hR (Nat.zero_le _) (Nat.zero_le _) dX10_block_47 ⟨_, rfl, rfl, rfl, h⟩
      · have h := h.2 c6
        refine j_iload_n (pc := 31) C dX10_block_31 rfl 3 rfl ?_
        refine j_iconst (pc := 32) (v := 0) C dX10_block_32 (by decide) ?_
        refine j_aload_n (pc := 33) C dX10_block_33 rfl 0 rfl ?_
        refine j_getI (pc := 34) C 200 32 (c_200 hM).1 (c_200 hM).2 rfl rfl (by decide) inw_X10 wd_998 dX10_block_34 ?_
        refine j_iconst (pc := 37) (v := 1) C dX10_block_37 (by decide) ?_
        refine j_isub (pc := 38) C dX10_block_38 ?_
        refine j_callS (pc := 39) (As := [.int a3, .int (0 : Int32), .int ((I 200 32) - (1 : Int32))]) (st := []) C hX (m_X10_isIn   h) ok_X10_isIn wd_1108 wd_1109 ⟨by decide, by decide⟩ rfl rfl (Nat.le_of_ble_eq_true rfl) ⟨Nat.le_refl 0, Nat.le_refl 0⟩ dX10_block_39 (fun r V1 I1 J1 hp => ?_)
        obtain ⟨r7, rfl, rfl, rfl, rfl, h⟩ := hp
        show gJ X V 0 0 42 _ [.int r7] _ _
        refine j_if_ne (pc := 42) (tgt := 48) C dX10_block_42 (by decide) (fun c8 => ?_) (fun c8 => ?_)
        · have h := h.1 c8
          refine j_aload_n (pc := 48) C dX10_block_48 rfl 0 rfl ?_
          refine j_iload_n (pc := 49) C dX10_block_49 rfl 1 rfl ?_
          refine j_iload_n (pc := 50) C dX10_block_50 rfl 2 rfl ?_
          refine j_iload_n (pc := 51) C dX10_block_51 rfl 3 rfl ?_
          refine j_callV (pc := 52) (As := [.int a1, .int a2, .int a3]) (st := []) C hX 200 (m_X10_at hM  h) (c_200 hM).1 (c_200 hM).2 rfl ok_X10_at wd_1249 wd_1251 wd_60 ⟨by decide, by decide⟩ rfl rfl (Nat.le_of_ble_eq_true rfl) ⟨Nat.le_refl 0, Nat.le_refl 0⟩ dX10_block_52 (fun r V1 I1 J1 hp => ?_)
          obtain ⟨r9, rfl, rfl, rfl, rfl, h⟩ := hp
          show gJ X V 0 0 55 _ [.int r9] _ _
          refine j_istore (pc := 55) (lv' := [(5, .int r9), (0, .ref (V.2.1 200)), (1, .int a1), (2, .int a2), (3, .int a3), (4, .int a4)]) C dX10_block_55 (by decide) rfl ?_
          refine j_aload_n (pc := 57) C dX10_block_57 rfl 1 rfl ?_
          refine j_getR (pc := 58) C 200 33 222 (c_200 hM).1 (c_200 hM).2 rfl rfl (by decide) inw_X10 wd_999 dX10_block_58 ?_
          refine j_bipush (pc := 61) (v := 9) C dX10_block_61 (by decide) ?_
          refine j_iload_n (pc := 63) C dX10_block_63 rfl 2 rfl ?_
          refine j_imul (pc := 64) C dX10_block_64 ?_
          refine j_aload_n (pc := 65) C dX10_block_65 rfl 1 rfl ?_
          refine j_getI (pc := 66) C 200 32 (c_200 hM).1 (c_200 hM).2 rfl rfl (by decide) inw_X10 wd_998 dX10_block_66 ?_
          refine j_iload_n (pc := 69) C dX10_block_69 rfl 4 rfl ?_
          refine j_imul (pc := 70) C dX10_block_70 ?_
          refine j_iadd (pc := 71) C dX10_block_71 ?_
          refine j_iload_n (pc := 72) C dX10_block_72 rfl 3 rfl ?_
          refine j_iadd (pc := 73) C dX10_block_73 ?_
          refine j_iload (pc := 74) C dX10_block_74 5 rfl ?_
          obtain ⟨g10, h⟩ := h
          refine j_iast (pc := 76) C 222 (c_222 hM).1 (c_222 hM).2 g10 dX10_block_76 ?_
          refine gJ.nmI (fun I11 eI11 => ?_)
          have h := h I11 eI11
          refine j_iload (pc := 77) C dX10_block_77 0 rfl ?_
          exact j_iret (pc := 79) C hR (Nat.zero_le _) (Nat.zero_le _) dX10_block_79 ⟨_, rfl, rfl, rfl, h⟩
        · have h := h.2 c8
          refine j_bipush (pc := 45) (v := (-2)) C dX10_block_45 (by decide) ?_
          exact j_iret (pc := 47) C hR (Nat.zero_le _) (Nat.zero_le _) dX10_block_47 ⟨_, rfl, rfl, rfl, h⟩
/-! TileRulesModel.width(I)I -/
abbrev rm_X10_width : Room := { frames := 0, cells := 0, slots := 0, locals := 0 }
theorem ok_X10_width : gOk yX10_width cX10_width 4 (some .int) 1 := ⟨wd_1260, wd_74, by decide +kernel⟩
def w_X10_width_4b  (Po : Int32 → Prop) (K4 : Int32 → Int32 → Prop) (v1 : Int32) (v2 : Int32) (v3 : Int32) (I : gI) : Prop :=
  (v1 ≤ v3 → Po v2) ∧ (¬ v1 ≤ v3 → ∀ n2 : Int32, n2 = (v2 * (I 200 32)) → ∀ n3 : Int32, n3 = v3 + 1 → K4 n2 n3)
def w_X10_width_4  (Po : Int32 → Prop)  (v1 : Int32) (v2 : Int32) (v3 : Int32) (I : gI) : Prop :=
  ∃ (Inv : Int32 → Int32 → Prop) (mu : Int32 → Int32 → Nat), Inv v2 v3 ∧ ∀ (v2 : Int32) (v3 : Int32), Inv v2 v3 → w_X10_width_4b  Po  (fun u2 u3 => Inv u2 u3 ∧ mu u2 u3 < mu v2 v3) v1 v2 v3 I
def wp_X10_width (a1 : Int32) (I : gI) (Po : Int32 → Prop) : Prop :=
  w_X10_width_4 Po a1 (1 : Int32) (0 : Int32) I
set_option maxRecDepth 100000 in
set_option maxHeartbeats 4000000 in
theorem t_X10_width_4b {X : gX} {l : Launch} {D : va_G} {cy : Nat → ClassId} {nm : String} {V : gV} (hM : gModM V) (C : gC X cX10_width RX10 (some .int) 4 rm_X10_width) (hX : gIs X l D cy nm) {I : gI} {J : gL} {Po : Int32 → Prop} (hR : gR X (gPi V (fun x I' J' => I = I' ∧ J = J' ∧ Po x))) {v1 : Int32} {v2 : Int32} {v3 : Int32} {K4 : Int32 → Int32 → Prop} (hK4 : ∀ (y2 : Int32) (y3 : Int32), K4 y2 y3 → gJ X V 0 0 4 [(0, .ref (V.2.1 200)), (1, .int v1), (2, .int y2), (3, .int y3)] [] I J) (h : w_X10_width_4b Po K4 v1 v2 v3 I) : gJ X V 0 0 4 [(0, .ref (V.2.1 200)), (1, .int v1), (2, .int v2), (3, .int v3)] [] I J := by
  unfold w_X10_width_4b at h
  refine j_iload_n (pc := 4) C dX10_width_4 rfl 3 rfl ?_
  refine j_iload_n (pc := 5) C dX10_width_5 rfl 1 rfl ?_
  refine j_icmp_ge (pc := 6) (tgt := 22) C dX10_width_6 (by decide) (fun c1 => ?_) (fun c1 => ?_)
  · have h := h.1 c1
    refine j_iload_n (pc := 22) C dX10_width_22 rfl 2 rfl ?_
    exact j_iret (pc := 23) C hR (Nat.zero_le _) (Nat.zero_le _) dX10_width_23 ⟨_, rfl, rfl, rfl, rfl, h⟩
  · have h := h.2 c1
    refine j_iload_n (pc := 9) C dX10_width_9 rfl 2 rfl ?_
    refine j_aload_n (pc := 10) C dX10_width_10 rfl 0 rfl ?_
    refine j_getI (pc := 11) C 200 32 (c_200 hM).1 (c_200 hM).2 rfl rfl (by decide) inw_X10 wd_998 dX10_width_11 ?_
    refine j_imul (pc := 14) C dX10_width_14 ?_
    refine gJ.topi (fun n2 en2 => ?_)
    have h := h n2 en2
    refine j_istore_n (pc := 15) (lv' := [(2, .int n2), (0, .ref (V.2.1 200)), (1, .int v1), (3, .int v3)]) C dX10_width_15 rfl (by decide) rfl ?_
    obtain ⟨n3, en3⟩ : ∃ z : Int32, z = v3 + 1 := ⟨_, rfl⟩
    have h := h n3 en3
    refine j_iinc (pc := 16) (v := n3) (lv' := [(3, .int n3), (2, .int n2), (0, .ref (V.2.1 200)), (1, .int v1)]) C dX10_width_16 3 rfl (by rw [en3]; rfl) (by decide) rfl ?_
    refine j_goto (pc := 19) (tgt := 4) C dX10_width_19 (by decide) ?_
    refine gJ.sub [2, 3, 1, 0] rfl ?_
    exact hK4 _ _ h
set_option maxRecDepth 100000 in
set_option maxHeartbeats 4000000 in
theorem t_X10_width_4 {X : gX} {l : Launch} {D : va_G} {cy : Nat → ClassId} {nm : String} {V : gV} (hM : gModM V) (C : gC X cX10_width RX10 (some .int) 4 rm_X10_width) (hX : gIs X l D cy nm) {I : gI} {J : gL} {Po : Int32 → Prop} (hR : gR X (gPi V (fun x I' J' => I = I' ∧ J = J' ∧ Po x))) {v1 : Int32} {v2 : Int32} {v3 : Int32} (h : w_X10_width_4 Po v1 v2 v3 I) : gJ X V 0 0 4 [(0, .ref (V.2.1 200)), (1, .int v1), (2, .int v2), (3, .int v3)] [] I J := by
  unfold w_X10_width_4 at h
  obtain ⟨Inv, mu, h0, hs⟩ := h
  have key : ∀ (n : Nat) (v2 : Int32) (v3 : Int32), Inv v2 v3 → mu v2 v3 < n → gJ X V 0 0 4 [(0, .ref (V.2.1 200)), (1, .int v1), (2, .int v2), (3, .int v3)] [] I J := by
    intro n
    induction n with
    | zero => intro v2 v3 hi hn; exact absurd hn (Nat.not_lt_zero _)
    | succ n ih =>
      intro v2 v3 hi hn
      exact t_X10_width_4b hM C hX hR   (fun u2 u3 hk => ih u2 u3 hk.1 (Nat.lt_of_lt_of_le hk.2 (Nat.le_of_lt_succ hn))) (hs v2 v3 hi)
  exact key _ v2 v3 h0 (Nat.lt_succ_self _)
set_option maxRecDepth 100000 in
set_option maxHeartbeats 4000000 in
theorem m_X10_width {l : Launch} {D : va_G} {cy : Nat → ClassId} {V : gV} (hM : gModM V) {a1 : Int32} {I : gI} {J : gL} {Po : Int32 → Prop} (h : wp_X10_width a1 I Po) : gMet l D cy yX10_width cX10_width 4 (some .int) rm_X10_width V [.ref (V.2.1 200), .int a1] I J (gPi V (fun x I' J' => I = I' ∧ J = J' ∧ Po x)) := by
  refine gMet.of (by decide) (Nat.le_of_ble_eq_true rfl) (fun X hX C hR => ?_)
  have C : gC X cX10_width RX10 (some .int) 4 rm_X10_width := C
  show gJ X V 0 0 0 [(0, .ref (V.2.1 200)), (1, .int a1)] [] I J
  unfold wp_X10_width at h
  refine j_iconst (pc := 0) (v := 1) C dX10_width_0 (by decide) ?_
  refine j_istore_n (pc := 1) (lv' := [(2, .int (1 : Int32)), (0, .ref (V.2.1 200)), (1, .int a1)]) C dX10_width_1 rfl (by decide) rfl ?_
  refine j_iconst (pc := 2) (v := 0) C dX10_width_2 (by decide) ?_
  refine j_istore_n (pc := 3) (lv' := [(3, .int (0 : Int32)), (2, .int (1 : Int32)), (0, .ref (V.2.1 200)), (1, .int a1)]) C dX10_width_3 rfl (by decide) rfl ?_
  refine gJ.sub [2, 3, 1, 0] rfl ?_
  exact t_X10_width_4 hM C hX hR   h
/-! TileRulesModel.grown(IIII)I -/
abbrev rm_X10_grown : Room := { frames := 1, cells := 0, slots := 0, locals := 23 }
theorem ok_X10_grown : gOk yX10_grown cX10_grown 7 (some .int) 4 := ⟨wd_1264, wd_74, by decide +kernel⟩
def w_X10_grown_10b  (Po : Int32 → Prop) (K10 : Int32 → Int32 → Prop) (v3 : Int32) (v4 : Int32) (v5 : Int32) (v6 : Int32) (I : gI) : Prop :=
  (v5 ≤ (1 : Int32) → Po v6) ∧ (¬ v5 ≤ (1 : Int32) → ¬ (I 200 32) = 0 ∧ ∀ n4 : Int32, n4 = (v5 / (I 200 32)) → ¬ n4 = 0 ∧ ¬ (I 200 32) = 0 ∧ ¬ n4 = 0 ∧ ¬ (I 200 32) = 0 ∧ wp_X10_at v6 ((v3 / n4) - (v3 / n4) / (I 200 32) * (I 200 32)) ((v4 / n4) - (v4 / n4) / (I 200 32) * (I 200 32)) I (fun r9 => K10 n4 r9))
def w_X10_grown_10  (Po : Int32 → Prop)  (v3 : Int32) (v4 : Int32) (v5 : Int32) (v6 : Int32) (I : gI) : Prop :=
  ∃ (Inv : Int32 → Int32 → Prop) (mu : Int32 → Int32 → Nat), Inv v5 v6 ∧ ∀ (v5 : Int32) (v6 : Int32), Inv v5 v6 → w_X10_grown_10b  Po  (fun u5 u6 => Inv u5 u6 ∧ mu u5 u6 < mu v5 v6) v3 v4 v5 v6 I
def wp_X10_grown (a1 : Int32) (a2 : Int32) (a3 : Int32) (a4 : Int32) (I : gI) (Po : Int32 → Prop) : Prop :=
  wp_X10_width a2 I (fun r1 => w_X10_grown_10 Po a3 a4 r1 a1 I)
set_option maxRecDepth 100000 in
set_option maxHeartbeats 4000000 in
theorem t_X10_grown_10b {X : gX} {l : Launch} {D : va_G} {cy : Nat → ClassId} {nm : String} {V : gV} (hM : gModM V) (C : gC X cX10_grown RX10 (some .int) 7 rm_X10_grown) (hX : gIs X l D cy nm) {I : gI} {J : gL} {Po : Int32 → Prop} (hR : gR X (gPi V (fun x I' J' => I = I' ∧ J = J' ∧ Po x))) {v3 : Int32} {v4 : Int32} {v5 : Int32} {v6 : Int32} {K10 : Int32 → Int32 → Prop} (hK10 : ∀ (y5 : Int32) (y6 : Int32), K10 y5 y6 → gJ X V 0 0 10 [(0, .ref (V.2.1 200)), (3, .int v3), (4, .int v4), (5, .int y5), (6, .int y6)] [] I J) (h : w_X10_grown_10b Po K10 v3 v4 v5 v6 I) : gJ X V 0 0 10 [(0, .ref (V.2.1 200)), (3, .int v3), (4, .int v4), (5, .int v5), (6, .int v6)] [] I J := by
  unfold w_X10_grown_10b at h
  refine j_iload (pc := 10) C dX10_grown_10 3 rfl ?_
  refine j_iconst (pc := 12) (v := 1) C dX10_grown_12 (by decide) ?_
  refine j_icmp_le (pc := 13) (tgt := 55) C dX10_grown_13 (by decide) (fun c2 => ?_) (fun c2 => ?_)
  · have h := h.1 c2
    refine j_iload (pc := 55) C dX10_grown_55 4 rfl ?_
    exact j_iret (pc := 57) C hR (Nat.zero_le _) (Nat.zero_le _) dX10_grown_57 ⟨_, rfl, rfl, rfl, rfl, h⟩
  · have h := h.2 c2
    refine j_iload (pc := 16) C dX10_grown_16 3 rfl ?_
    refine j_aload_n (pc := 18) C dX10_grown_18 rfl 0 rfl ?_
    refine j_getI (pc := 19) C 200 32 (c_200 hM).1 (c_200 hM).2 rfl rfl (by decide) inw_X10 wd_998 dX10_grown_19 ?_
    obtain ⟨g3, h⟩ := h
    refine j_idiv (pc := 22) C dX10_grown_22 g3 ?_
    refine gJ.topi (fun n4 en4 => ?_)
    have h := h n4 en4
    refine j_istore (pc := 23) (lv' := [(5, .int n4), (0, .ref (V.2.1 200)), (3, .int v3), (4, .int v4), (6, .int v6)]) C dX10_grown_23 (by decide) rfl ?_
    refine j_aload_n (pc := 25) C dX10_grown_25 rfl 1 rfl ?_
    refine j_iload (pc := 26) C dX10_grown_26 4 rfl ?_
    refine j_iload_n (pc := 28) C dX10_grown_28 rfl 2 rfl ?_
    refine j_iload (pc := 29) C dX10_grown_29 0 rfl ?_
    obtain ⟨g5, h⟩ := h
    refine j_idiv (pc := 31) C dX10_grown_31 g5 ?_
    refine j_aload_n (pc := 32) C dX10_grown_32 rfl 1 rfl ?_
    refine j_getI (pc := 33) C 200 32 (c_200 hM).1 (c_200 hM).2 rfl rfl (by decide) inw_X10 wd_998 dX10_grown_33 ?_
    obtain ⟨g6, h⟩ := h
    refine j_irem (pc := 36) C dX10_grown_36 g6 ?_
    refine j_iload (pc := 37) C dX10_grown_37 3 rfl ?_
    refine j_iload (pc := 39) C dX10_grown_39 0 rfl ?_
    obtain ⟨g7, h⟩ := h
    refine j_idiv (pc := 41) C dX10_grown_41 g7 ?_
    refine j_aload_n (pc := 42) C dX10_grown_42 rfl 1 rfl ?_
    refine j_getI (pc := 43) C 200 32 (c_200 hM).1 (c_200 hM).2 rfl rfl (by decide) inw_X10 wd_998 dX10_grown_43 ?_
    obtain ⟨g8, h⟩ := h
    refine j_irem (pc := 46) C dX10_grown_46 g8 ?_
    refine j_callV (pc := 47) (As := [.int v6, .int ((v3 / n4) - (v3 / n4) / (I 200 32) * (I 200 32)), .int ((v4 / n4) - (v4 / n4) / (I 200 32) * (I 200 32))]) (st := []) C hX 200 (m_X10_at hM  h) (c_200 hM).1 (c_200 hM).2 rfl ok_X10_at wd_1249 wd_1251 wd_60 ⟨by decide, by decide⟩ rfl rfl (Nat.le_of_ble_eq_true rfl) ⟨Nat.le_refl 0, Nat.le_refl 0⟩ dX10_grown_47 (fun r V1 I1 J1 hp => ?_)
    obtain ⟨r9, rfl, rfl, rfl, rfl, h⟩ := hp
    show gJ X V 0 0 50 _ [.int r9] _ _
    refine j_istore (pc := 50) (lv' := [(6, .int r9), (5, .int n4), (0, .ref (V.2.1 200)), (3, .int v3), (4, .int v4)]) C dX10_grown_50 (by decide) rfl ?_
    refine j_goto (pc := 52) (tgt := 10) C dX10_grown_52 (by decide) ?_
    refine gJ.sub [2, 3, 4, 1, 0] rfl ?_
    exact hK10 _ _ h
set_option maxRecDepth 100000 in
set_option maxHeartbeats 4000000 in
theorem t_X10_grown_10 {X : gX} {l : Launch} {D : va_G} {cy : Nat → ClassId} {nm : String} {V : gV} (hM : gModM V) (C : gC X cX10_grown RX10 (some .int) 7 rm_X10_grown) (hX : gIs X l D cy nm) {I : gI} {J : gL} {Po : Int32 → Prop} (hR : gR X (gPi V (fun x I' J' => I = I' ∧ J = J' ∧ Po x))) {v3 : Int32} {v4 : Int32} {v5 : Int32} {v6 : Int32} (h : w_X10_grown_10 Po v3 v4 v5 v6 I) : gJ X V 0 0 10 [(0, .ref (V.2.1 200)), (3, .int v3), (4, .int v4), (5, .int v5), (6, .int v6)] [] I J := by
  unfold w_X10_grown_10 at h
  obtain ⟨Inv, mu, h0, hs⟩ := h
  have key : ∀ (n : Nat) (v5 : Int32) (v6 : Int32), Inv v5 v6 → mu v5 v6 < n → gJ X V 0 0 10 [(0, .ref (V.2.1 200)), (3, .int v3), (4, .int v4), (5, .int v5), (6, .int v6)] [] I J := by
    intro n
    induction n with
    | zero => intro v5 v6 hi hn; exact absurd hn (Nat.not_lt_zero _)
    | succ n ih =>
      intro v5 v6 hi hn
      exact t_X10_grown_10b hM C hX hR   (fun u5 u6 hk => ih u5 u6 hk.1 (Nat.lt_of_lt_of_le hk.2 (Nat.le_of_lt_succ hn))) (hs v5 v6 hi)
  exact key _ v5 v6 h0 (Nat.lt_succ_self _)
set_option maxRecDepth 100000 in
set_option maxHeartbeats 4000000 in
theorem m_X10_grown {l : Launch} {D : va_G} {cy : Nat → ClassId} {V : gV} (hM : gModM V) {a1 : Int32} {a2 : Int32} {a3 : Int32} {a4 : Int32} {I : gI} {J : gL} {Po : Int32 → Prop} (h : wp_X10_grown a1 a2 a3 a4 I Po) : gMet l D cy yX10_grown cX10_grown 7 (some .int) rm_X10_grown V [.ref (V.2.1 200), .int a1, .int a2, .int a3, .int a4] I J (gPi V (fun x I' J' => I = I' ∧ J = J' ∧ Po x)) := by
  refine gMet.of (by decide) (Nat.le_of_ble_eq_true rfl) (fun X hX C hR => ?_)
  have C : gC X cX10_grown RX10 (some .int) 7 rm_X10_grown := C
  show gJ X V 0 0 0 [(0, .ref (V.2.1 200)), (1, .int a1), (2, .int a2), (3, .int a3), (4, .int a4)] [] I J
  unfold wp_X10_grown at h
  refine j_aload_n (pc := 0) C dX10_grown_0 rfl 0 rfl ?_
  refine j_iload_n (pc := 1) C dX10_grown_1 rfl 2 rfl ?_
  refine j_callV (pc := 2) (As := [.int a2]) (st := []) C hX 200 (m_X10_width hM  h) (c_200 hM).1 (c_200 hM).2 rfl ok_X10_width wd_1257 wd_1259 wd_61 ⟨by decide, by decide⟩ rfl rfl (Nat.le_of_ble_eq_true rfl) ⟨Nat.le_refl 0, Nat.le_refl 0⟩ dX10_grown_2 (fun r V1 I1 J1 hp => ?_)
  obtain ⟨r1, rfl, rfl, rfl, rfl, h⟩ := hp
  show gJ X V 0 0 5 _ [.int r1] _ _
  refine j_istore (pc := 5) (lv' := [(5, .int r1), (0, .ref (V.2.1 200)), (1, .int a1), (2, .int a2), (3, .int a3), (4, .int a4)]) C dX10_grown_5 (by decide) rfl ?_
  refine j_iload_n (pc := 7) C dX10_grown_7 rfl 2 rfl ?_
  refine j_istore (pc := 8) (lv' := [(6, .int a1), (5, .int r1), (0, .ref (V.2.1 200)), (1, .int a1), (2, .int a2), (3, .int a3), (4, .int a4)]) C dX10_grown_8 (by decide) rfl ?_
  refine gJ.sub [2, 5, 6, 1, 0] rfl ?_
  exact t_X10_grown_10 hM C hX hR   h
/-! TileRulesModel.letter(IIII)I -/
abbrev rm_X10_letter : Room := { frames := 2, cells := 0, slots := 0, locals := 49 }
theorem ok_X10_letter : gOk yX10_letter cX10_letter 5 (some .int) 4 := ⟨wd_1256, wd_74, by decide +kernel⟩
def wp_X10_letter (a1 : Int32) (a2 : Int32) (a3 : Int32) (a4 : Int32) (I : gI) (Po : Int32 → Prop) : Prop :=
  wp_X10_isLetter a1 I (fun r1 => (r1 = 0 → Po (-2 : Int32)) ∧ (¬ r1 = 0 → wp_X10_isIn a2 (0 : Int32) (12 : Int32) (fun r3 => (r3 = 0 → Po (-2 : Int32)) ∧ (¬ r3 = 0 → wp_X10_width a2 I (fun r5 => wp_X10_isIn a3 (0 : Int32) (r5 - (1 : Int32)) (fun r6 => (r6 = 0 → Po (-2 : Int32)) ∧ (¬ r6 = 0 → wp_X10_width a2 I (fun r8 => wp_X10_isIn a4 (0 : Int32) (r8 - (1 : Int32)) (fun r9 => (¬ r9 = 0 → wp_X10_grown a1 a2 a3 a4 I (fun r11 => Po r11)) ∧ (r9 = 0 → Po (-2 : Int32)))))))))))
set_option maxRecDepth 100000 in
set_option maxHeartbeats 4000000 in
theorem m_X10_letter {l : Launch} {D : va_G} {cy : Nat → ClassId} {V : gV} (hM : gModM V) {a1 : Int32} {a2 : Int32} {a3 : Int32} {a4 : Int32} {I : gI} {J : gL} {Po : Int32 → Prop} (h : wp_X10_letter a1 a2 a3 a4 I Po) : gMet l D cy yX10_letter cX10_letter 5 (some .int) rm_X10_letter V [.ref (V.2.1 200), .int a1, .int a2, .int a3, .int a4] I J (gPi V (fun x I' J' => I = I' ∧ J = J' ∧ Po x)) := by
  refine gMet.of (by decide) (Nat.le_of_ble_eq_true rfl) (fun X hX C hR => ?_)
  have C : gC X cX10_letter RX10 (some .int) 5 rm_X10_letter := C
  show gJ X V 0 0 0 [(0, .ref (V.2.1 200)), (1, .int a1), (2, .int a2), (3, .int a3), (4, .int a4)] [] I J
  unfold wp_X10_letter at h
  refine j_aload_n (pc := 0) C dX10_letter_0 rfl 0 rfl ?_
  refine j_iload_n (pc := 1) C dX10_letter_1 rfl 1 rfl ?_
  refine j_callV (pc := 2) (As := [.int a1]) (st := []) C hX 200 (m_X10_isLetter hM  h) (c_200 hM).1 (c_200 hM).2 rfl ok_X10_isLetter wd_1245 wd_1247 wd_59 ⟨by decide, by decide⟩ rfl rfl (Nat.le_of_ble_eq_true rfl) ⟨Nat.le_refl 0, Nat.le_refl 0⟩ dX10_letter_2 (fun r V1 I1 J1 hp => ?_)
  obtain ⟨r1, rfl, rfl, rfl, rfl, h⟩ := hp
  show gJ X V 0 0 5 _ [.int r1] _ _
  refine j_if_eq (pc := 5) (tgt := 49) C dX10_letter_5 (by decide) (fun c2 => ?_) (fun c2 => ?_)
  · have h := h.1 c2
    refine j_bipush (pc := 49) (v := (-2)) C dX10_letter_49 (by decide) ?_
    exact j_iret (pc := 51) C hR (Nat.zero_le _) (Nat.zero_le _) dX10_letter_51 ⟨_, rfl, rfl, rfl, rfl, h⟩
  · have h := h.2 c2
    refine j_iload_n (pc := 8) C dX10_letter_8 rfl 2 rfl ?_
    refine j_iconst (pc := 9) (v := 0) C dX10_letter_9 (by decide) ?_
    refine j_bipush (pc := 10) (v := 12) C dX10_letter_10 (by decide) ?_
    refine j_callS (pc := 12) (As := [.int a2, .int (0 : Int32), .int (12 : Int32)]) (st := []) C hX (m_X10_isIn   h) ok_X10_isIn wd_1108 wd_1109 ⟨by decide, by decide⟩ rfl rfl (Nat.le_of_ble_eq_true rfl) ⟨Nat.le_refl 0, Nat.le_refl 0⟩ dX10_letter_12 (fun r V1 I1 J1 hp => ?_)
    obtain ⟨r3, rfl, rfl, rfl, rfl, h⟩ := hp
    show gJ X V 0 0 15 _ [.int r3] _ _
    refine j_if_eq (pc := 15) (tgt := 49) C dX10_letter_15 (by decide) (fun c4 => ?_) (fun c4 => ?_)
    · have h := h.1 c4
      refine j_bipush (pc := 49) (v := (-2)) C dX10_letter_49 (by decide) ?_
      exact j_iret (pc := 51) C hR (Nat.zero_le _) (Nat.zero_le _) dX10_letter_51 ⟨_, rfl, rfl, rfl, rfl, h⟩
    · have h := h.2 c4
      refine j_iload_n (pc := 18) C dX10_letter_18 rfl 3 rfl ?_
      refine j_iconst (pc := 19) (v := 0) C dX10_letter_19 (by decide) ?_
      refine j_aload_n (pc := 20) C dX10_letter_20 rfl 0 rfl ?_
      refine j_iload_n (pc := 21) C dX10_letter_21 rfl 2 rfl ?_
      refine j_callV (pc := 22) (As := [.int a2]) (st := [.int (0 : Int32), .int a3]) C hX 200 (m_X10_width hM  h) (c_200 hM).1 (c_200 hM).2 rfl ok_X10_width wd_1257 wd_1259 wd_61 ⟨by decide, by decide⟩ rfl rfl (Nat.le_of_ble_eq_true rfl) ⟨Nat.le_refl 0, Nat.le_refl 0⟩ dX10_letter_22 (fun r V1 I1 J1 hp => ?_)
      obtain ⟨r5, rfl, rfl, rfl, rfl, h⟩ := hp
      show gJ X V 0 0 25 _ [.int r5, .int (0 : Int32), .int a3] _ _
      refine j_iconst (pc := 25) (v := 1) C dX10_letter_25 (by decide) ?_
      refine j_isub (pc := 26) C dX10_letter_26 ?_
      refine j_callS (pc := 27) (As := [.int a3, .int (0 : Int32), .int (r5 - (1 : Int32))]) (st := []) C hX (m_X10_isIn   h) ok_X10_isIn wd_1108 wd_1109 ⟨by decide, by decide⟩ rfl rfl (Nat.le_of_ble_eq_true rfl) ⟨Nat.le_refl 0, Nat.le_refl 0⟩ dX10_letter_27 (fun r V1 I1 J1 hp => ?_)
      obtain ⟨r6, rfl, rfl, rfl, rfl, h⟩ := hp
      show gJ X V 0 0 30 _ [.int r6] _ _
      refine j_if_eq (pc := 30) (tgt := 49) C dX10_letter_30 (by decide) (fun c7 => ?_) (fun c7 => ?_)
      · have h := h.1 c7
        refine j_bipush (pc := 49) (v := (-2)) C dX10_letter_49 (by decide) ?_
        exact j_iret (pc := 51) C hR (Nat.zero_le _) (Nat.zero_le _) dX10_letter_51 ⟨_, rfl, rfl, rfl, rfl, h⟩
      · have h := h.2 c7
        refine j_iload (pc := 33) C dX10_letter_33 4 rfl ?_
        refine j_iconst (pc := 35) (v := 0) C dX10_letter_35 (by decide) ?_
        refine j_aload_n (pc := 36) C dX10_letter_36 rfl 0 rfl ?_
        refine j_iload_n (pc := 37) C dX10_letter_37 rfl 2 rfl ?_
        refine j_callV (pc := 38) (As := [.int a2]) (st := [.int (0 : Int32), .int a4]) C hX 200 (m_X10_width hM  h) (c_200 hM).1 (c_200 hM).2 rfl ok_X10_width wd_1257 wd_1259 wd_61 ⟨by decide, by decide⟩ rfl rfl (Nat.le_of_ble_eq_true rfl) ⟨Nat.le_refl 0, Nat.le_refl 0⟩ dX10_letter_38 (fun r V1 I1 J1 hp => ?_)
        obtain ⟨r8, rfl, rfl, rfl, rfl, h⟩ := hp
        show gJ X V 0 0 41 _ [.int r8, .int (0 : Int32), .int a4] _ _
        refine j_iconst (pc := 41) (v := 1) C dX10_letter_41 (by decide) ?_
        refine j_isub (pc := 42) C dX10_letter_42 ?_
        refine j_callS (pc := 43) (As := [.int a4, .int (0 : Int32), .int (r8 - (1 : Int32))]) (st := []) C hX (m_X10_isIn   h) ok_X10_isIn wd_1108 wd_1109 ⟨by decide, by decide⟩ rfl rfl (Nat.le_of_ble_eq_true rfl) ⟨Nat.le_refl 0, Nat.le_refl 0⟩ dX10_letter_43 (fun r V1 I1 J1 hp => ?_)
        obtain ⟨r9, rfl, rfl, rfl, rfl, h⟩ := hp
        show gJ X V 0 0 46 _ [.int r9] _ _
        refine j_if_ne (pc := 46) (tgt := 52) C dX10_letter_46 (by decide) (fun c10 => ?_) (fun c10 => ?_)
        · have h := h.1 c10
          refine j_aload_n (pc := 52) C dX10_letter_52 rfl 0 rfl ?_
          refine j_iload_n (pc := 53) C dX10_letter_53 rfl 1 rfl ?_
          refine j_iload_n (pc := 54) C dX10_letter_54 rfl 2 rfl ?_
          refine j_iload_n (pc := 55) C dX10_letter_55 rfl 3 rfl ?_
          refine j_iload (pc := 56) C dX10_letter_56 4 rfl ?_
          refine j_callV (pc := 58) (As := [.int a1, .int a2, .int a3, .int a4]) (st := []) C hX 200 (m_X10_grown hM  h) (c_200 hM).1 (c_200 hM).2 rfl ok_X10_grown wd_1261 wd_1263 wd_62 ⟨by decide, by decide⟩ rfl rfl (Nat.le_of_ble_eq_true rfl) ⟨Nat.le_refl 0, Nat.le_refl 0⟩ dX10_letter_58 (fun r V1 I1 J1 hp => ?_)
          obtain ⟨r11, rfl, rfl, rfl, rfl, h⟩ := hp
          show gJ X V 0 0 61 _ [.int r11] _ _
          exact j_iret (pc := 61) C hR (Nat.zero_le _) (Nat.zero_le _) dX10_letter_61 ⟨_, rfl, rfl, rfl, rfl, h⟩
        · have h := h.2 c10
          refine j_bipush (pc := 49) (v := (-2)) C dX10_letter_49 (by decide) ?_
          exact j_iret (pc := 51) C hR (Nat.zero_le _) (Nat.zero_le _) dX10_letter_51 ⟨_, rfl, rfl, rfl, rfl, h⟩
/-! TileRulesModel.many(III)J -/
abbrev rm_X10_many : Room := { frames := 2, cells := 0, slots := 0, locals := 43 }
theorem ok_X10_many : gOk yX10_many cX10_many 7 (some .long) 3 := ⟨wd_1268, wd_74, by decide +kernel⟩
def w_X10_many_169b  (Po : Int64 → gL → Prop) (K67 : Int32 → gL → Prop) (K169 : Int32 → gL → Prop) (v2 : Int32) (v3 : Int32) (v4 : Int32) (v5 : Int32) (I : gI) (J : gL) : Prop :=
  ((6 : Int32) ≤ v5 → ∀ n13 : Int32, n13 = v4 + 1 → K67 n13 J) ∧ (¬ (6 : Int32) ≤ v5 → vp_in v5 6 ∧ vp_in v5 6 ∧ ∀ J16 : gL, J16 = gup J 223 (v5).toNatClampNeg (J 224 (v5).toNatClampNeg) → ∀ n17 : Int32, n17 = v5 + 1 → K169 n17 J16)
def w_X10_many_169  (Po : Int64 → gL → Prop) (K67 : Int32 → gL → Prop) (v2 : Int32) (v3 : Int32) (v4 : Int32) (v5 : Int32) (I : gI) (J : gL) : Prop :=
  ∃ (Inv : Int32 → gL → Prop) (mu : Int32 → gL → Nat), Inv v5 J ∧ ∀ (v5 : Int32) (J : gL), Inv v5 J → w_X10_many_169b  Po K67 (fun u5 J1 => Inv u5 J1 ∧ mu u5 J1 < mu v5 J) v2 v3 v4 v5 I J
def w_X10_many_112b  (Po : Int64 → gL → Prop) (K67 : Int32 → gL → Prop) (K100 : Int32 → gL → Prop) (K112 : Int32 → gL → Prop) (v2 : Int32) (v3 : Int32) (v4 : Int32) (v5 : Int32) (v6 : Int32) (I : gI) (J : gL) : Prop :=
  (((I 200 32) * (I 200 32)) ≤ v6 → ∀ n19 : Int32, n19 = v5 + 1 → K100 n19 J) ∧ (¬ ((I 200 32) * (I 200 32)) ≤ v6 → vp_in (((9 : Int32) * v5) + v6) 54 ∧ vp_in (I 222 ((((9 : Int32) * v5) + v6)).toNatClampNeg) 6 ∧ vp_in v5 6 ∧ vp_in (I 222 ((((9 : Int32) * v5) + v6)).toNatClampNeg) 6 ∧ ∀ J24 : gL, J24 = gup J 224 ((I 222 ((((9 : Int32) * v5) + v6)).toNatClampNeg)).toNatClampNeg ((J 224 ((I 222 ((((9 : Int32) * v5) + v6)).toNatClampNeg)).toNatClampNeg) + (J 223 (v5).toNatClampNeg)) → ∀ n25 : Int32, n25 = v6 + 1 → K112 n25 J24)
def w_X10_many_112  (Po : Int64 → gL → Prop) (K67 : Int32 → gL → Prop) (K100 : Int32 → gL → Prop) (v2 : Int32) (v3 : Int32) (v4 : Int32) (v5 : Int32) (v6 : Int32) (I : gI) (J : gL) : Prop :=
  ∃ (Inv : Int32 → gL → Prop) (mu : Int32 → gL → Nat), Inv v6 J ∧ ∀ (v6 : Int32) (J : gL), Inv v6 J → w_X10_many_112b  Po K67 K100 (fun u6 J1 => Inv u6 J1 ∧ mu u6 J1 < mu v6 J) v2 v3 v4 v5 v6 I J
def w_X10_many_100b  (Po : Int64 → gL → Prop) (K67 : Int32 → gL → Prop) (K100 : Int32 → gL → Prop) (v2 : Int32) (v3 : Int32) (v4 : Int32) (v5 : Int32) (I : gI) (J : gL) : Prop :=
  ((I 200 31) ≤ v5 → w_X10_many_169 Po K67 v2 v3 v4 (0 : Int32) I J) ∧ (¬ (I 200 31) ≤ v5 → w_X10_many_112 Po K67 K100 v2 v3 v4 v5 (0 : Int32) I J)
def w_X10_many_100  (Po : Int64 → gL → Prop) (K67 : Int32 → gL → Prop) (v2 : Int32) (v3 : Int32) (v4 : Int32) (v5 : Int32) (I : gI) (J : gL) : Prop :=
  ∃ (Inv : Int32 → gL → Prop) (mu : Int32 → gL → Nat), Inv v5 J ∧ ∀ (v5 : Int32) (J : gL), Inv v5 J → w_X10_many_100b  Po K67 (fun u5 J1 => Inv u5 J1 ∧ mu u5 J1 < mu v5 J) v2 v3 v4 v5 I J
def w_X10_many_76b  (Po : Int64 → gL → Prop) (K67 : Int32 → gL → Prop) (K76 : Int32 → gL → Prop) (v2 : Int32) (v3 : Int32) (v4 : Int32) (v5 : Int32) (I : gI) (J : gL) : Prop :=
  ((6 : Int32) ≤ v5 → w_X10_many_100 Po K67 v2 v3 v4 (0 : Int32) I J) ∧ (¬ (6 : Int32) ≤ v5 → vp_in v5 6 ∧ ∀ J27 : gL, J27 = gup J 224 (v5).toNatClampNeg (0 : Int64) → ∀ n28 : Int32, n28 = v5 + 1 → K76 n28 J27)
def w_X10_many_76  (Po : Int64 → gL → Prop) (K67 : Int32 → gL → Prop) (v2 : Int32) (v3 : Int32) (v4 : Int32) (v5 : Int32) (I : gI) (J : gL) : Prop :=
  ∃ (Inv : Int32 → gL → Prop) (mu : Int32 → gL → Nat), Inv v5 J ∧ ∀ (v5 : Int32) (J : gL), Inv v5 J → w_X10_many_76b  Po K67 (fun u5 J1 => Inv u5 J1 ∧ mu u5 J1 < mu v5 J) v2 v3 v4 v5 I J
def w_X10_many_67b  (Po : Int64 → gL → Prop) (K67 : Int32 → gL → Prop) (v2 : Int32) (v3 : Int32) (v4 : Int32) (I : gI) (J : gL) : Prop :=
  (v2 ≤ v4 → vp_in v3 6 ∧ Po (J 223 (v3).toNatClampNeg) J) ∧ (¬ v2 ≤ v4 → w_X10_many_76 Po K67 v2 v3 v4 (0 : Int32) I J)
def w_X10_many_67  (Po : Int64 → gL → Prop)  (v2 : Int32) (v3 : Int32) (v4 : Int32) (I : gI) (J : gL) : Prop :=
  ∃ (Inv : Int32 → gL → Prop) (mu : Int32 → gL → Nat), Inv v4 J ∧ ∀ (v4 : Int32) (J : gL), Inv v4 J → w_X10_many_67b  Po  (fun u4 J1 => Inv u4 J1 ∧ mu u4 J1 < mu v4 J) v2 v3 v4 I J
def w_X10_many_57  (Po : Int64 → gL → Prop) (K33 : Int32 → gL → Prop) (v1 : Int32) (v2 : Int32) (v3 : Int32) (v4 : Int32) (s0 : Int64) (s1 : Int32) (I : gI) (J : gL) : Prop :=
  vp_in s1 6 ∧ ∀ J31 : gL, J31 = gup J 223 (s1).toNatClampNeg s0 → ∀ n32 : Int32, n32 = v4 + 1 → K33 n32 J31
def w_X10_many_33b  (Po : Int64 → gL → Prop) (K33 : Int32 → gL → Prop) (v1 : Int32) (v2 : Int32) (v3 : Int32) (v4 : Int32) (I : gI) (J : gL) : Prop :=
  ((6 : Int32) ≤ v4 → w_X10_many_67 Po v2 v3 (0 : Int32) I J) ∧ (¬ (6 : Int32) ≤ v4 → (¬ v4 = v1 → w_X10_many_57 Po K33 v1 v2 v3 v4 (0 : Int64) v4 I J) ∧ (v4 = v1 → w_X10_many_57 Po K33 v1 v2 v3 v4 (1 : Int64) v4 I J))
def w_X10_many_33  (Po : Int64 → gL → Prop)  (v1 : Int32) (v2 : Int32) (v3 : Int32) (v4 : Int32) (I : gI) (J : gL) : Prop :=
  ∃ (Inv : Int32 → gL → Prop) (mu : Int32 → gL → Nat), Inv v4 J ∧ ∀ (v4 : Int32) (J : gL), Inv v4 J → w_X10_many_33b  Po  (fun u4 J1 => Inv u4 J1 ∧ mu u4 J1 < mu v4 J) v1 v2 v3 v4 I J
def wp_X10_many (a1 : Int32) (a2 : Int32) (a3 : Int32) (I : gI) (J : gL) (Po : Int64 → gL → Prop) : Prop :=
  wp_X10_isLetter a1 I (fun r1 => (r1 = 0 → Po (-2 : Int64) J) ∧ (¬ r1 = 0 → wp_X10_isLetter a3 I (fun r3 => (r3 = 0 → Po (-2 : Int64) J) ∧ (¬ r3 = 0 → wp_X10_isIn a2 (0 : Int32) (18 : Int32) (fun r5 => (¬ r5 = 0 → w_X10_many_33 Po a1 a2 a3 (0 : Int32) I J) ∧ (r5 = 0 → Po (-2 : Int64) J))))))
set_option maxRecDepth 100000 in
set_option maxHeartbeats 4000000 in
theorem t_X10_many_169b {X : gX} {l : Launch} {D : va_G} {cy : Nat → ClassId} {nm : String} {V : gV} (hM : gModM V) (C : gC X cX10_many RX10 (some .long) 7 rm_X10_many) (hX : gIs X l D cy nm) {I : gI} {J : gL} {Po : Int64 → gL → Prop} (hR : gR X (gPl V (fun x I' J' => I = I' ∧ Po x J'))) {v2 : Int32} {v3 : Int32} {v4 : Int32} {v5 : Int32} {K67 : Int32 → gL → Prop} {K169 : Int32 → gL → Prop} (hK67 : ∀ (y4 : Int32) (J1 : gL), K67 y4 J1 → gJ X V 0 0 67 [(0, .ref (V.2.1 200)), (2, .int v2), (3, .int v3), (4, .int y4)] [] I J1) (hK169 : ∀ (y5 : Int32) (J1 : gL), K169 y5 J1 → gJ X V 0 0 169 [(0, .ref (V.2.1 200)), (2, .int v2), (3, .int v3), (4, .int v4), (5, .int y5)] [] I J1) (h : w_X10_many_169b Po K67 K169 v2 v3 v4 v5 I J) : gJ X V 0 0 169 [(0, .ref (V.2.1 200)), (2, .int v2), (3, .int v3), (4, .int v4), (5, .int v5)] [] I J := by
  unfold w_X10_many_169b at h
  refine j_iload (pc := 169) C dX10_many_169 4 rfl ?_
  refine j_bipush (pc := 171) (v := 6) C dX10_many_171 (by decide) ?_
  refine j_icmp_ge (pc := 173) (tgt := 196) C dX10_many_173 (by decide) (fun c12 => ?_) (fun c12 => ?_)
  · have h := h.1 c12
    obtain ⟨n13, en13⟩ : ∃ z : Int32, z = v4 + 1 := ⟨_, rfl⟩
    have h := h n13 en13
    refine j_iinc (pc := 196) (v := n13) (lv' := [(4, .int n13), (0, .ref (V.2.1 200)), (2, .int v2), (3, .int v3), (5, .int v5)]) C dX10_many_196 3 rfl (by rw [en13]; rfl) (by decide) rfl ?_
    refine j_goto (pc := 199) (tgt := 67) C dX10_many_199 (by decide) ?_
    refine gJ.sub [1, 2, 3, 0] rfl ?_
    exact hK67 _ _ h
  · have h := h.2 c12
    refine j_aload_n (pc := 176) C dX10_many_176 rfl 0 rfl ?_
    refine j_getR (pc := 177) C 200 34 223 (c_200 hM).1 (c_200 hM).2 rfl rfl (by decide) inw_X10 wd_1000 dX10_many_177 ?_
    refine j_iload (pc := 180) C dX10_many_180 4 rfl ?_
    refine j_aload_n (pc := 182) C dX10_many_182 rfl 0 rfl ?_
    refine j_getR (pc := 183) C 200 35 224 (c_200 hM).1 (c_200 hM).2 rfl rfl (by decide) inw_X10 wd_1001 dX10_many_183 ?_
    refine j_iload (pc := 186) C dX10_many_186 4 rfl ?_
    obtain ⟨g14, h⟩ := h
    refine j_lald (pc := 188) C 224 (c_224 hM).1 (c_224 hM).2 g14 dX10_many_188 ?_
    obtain ⟨g15, h⟩ := h
    refine j_last (pc := 189) C 223 (c_223 hM).1 (c_223 hM).2 g15 dX10_many_189 ?_
    refine gJ.nmJ (fun J16 eJ16 => ?_)
    have h := h J16 eJ16
    obtain ⟨n17, en17⟩ : ∃ z : Int32, z = v5 + 1 := ⟨_, rfl⟩
    have h := h n17 en17
    refine j_iinc (pc := 190) (v := n17) (lv' := [(5, .int n17), (0, .ref (V.2.1 200)), (2, .int v2), (3, .int v3), (4, .int v4)]) C dX10_many_190 4 rfl (by rw [en17]; rfl) (by decide) rfl ?_
    refine j_goto (pc := 193) (tgt := 169) C dX10_many_193 (by decide) ?_
    refine gJ.sub [1, 2, 3, 4, 0] rfl ?_
    exact hK169 _ _ h
set_option maxRecDepth 100000 in
set_option maxHeartbeats 4000000 in
theorem t_X10_many_169 {X : gX} {l : Launch} {D : va_G} {cy : Nat → ClassId} {nm : String} {V : gV} (hM : gModM V) (C : gC X cX10_many RX10 (some .long) 7 rm_X10_many) (hX : gIs X l D cy nm) {I : gI} {J : gL} {Po : Int64 → gL → Prop} (hR : gR X (gPl V (fun x I' J' => I = I' ∧ Po x J'))) {v2 : Int32} {v3 : Int32} {v4 : Int32} {v5 : Int32} {K67 : Int32 → gL → Prop} (hK67 : ∀ (y4 : Int32) (J1 : gL), K67 y4 J1 → gJ X V 0 0 67 [(0, .ref (V.2.1 200)), (2, .int v2), (3, .int v3), (4, .int y4)] [] I J1) (h : w_X10_many_169 Po K67 v2 v3 v4 v5 I J) : gJ X V 0 0 169 [(0, .ref (V.2.1 200)), (2, .int v2), (3, .int v3), (4, .int v4), (5, .int v5)] [] I J := by
  unfold w_X10_many_169 at h
  obtain ⟨Inv, mu, h0, hs⟩ := h
  have key : ∀ (n : Nat) (v5 : Int32) (J : gL), Inv v5 J → mu v5 J < n → gJ X V 0 0 169 [(0, .ref (V.2.1 200)), (2, .int v2), (3, .int v3), (4, .int v4), (5, .int v5)] [] I J := by
    intro n
    induction n with
    | zero => intro v5 J hi hn; exact absurd hn (Nat.not_lt_zero _)
    | succ n ih =>
      intro v5 J hi hn
      exact t_X10_many_169b hM C hX hR  hK67 (fun u5 J1 hk => ih u5 J1 hk.1 (Nat.lt_of_lt_of_le hk.2 (Nat.le_of_lt_succ hn))) (hs v5 J hi)
  exact key _ v5 J h0 (Nat.lt_succ_self _)
set_option maxRecDepth 100000 in
set_option maxHeartbeats 4000000 in
theorem t_X10_many_112b {X : gX} {l : Launch} {D : va_G} {cy : Nat → ClassId} {nm : String} {V : gV} (hM : gModM V) (C : gC X cX10_many RX10 (some .long) 7 rm_X10_many) (hX : gIs X l D cy nm) {I : gI} {J : gL} {Po : Int64 → gL → Prop} (hR : gR X (gPl V (fun x I' J' => I = I' ∧ Po x J'))) {v2 : Int32} {v3 : Int32} {v4 : Int32} {v5 : Int32} {v6 : Int32} {K67 : Int32 → gL → Prop} {K100 : Int32 → gL → Prop} {K112 : Int32 → gL → Prop} (hK67 : ∀ (y4 : Int32) (J1 : gL), K67 y4 J1 → gJ X V 0 0 67 [(0, .ref (V.2.1 200)), (2, .int v2), (3, .int v3), (4, .int y4)] [] I J1) (hK100 : ∀ (y5 : Int32) (J1 : gL), K100 y5 J1 → gJ X V 0 0 100 [(0, .ref (V.2.1 200)), (2, .int v2), (3, .int v3), (4, .int v4), (5, .int y5)] [] I J1) (hK112 : ∀ (y6 : Int32) (J1 : gL), K112 y6 J1 → gJ X V 0 0 112 [(0, .ref (V.2.1 200)), (2, .int v2), (3, .int v3), (4, .int v4), (5, .int v5), (6, .int y6)] [] I J1) (h : w_X10_many_112b Po K67 K100 K112 v2 v3 v4 v5 v6 I J) : gJ X V 0 0 112 [(0, .ref (V.2.1 200)), (2, .int v2), (3, .int v3), (4, .int v4), (5, .int v5), (6, .int v6)] [] I J := by
  unfold w_X10_many_112b at h
  refine j_iload (pc := 112) C dX10_many_112 5 rfl ?_
  refine j_aload_n (pc := 114) C dX10_many_114 rfl 0 rfl ?_
  refine j_getI (pc := 115) C 200 32 (c_200 hM).1 (c_200 hM).2 rfl rfl (by decide) inw_X10 wd_998 dX10_many_115 ?_
  refine j_aload_n (pc := 118) C dX10_many_118 rfl 0 rfl ?_
  refine j_getI (pc := 119) C 200 32 (c_200 hM).1 (c_200 hM).2 rfl rfl (by decide) inw_X10 wd_998 dX10_many_119 ?_
  refine j_imul (pc := 122) C dX10_many_122 ?_
  refine j_icmp_ge (pc := 123) (tgt := 160) C dX10_many_123 (by decide) (fun c18 => ?_) (fun c18 => ?_)
  · have h := h.1 c18
    obtain ⟨n19, en19⟩ : ∃ z : Int32, z = v5 + 1 := ⟨_, rfl⟩
    have h := h n19 en19
    refine j_iinc (pc := 160) (v := n19) (lv' := [(5, .int n19), (0, .ref (V.2.1 200)), (2, .int v2), (3, .int v3), (4, .int v4), (6, .int v6)]) C dX10_many_160 4 rfl (by rw [en19]; rfl) (by decide) rfl ?_
    refine j_goto (pc := 163) (tgt := 100) C dX10_many_163 (by decide) ?_
    refine gJ.sub [1, 2, 3, 4, 0] rfl ?_
    exact hK100 _ _ h
  · have h := h.2 c18
    refine j_aload_n (pc := 126) C dX10_many_126 rfl 0 rfl ?_
    refine j_getR (pc := 127) C 200 35 224 (c_200 hM).1 (c_200 hM).2 rfl rfl (by decide) inw_X10 wd_1001 dX10_many_127 ?_
    refine j_aload_n (pc := 130) C dX10_many_130 rfl 0 rfl ?_
    refine j_getR (pc := 131) C 200 33 222 (c_200 hM).1 (c_200 hM).2 rfl rfl (by decide) inw_X10 wd_999 dX10_many_131 ?_
    refine j_bipush (pc := 134) (v := 9) C dX10_many_134 (by decide) ?_
    refine j_iload (pc := 136) C dX10_many_136 4 rfl ?_
    refine j_imul (pc := 138) C dX10_many_138 ?_
    refine j_iload (pc := 139) C dX10_many_139 5 rfl ?_
    refine j_iadd (pc := 141) C dX10_many_141 ?_
    obtain ⟨g20, h⟩ := h
    refine j_iald (pc := 142) C 222 (c_222 hM).1 (c_222 hM).2 g20 dX10_many_142 ?_
    refine j_dup2_11 (pc := 143) C dX10_many_143 rfl rfl ?_
    obtain ⟨g21, h⟩ := h
    refine j_lald (pc := 144) C 224 (c_224 hM).1 (c_224 hM).2 g21 dX10_many_144 ?_
    refine j_aload_n (pc := 145) C dX10_many_145 rfl 0 rfl ?_
    refine j_getR (pc := 146) C 200 34 223 (c_200 hM).1 (c_200 hM).2 rfl rfl (by decide) inw_X10 wd_1000 dX10_many_146 ?_
    refine j_iload (pc := 149) C dX10_many_149 4 rfl ?_
    obtain ⟨g22, h⟩ := h
    refine j_lald (pc := 151) C 223 (c_223 hM).1 (c_223 hM).2 g22 dX10_many_151 ?_
    refine j_ladd (pc := 152) C dX10_many_152 ?_
    obtain ⟨g23, h⟩ := h
    refine j_last (pc := 153) C 224 (c_224 hM).1 (c_224 hM).2 g23 dX10_many_153 ?_
    refine gJ.nmJ (fun J24 eJ24 => ?_)
    have h := h J24 eJ24
    obtain ⟨n25, en25⟩ : ∃ z : Int32, z = v6 + 1 := ⟨_, rfl⟩
    have h := h n25 en25
    refine j_iinc (pc := 154) (v := n25) (lv' := [(6, .int n25), (0, .ref (V.2.1 200)), (2, .int v2), (3, .int v3), (4, .int v4), (5, .int v5)]) C dX10_many_154 5 rfl (by rw [en25]; rfl) (by decide) rfl ?_
    refine j_goto (pc := 157) (tgt := 112) C dX10_many_157 (by decide) ?_
    refine gJ.sub [1, 2, 3, 4, 5, 0] rfl ?_
    exact hK112 _ _ h
set_option maxRecDepth 100000 in
set_option maxHeartbeats 4000000 in
theorem t_X10_many_112 {X : gX} {l : Launch} {D : va_G} {cy : Nat → ClassId} {nm : String} {V : gV} (hM : gModM V) (C : gC X cX10_many RX10 (some .long) 7 rm_X10_many) (hX : gIs X l D cy nm) {I : gI} {J : gL} {Po : Int64 → gL → Prop} (hR : gR X (gPl V (fun x I' J' => I = I' ∧ Po x J'))) {v2 : Int32} {v3 : Int32} {v4 : Int32} {v5 : Int32} {v6 : Int32} {K67 : Int32 → gL → Prop} {K100 : Int32 → gL → Prop} (hK67 : ∀ (y4 : Int32) (J1 : gL), K67 y4 J1 → gJ X V 0 0 67 [(0, .ref (V.2.1 200)), (2, .int v2), (3, .int v3), (4, .int y4)] [] I J1) (hK100 : ∀ (y5 : Int32) (J1 : gL), K100 y5 J1 → gJ X V 0 0 100 [(0, .ref (V.2.1 200)), (2, .int v2), (3, .int v3), (4, .int v4), (5, .int y5)] [] I J1) (h : w_X10_many_112 Po K67 K100 v2 v3 v4 v5 v6 I J) : gJ X V 0 0 112 [(0, .ref (V.2.1 200)), (2, .int v2), (3, .int v3), (4, .int v4), (5, .int v5), (6, .int v6)] [] I J := by
  unfold w_X10_many_112 at h
  obtain ⟨Inv, mu, h0, hs⟩ := h
  have key : ∀ (n : Nat) (v6 : Int32) (J : gL), Inv v6 J → mu v6 J < n → gJ X V 0 0 112 [(0, .ref (V.2.1 200)), (2, .int v2), (3, .int v3), (4, .int v4), (5, .int v5), (6, .int v6)] [] I J := by
    intro n
    induction n with
    | zero => intro v6 J hi hn; exact absurd hn (Nat.not_lt_zero _)
    | succ n ih =>
      intro v6 J hi hn
      exact t_X10_many_112b hM C hX hR  hK67 hK100 (fun u6 J1 hk => ih u6 J1 hk.1 (Nat.lt_of_lt_of_le hk.2 (Nat.le_of_lt_succ hn))) (hs v6 J hi)
  exact key _ v6 J h0 (Nat.lt_succ_self _)
set_option maxRecDepth 100000 in
set_option maxHeartbeats 4000000 in
theorem t_X10_many_100b {X : gX} {l : Launch} {D : va_G} {cy : Nat → ClassId} {nm : String} {V : gV} (hM : gModM V) (C : gC X cX10_many RX10 (some .long) 7 rm_X10_many) (hX : gIs X l D cy nm) {I : gI} {J : gL} {Po : Int64 → gL → Prop} (hR : gR X (gPl V (fun x I' J' => I = I' ∧ Po x J'))) {v2 : Int32} {v3 : Int32} {v4 : Int32} {v5 : Int32} {K67 : Int32 → gL → Prop} {K100 : Int32 → gL → Prop} (hK67 : ∀ (y4 : Int32) (J1 : gL), K67 y4 J1 → gJ X V 0 0 67 [(0, .ref (V.2.1 200)), (2, .int v2), (3, .int v3), (4, .int y4)] [] I J1) (hK100 : ∀ (y5 : Int32) (J1 : gL), K100 y5 J1 → gJ X V 0 0 100 [(0, .ref (V.2.1 200)), (2, .int v2), (3, .int v3), (4, .int v4), (5, .int y5)] [] I J1) (h : w_X10_many_100b Po K67 K100 v2 v3 v4 v5 I J) : gJ X V 0 0 100 [(0, .ref (V.2.1 200)), (2, .int v2), (3, .int v3), (4, .int v4), (5, .int v5)] [] I J := by
  unfold w_X10_many_100b at h
  refine j_iload (pc := 100) C dX10_many_100 4 rfl ?_
  refine j_aload_n (pc := 102) C dX10_many_102 rfl 0 rfl ?_
  refine j_getI (pc := 103) C 200 31 (c_200 hM).1 (c_200 hM).2 rfl rfl (by decide) inw_X10 wd_997 dX10_many_103 ?_
  refine j_icmp_ge (pc := 106) (tgt := 166) C dX10_many_106 (by decide) (fun c11 => ?_) (fun c11 => ?_)
  · have h := h.1 c11
    refine j_iconst (pc := 166) (v := 0) C dX10_many_166 (by decide) ?_
    refine j_istore (pc := 167) (lv' := [(5, .int (0 : Int32)), (0, .ref (V.2.1 200)), (2, .int v2), (3, .int v3), (4, .int v4)]) C dX10_many_167 (by decide) rfl ?_
    refine gJ.sub [1, 2, 3, 4, 0] rfl ?_
    exact t_X10_many_169 hM C hX hR  hK67 h
  · have h := h.2 c11
    refine j_iconst (pc := 109) (v := 0) C dX10_many_109 (by decide) ?_
    refine j_istore (pc := 110) (lv' := [(6, .int (0 : Int32)), (0, .ref (V.2.1 200)), (2, .int v2), (3, .int v3), (4, .int v4), (5, .int v5)]) C dX10_many_110 (by decide) rfl ?_
    refine gJ.sub [1, 2, 3, 4, 5, 0] rfl ?_
    exact t_X10_many_112 hM C hX hR  hK67 hK100 h
set_option maxRecDepth 100000 in
set_option maxHeartbeats 4000000 in
theorem t_X10_many_100 {X : gX} {l : Launch} {D : va_G} {cy : Nat → ClassId} {nm : String} {V : gV} (hM : gModM V) (C : gC X cX10_many RX10 (some .long) 7 rm_X10_many) (hX : gIs X l D cy nm) {I : gI} {J : gL} {Po : Int64 → gL → Prop} (hR : gR X (gPl V (fun x I' J' => I = I' ∧ Po x J'))) {v2 : Int32} {v3 : Int32} {v4 : Int32} {v5 : Int32} {K67 : Int32 → gL → Prop} (hK67 : ∀ (y4 : Int32) (J1 : gL), K67 y4 J1 → gJ X V 0 0 67 [(0, .ref (V.2.1 200)), (2, .int v2), (3, .int v3), (4, .int y4)] [] I J1) (h : w_X10_many_100 Po K67 v2 v3 v4 v5 I J) : gJ X V 0 0 100 [(0, .ref (V.2.1 200)), (2, .int v2), (3, .int v3), (4, .int v4), (5, .int v5)] [] I J := by
  unfold w_X10_many_100 at h
  obtain ⟨Inv, mu, h0, hs⟩ := h
  have key : ∀ (n : Nat) (v5 : Int32) (J : gL), Inv v5 J → mu v5 J < n → gJ X V 0 0 100 [(0, .ref (V.2.1 200)), (2, .int v2), (3, .int v3), (4, .int v4), (5, .int v5)] [] I J := by
    intro n
    induction n with
    | zero => intro v5 J hi hn; exact absurd hn (Nat.not_lt_zero _)
    | succ n ih =>
      intro v5 J hi hn
      exact t_X10_many_100b hM C hX hR  hK67 (fun u5 J1 hk => ih u5 J1 hk.1 (Nat.lt_of_lt_of_le hk.2 (Nat.le_of_lt_succ hn))) (hs v5 J hi)
  exact key _ v5 J h0 (Nat.lt_succ_self _)
set_option maxRecDepth 100000 in
set_option maxHeartbeats 4000000 in
theorem t_X10_many_76b {X : gX} {l : Launch} {D : va_G} {cy : Nat → ClassId} {nm : String} {V : gV} (hM : gModM V) (C : gC X cX10_many RX10 (some .long) 7 rm_X10_many) (hX : gIs X l D cy nm) {I : gI} {J : gL} {Po : Int64 → gL → Prop} (hR : gR X (gPl V (fun x I' J' => I = I' ∧ Po x J'))) {v2 : Int32} {v3 : Int32} {v4 : Int32} {v5 : Int32} {K67 : Int32 → gL → Prop} {K76 : Int32 → gL → Prop} (hK67 : ∀ (y4 : Int32) (J1 : gL), K67 y4 J1 → gJ X V 0 0 67 [(0, .ref (V.2.1 200)), (2, .int v2), (3, .int v3), (4, .int y4)] [] I J1) (hK76 : ∀ (y5 : Int32) (J1 : gL), K76 y5 J1 → gJ X V 0 0 76 [(0, .ref (V.2.1 200)), (2, .int v2), (3, .int v3), (4, .int v4), (5, .int y5)] [] I J1) (h : w_X10_many_76b Po K67 K76 v2 v3 v4 v5 I J) : gJ X V 0 0 76 [(0, .ref (V.2.1 200)), (2, .int v2), (3, .int v3), (4, .int v4), (5, .int v5)] [] I J := by
  unfold w_X10_many_76b at h
  refine j_iload (pc := 76) C dX10_many_76 4 rfl ?_
  refine j_bipush (pc := 78) (v := 6) C dX10_many_78 (by decide) ?_
  refine j_icmp_ge (pc := 80) (tgt := 97) C dX10_many_80 (by decide) (fun c10 => ?_) (fun c10 => ?_)
  · have h := h.1 c10
    refine j_iconst (pc := 97) (v := 0) C dX10_many_97 (by decide) ?_
    refine j_istore (pc := 98) (lv' := [(5, .int (0 : Int32)), (0, .ref (V.2.1 200)), (2, .int v2), (3, .int v3), (4, .int v4)]) C dX10_many_98 (by decide) rfl ?_
    refine gJ.sub [1, 2, 3, 4, 0] rfl ?_
    exact t_X10_many_100 hM C hX hR  hK67 h
  · have h := h.2 c10
    refine j_aload_n (pc := 83) C dX10_many_83 rfl 0 rfl ?_
    refine j_getR (pc := 84) C 200 35 224 (c_200 hM).1 (c_200 hM).2 rfl rfl (by decide) inw_X10 wd_1001 dX10_many_84 ?_
    refine j_iload (pc := 87) C dX10_many_87 4 rfl ?_
    refine j_lconst (pc := 89) (v := 0) C dX10_many_89 (by decide) ?_
    obtain ⟨g26, h⟩ := h
    refine j_last (pc := 90) C 224 (c_224 hM).1 (c_224 hM).2 g26 dX10_many_90 ?_
    refine gJ.nmJ (fun J27 eJ27 => ?_)
    have h := h J27 eJ27
    obtain ⟨n28, en28⟩ : ∃ z : Int32, z = v5 + 1 := ⟨_, rfl⟩
    have h := h n28 en28
    refine j_iinc (pc := 91) (v := n28) (lv' := [(5, .int n28), (0, .ref (V.2.1 200)), (2, .int v2), (3, .int v3), (4, .int v4)]) C dX10_many_91 4 rfl (by rw [en28]; rfl) (by decide) rfl ?_
    refine j_goto (pc := 94) (tgt := 76) C dX10_many_94 (by decide) ?_
    refine gJ.sub [1, 2, 3, 4, 0] rfl ?_
    exact hK76 _ _ h
set_option maxRecDepth 100000 in
set_option maxHeartbeats 4000000 in
theorem t_X10_many_76 {X : gX} {l : Launch} {D : va_G} {cy : Nat → ClassId} {nm : String} {V : gV} (hM : gModM V) (C : gC X cX10_many RX10 (some .long) 7 rm_X10_many) (hX : gIs X l D cy nm) {I : gI} {J : gL} {Po : Int64 → gL → Prop} (hR : gR X (gPl V (fun x I' J' => I = I' ∧ Po x J'))) {v2 : Int32} {v3 : Int32} {v4 : Int32} {v5 : Int32} {K67 : Int32 → gL → Prop} (hK67 : ∀ (y4 : Int32) (J1 : gL), K67 y4 J1 → gJ X V 0 0 67 [(0, .ref (V.2.1 200)), (2, .int v2), (3, .int v3), (4, .int y4)] [] I J1) (h : w_X10_many_76 Po K67 v2 v3 v4 v5 I J) : gJ X V 0 0 76 [(0, .ref (V.2.1 200)), (2, .int v2), (3, .int v3), (4, .int v4), (5, .int v5)] [] I J := by
  unfold w_X10_many_76 at h
  obtain ⟨Inv, mu, h0, hs⟩ := h
  have key : ∀ (n : Nat) (v5 : Int32) (J : gL), Inv v5 J → mu v5 J < n → gJ X V 0 0 76 [(0, .ref (V.2.1 200)), (2, .int v2), (3, .int v3), (4, .int v4), (5, .int v5)] [] I J := by
    intro n
    induction n with
    | zero => intro v5 J hi hn; exact absurd hn (Nat.not_lt_zero _)
    | succ n ih =>
      intro v5 J hi hn
      exact t_X10_many_76b hM C hX hR  hK67 (fun u5 J1 hk => ih u5 J1 hk.1 (Nat.lt_of_lt_of_le hk.2 (Nat.le_of_lt_succ hn))) (hs v5 J hi)
  exact key _ v5 J h0 (Nat.lt_succ_self _)
set_option maxRecDepth 100000 in
set_option maxHeartbeats 4000000 in
theorem t_X10_many_67b {X : gX} {l : Launch} {D : va_G} {cy : Nat → ClassId} {nm : String} {V : gV} (hM : gModM V) (C : gC X cX10_many RX10 (some .long) 7 rm_X10_many) (hX : gIs X l D cy nm) {I : gI} {J : gL} {Po : Int64 → gL → Prop} (hR : gR X (gPl V (fun x I' J' => I = I' ∧ Po x J'))) {v2 : Int32} {v3 : Int32} {v4 : Int32} {K67 : Int32 → gL → Prop} (hK67 : ∀ (y4 : Int32) (J1 : gL), K67 y4 J1 → gJ X V 0 0 67 [(0, .ref (V.2.1 200)), (2, .int v2), (3, .int v3), (4, .int y4)] [] I J1) (h : w_X10_many_67b Po K67 v2 v3 v4 I J) : gJ X V 0 0 67 [(0, .ref (V.2.1 200)), (2, .int v2), (3, .int v3), (4, .int v4)] [] I J := by
  unfold w_X10_many_67b at h
  refine j_iload (pc := 67) C dX10_many_67 3 rfl ?_
  refine j_iload_n (pc := 69) C dX10_many_69 rfl 1 rfl ?_
  refine j_icmp_ge (pc := 70) (tgt := 202) C dX10_many_70 (by decide) (fun c8 => ?_) (fun c8 => ?_)
  · have h := h.1 c8
    refine j_aload_n (pc := 202) C dX10_many_202 rfl 0 rfl ?_
    refine j_getR (pc := 203) C 200 34 223 (c_200 hM).1 (c_200 hM).2 rfl rfl (by decide) inw_X10 wd_1000 dX10_many_203 ?_
    refine j_iload_n (pc := 206) C dX10_many_206 rfl 2 rfl ?_
    obtain ⟨g9, h⟩ := h
    refine j_lald (pc := 207) C 223 (c_223 hM).1 (c_223 hM).2 g9 dX10_many_207 ?_
    exact j_lret (pc := 208) C hR (Nat.zero_le _) (Nat.zero_le _) dX10_many_208 ⟨_, rfl, rfl, rfl, h⟩
  · have h := h.2 c8
    refine j_iconst (pc := 73) (v := 0) C dX10_many_73 (by decide) ?_
    refine j_istore (pc := 74) (lv' := [(5, .int (0 : Int32)), (0, .ref (V.2.1 200)), (2, .int v2), (3, .int v3), (4, .int v4)]) C dX10_many_74 (by decide) rfl ?_
    refine gJ.sub [1, 2, 3, 4, 0] rfl ?_
    exact t_X10_many_76 hM C hX hR  hK67 h
set_option maxRecDepth 100000 in
set_option maxHeartbeats 4000000 in
theorem t_X10_many_67 {X : gX} {l : Launch} {D : va_G} {cy : Nat → ClassId} {nm : String} {V : gV} (hM : gModM V) (C : gC X cX10_many RX10 (some .long) 7 rm_X10_many) (hX : gIs X l D cy nm) {I : gI} {J : gL} {Po : Int64 → gL → Prop} (hR : gR X (gPl V (fun x I' J' => I = I' ∧ Po x J'))) {v2 : Int32} {v3 : Int32} {v4 : Int32} (h : w_X10_many_67 Po v2 v3 v4 I J) : gJ X V 0 0 67 [(0, .ref (V.2.1 200)), (2, .int v2), (3, .int v3), (4, .int v4)] [] I J := by
  unfold w_X10_many_67 at h
  obtain ⟨Inv, mu, h0, hs⟩ := h
  have key : ∀ (n : Nat) (v4 : Int32) (J : gL), Inv v4 J → mu v4 J < n → gJ X V 0 0 67 [(0, .ref (V.2.1 200)), (2, .int v2), (3, .int v3), (4, .int v4)] [] I J := by
    intro n
    induction n with
    | zero => intro v4 J hi hn; exact absurd hn (Nat.not_lt_zero _)
    | succ n ih =>
      intro v4 J hi hn
      exact t_X10_many_67b hM C hX hR   (fun u4 J1 hk => ih u4 J1 hk.1 (Nat.lt_of_lt_of_le hk.2 (Nat.le_of_lt_succ hn))) (hs v4 J hi)
  exact key _ v4 J h0 (Nat.lt_succ_self _)
set_option maxRecDepth 100000 in
set_option maxHeartbeats 4000000 in
theorem t_X10_many_57 {X : gX} {l : Launch} {D : va_G} {cy : Nat → ClassId} {nm : String} {V : gV} (hM : gModM V) (C : gC X cX10_many RX10 (some .long) 7 rm_X10_many) (hX : gIs X l D cy nm) {I : gI} {J : gL} {Po : Int64 → gL → Prop} (hR : gR X (gPl V (fun x I' J' => I = I' ∧ Po x J'))) {v1 : Int32} {v2 : Int32} {v3 : Int32} {v4 : Int32} {s0 : Int64} {s1 : Int32} {K33 : Int32 → gL → Prop} (hK33 : ∀ (y4 : Int32) (J1 : gL), K33 y4 J1 → gJ X V 0 0 33 [(0, .ref (V.2.1 200)), (1, .int v1), (2, .int v2), (3, .int v3), (4, .int y4)] [] I J1) (h : w_X10_many_57 Po K33 v1 v2 v3 v4 s0 s1 I J) : gJ X V 0 0 57 [(0, .ref (V.2.1 200)), (1, .int v1), (2, .int v2), (3, .int v3), (4, .int v4)] [.long s0, .int s1, .ref (V.2.1 223)] I J := by
  unfold w_X10_many_57 at h
  obtain ⟨g30, h⟩ := h
  refine j_last (pc := 57) C 223 (c_223 hM).1 (c_223 hM).2 g30 dX10_many_57 ?_
  refine gJ.nmJ (fun J31 eJ31 => ?_)
  have h := h J31 eJ31
  obtain ⟨n32, en32⟩ : ∃ z : Int32, z = v4 + 1 := ⟨_, rfl⟩
  have h := h n32 en32
  refine j_iinc (pc := 58) (v := n32) (lv' := [(4, .int n32), (0, .ref (V.2.1 200)), (1, .int v1), (2, .int v2), (3, .int v3)]) C dX10_many_58 4 rfl (by rw [en32]; rfl) (by decide) rfl ?_
  refine j_goto (pc := 61) (tgt := 33) C dX10_many_61 (by decide) ?_
  refine gJ.sub [1, 2, 3, 4, 0] rfl ?_
  exact hK33 _ _ h
set_option maxRecDepth 100000 in
set_option maxHeartbeats 4000000 in
theorem t_X10_many_33b {X : gX} {l : Launch} {D : va_G} {cy : Nat → ClassId} {nm : String} {V : gV} (hM : gModM V) (C : gC X cX10_many RX10 (some .long) 7 rm_X10_many) (hX : gIs X l D cy nm) {I : gI} {J : gL} {Po : Int64 → gL → Prop} (hR : gR X (gPl V (fun x I' J' => I = I' ∧ Po x J'))) {v1 : Int32} {v2 : Int32} {v3 : Int32} {v4 : Int32} {K33 : Int32 → gL → Prop} (hK33 : ∀ (y4 : Int32) (J1 : gL), K33 y4 J1 → gJ X V 0 0 33 [(0, .ref (V.2.1 200)), (1, .int v1), (2, .int v2), (3, .int v3), (4, .int y4)] [] I J1) (h : w_X10_many_33b Po K33 v1 v2 v3 v4 I J) : gJ X V 0 0 33 [(0, .ref (V.2.1 200)), (1, .int v1), (2, .int v2), (3, .int v3), (4, .int v4)] [] I J := by
  unfold w_X10_many_33b at h
  refine j_iload (pc := 33) C dX10_many_33 4 rfl ?_
  refine j_bipush (pc := 35) (v := 6) C dX10_many_35 (by decide) ?_
  refine j_icmp_ge (pc := 37) (tgt := 64) C dX10_many_37 (by decide) (fun c7 => ?_) (fun c7 => ?_)
  · have h := h.1 c7
    refine j_iconst (pc := 64) (v := 0) C dX10_many_64 (by decide) ?_
    refine j_istore (pc := 65) (lv' := [(4, .int (0 : Int32)), (0, .ref (V.2.1 200)), (1, .int v1), (2, .int v2), (3, .int v3)]) C dX10_many_65 (by decide) rfl ?_
    refine gJ.sub [1, 3, 4, 0] rfl ?_
    exact t_X10_many_67 hM C hX hR   h
  · have h := h.2 c7
    refine j_aload_n (pc := 40) C dX10_many_40 rfl 0 rfl ?_
    refine j_getR (pc := 41) C 200 34 223 (c_200 hM).1 (c_200 hM).2 rfl rfl (by decide) inw_X10 wd_1000 dX10_many_41 ?_
    refine j_iload (pc := 44) C dX10_many_44 4 rfl ?_
    refine j_iload (pc := 46) C dX10_many_46 4 rfl ?_
    refine j_iload_n (pc := 48) C dX10_many_48 rfl 1 rfl ?_
    refine j_icmp_ne (pc := 49) (tgt := 56) C dX10_many_49 (by decide) (fun c29 => ?_) (fun c29 => ?_)
    · have h := h.1 c29
      refine j_lconst (pc := 56) (v := 0) C dX10_many_56 (by decide) ?_
      refine gJ.sub [0, 1, 2, 3, 4] rfl ?_
      exact t_X10_many_57 hM C hX hR  hK33 h
    · have h := h.2 c29
      refine j_lconst (pc := 52) (v := 1) C dX10_many_52 (by decide) ?_
      refine j_goto (pc := 53) (tgt := 57) C dX10_many_53 (by decide) ?_
      refine gJ.sub [0, 1, 2, 3, 4] rfl ?_
      exact t_X10_many_57 hM C hX hR  hK33 h
set_option maxRecDepth 100000 in
set_option maxHeartbeats 4000000 in
theorem t_X10_many_33 {X : gX} {l : Launch} {D : va_G} {cy : Nat → ClassId} {nm : String} {V : gV} (hM : gModM V) (C : gC X cX10_many RX10 (some .long) 7 rm_X10_many) (hX : gIs X l D cy nm) {I : gI} {J : gL} {Po : Int64 → gL → Prop} (hR : gR X (gPl V (fun x I' J' => I = I' ∧ Po x J'))) {v1 : Int32} {v2 : Int32} {v3 : Int32} {v4 : Int32} (h : w_X10_many_33 Po v1 v2 v3 v4 I J) : gJ X V 0 0 33 [(0, .ref (V.2.1 200)), (1, .int v1), (2, .int v2), (3, .int v3), (4, .int v4)] [] I J := by
  unfold w_X10_many_33 at h
  obtain ⟨Inv, mu, h0, hs⟩ := h
  have key : ∀ (n : Nat) (v4 : Int32) (J : gL), Inv v4 J → mu v4 J < n → gJ X V 0 0 33 [(0, .ref (V.2.1 200)), (1, .int v1), (2, .int v2), (3, .int v3), (4, .int v4)] [] I J := by
    intro n
    induction n with
    | zero => intro v4 J hi hn; exact absurd hn (Nat.not_lt_zero _)
    | succ n ih =>
      intro v4 J hi hn
      exact t_X10_many_33b hM C hX hR   (fun u4 J1 hk => ih u4 J1 hk.1 (Nat.lt_of_lt_of_le hk.2 (Nat.le_of_lt_succ hn))) (hs v4 J hi)
  exact key _ v4 J h0 (Nat.lt_succ_self _)
set_option maxRecDepth 100000 in
set_option maxHeartbeats 4000000 in
theorem m_X10_many {l : Launch} {D : va_G} {cy : Nat → ClassId} {V : gV} (hM : gModM V) {a1 : Int32} {a2 : Int32} {a3 : Int32} {I : gI} {J : gL} {Po : Int64 → gL → Prop} (h : wp_X10_many a1 a2 a3 I J Po) : gMet l D cy yX10_many cX10_many 7 (some .long) rm_X10_many V [.ref (V.2.1 200), .int a1, .int a2, .int a3] I J (gPl V (fun x I' J' => I = I' ∧ Po x J')) := by
  refine gMet.of (by decide) (Nat.le_of_ble_eq_true rfl) (fun X hX C hR => ?_)
  have C : gC X cX10_many RX10 (some .long) 7 rm_X10_many := C
  show gJ X V 0 0 0 [(0, .ref (V.2.1 200)), (1, .int a1), (2, .int a2), (3, .int a3)] [] I J
  unfold wp_X10_many at h
  refine j_aload_n (pc := 0) C dX10_many_0 rfl 0 rfl ?_
  refine j_iload_n (pc := 1) C dX10_many_1 rfl 1 rfl ?_
  refine j_callV (pc := 2) (As := [.int a1]) (st := []) C hX 200 (m_X10_isLetter hM  h) (c_200 hM).1 (c_200 hM).2 rfl ok_X10_isLetter wd_1245 wd_1247 wd_59 ⟨by decide, by decide⟩ rfl rfl (Nat.le_of_ble_eq_true rfl) ⟨Nat.le_refl 0, Nat.le_refl 0⟩ dX10_many_2 (fun r V1 I1 J1 hp => ?_)
  obtain ⟨r1, rfl, rfl, rfl, rfl, h⟩ := hp
  show gJ X V 0 0 5 _ [.int r1] _ _
  refine j_if_eq (pc := 5) (tgt := 26) C dX10_many_5 (by decide) (fun c2 => ?_) (fun c2 => ?_)
  · have h := h.1 c2
    refine j_ldc2 (pc := 26) (v := (-2)) C dX10_many_26 wd_1138 ?_
    exact j_lret (pc := 29) C hR (Nat.zero_le _) (Nat.zero_le _) dX10_many_29 ⟨_, rfl, rfl, rfl, h⟩
  · have h := h.2 c2
    refine j_aload_n (pc := 8) C dX10_many_8 rfl 0 rfl ?_
    refine j_iload_n (pc := 9) C dX10_many_9 rfl 3 rfl ?_
    refine j_callV (pc := 10) (As := [.int a3]) (st := []) C hX 200 (m_X10_isLetter hM  h) (c_200 hM).1 (c_200 hM).2 rfl ok_X10_isLetter wd_1245 wd_1247 wd_59 ⟨by decide, by decide⟩ rfl rfl (Nat.le_of_ble_eq_true rfl) ⟨Nat.le_refl 0, Nat.le_refl 0⟩ dX10_many_10 (fun r V1 I1 J1 hp => ?_)
    obtain ⟨r3, rfl, rfl, rfl, rfl, h⟩ := hp
    show gJ X V 0 0 13 _ [.int r3] _ _
    refine j_if_eq (pc := 13) (tgt := 26) C dX10_many_13 (by decide) (fun c4 => ?_) (fun c4 => ?_)
    · have h := h.1 c4
      refine j_ldc2 (pc := 26) (v := (-2)) C dX10_many_26 wd_1138 ?_
      exact j_lret (pc := 29) C hR (Nat.zero_le _) (Nat.zero_le _) dX10_many_29 ⟨_, rfl, rfl, rfl, h⟩
    · have h := h.2 c4
      refine j_iload_n (pc := 16) C dX10_many_16 rfl 2 rfl ?_
      refine j_iconst (pc := 17) (v := 0) C dX10_many_17 (by decide) ?_
      refine j_bipush (pc := 18) (v := 18) C dX10_many_18 (by decide) ?_
      refine j_callS (pc := 20) (As := [.int a2, .int (0 : Int32), .int (18 : Int32)]) (st := []) C hX (m_X10_isIn   h) ok_X10_isIn wd_1108 wd_1109 ⟨by decide, by decide⟩ rfl rfl (Nat.le_of_ble_eq_true rfl) ⟨Nat.le_refl 0, Nat.le_refl 0⟩ dX10_many_20 (fun r V1 I1 J1 hp => ?_)
      obtain ⟨r5, rfl, rfl, rfl, rfl, h⟩ := hp
      show gJ X V 0 0 23 _ [.int r5] _ _
      refine j_if_ne (pc := 23) (tgt := 30) C dX10_many_23 (by decide) (fun c6 => ?_) (fun c6 => ?_)
      · have h := h.1 c6
        refine j_iconst (pc := 30) (v := 0) C dX10_many_30 (by decide) ?_
        refine j_istore (pc := 31) (lv' := [(4, .int (0 : Int32)), (0, .ref (V.2.1 200)), (1, .int a1), (2, .int a2), (3, .int a3)]) C dX10_many_31 (by decide) rfl ?_
        refine gJ.sub [1, 2, 3, 4, 0] rfl ?_
        exact t_X10_many_33 hM C hX hR   h
      · have h := h.2 c6
        refine j_ldc2 (pc := 26) (v := (-2)) C dX10_many_26 wd_1138 ?_
        exact j_lret (pc := 29) C hR (Nat.zero_le _) (Nat.zero_le _) dX10_many_29 ⟨_, rfl, rfl, rfl, h⟩
/-! TileRulesModel.reach(II)V -/
abbrev rm_X10_reach : Room := { frames := 0, cells := 0, slots := 0, locals := 0 }
theorem ok_X10_reach : gOk yX10_reach cX10_reach 3 none 2 := ⟨wd_1280, wd_74, by decide +kernel⟩
def wp_X10_reach (a1 : Int32) (a2 : Int32) (I : gI) (Po : gI → Prop) : Prop :=
  vp_in a1 78 ∧ (¬ (I 225 (a1).toNatClampNeg) = (-1 : Int32) → Po I) ∧ ((I 225 (a1).toNatClampNeg) = (-1 : Int32) → vp_in a1 78 ∧ ∀ I4 : gI, I4 = gup I 225 (a1).toNatClampNeg a2 → Po I4)
set_option maxRecDepth 100000 in
set_option maxHeartbeats 4000000 in
theorem m_X10_reach {l : Launch} {D : va_G} {cy : Nat → ClassId} {V : gV} (hM : gModM V) {a1 : Int32} {a2 : Int32} {I : gI} {J : gL} {Po : gI → Prop} (h : wp_X10_reach a1 a2 I Po) : gMet l D cy yX10_reach cX10_reach 3 none rm_X10_reach V [.ref (V.2.1 200), .int a1, .int a2] I J (gPv V (fun I' J' => J = J' ∧ Po I')) := by
  refine gMet.of (by decide) (Nat.le_of_ble_eq_true rfl) (fun X hX C hR => ?_)
  have C : gC X cX10_reach RX10 none 3 rm_X10_reach := C
  show gJ X V 0 0 0 [(0, .ref (V.2.1 200)), (1, .int a1), (2, .int a2)] [] I J
  unfold wp_X10_reach at h
  refine j_aload_n (pc := 0) C dX10_reach_0 rfl 0 rfl ?_
  refine j_getR (pc := 1) C 200 36 225 (c_200 hM).1 (c_200 hM).2 rfl rfl (by decide) inw_X10 wd_1002 dX10_reach_1 ?_
  refine j_iload_n (pc := 4) C dX10_reach_4 rfl 1 rfl ?_
  obtain ⟨g1, h⟩ := h
  refine j_iald (pc := 5) C 225 (c_225 hM).1 (c_225 hM).2 g1 dX10_reach_5 ?_
  refine j_iconst (pc := 6) (v := (-1)) C dX10_reach_6 (by decide) ?_
  refine j_icmp_ne (pc := 7) (tgt := 17) C dX10_reach_7 (by decide) (fun c2 => ?_) (fun c2 => ?_)
  · have h := h.1 c2
    exact j_vret (pc := 17) C hR (Nat.zero_le _) (Nat.zero_le _) dX10_reach_17 ⟨rfl, rfl, rfl, h⟩
  · have h := h.2 c2
    refine j_aload_n (pc := 10) C dX10_reach_10 rfl 0 rfl ?_
    refine j_getR (pc := 11) C 200 36 225 (c_200 hM).1 (c_200 hM).2 rfl rfl (by decide) inw_X10 wd_1002 dX10_reach_11 ?_
    refine j_iload_n (pc := 14) C dX10_reach_14 rfl 1 rfl ?_
    refine j_iload_n (pc := 15) C dX10_reach_15 rfl 2 rfl ?_
    obtain ⟨g3, h⟩ := h
    refine j_iast (pc := 16) C 225 (c_225 hM).1 (c_225 hM).2 g3 dX10_reach_16 ?_
    refine gJ.nmI (fun I4 eI4 => ?_)
    have h := h I4 eI4
    exact j_vret (pc := 17) C hR (Nat.zero_le _) (Nat.zero_le _) dX10_reach_17 ⟨rfl, rfl, rfl, h⟩
