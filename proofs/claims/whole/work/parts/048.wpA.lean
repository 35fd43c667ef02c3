/-! TileRules$Blocks.<init>()V -/
abbrev rA_X0_init (mc ms : Nat) : Room := { frames := 1, cells := mc, slots := ms, locals := 40 }
theorem ok_X0_init : gOk yX0_init cX0_init 1 none 0 := ⟨wd_182, wd_72, by decide +kernel⟩
set_option maxRecDepth 100000 in
def wA_X0_init (mc ms : Nat) (b0 : Nat) (V : gV) (I : gI) (J : gL) (Po : gV → gI → gL → Prop) : Prop :=
  ∃ sl1 : List (Nat ⊕ Option Nat), 40 ∈ V.1 ∧ V.2.1 40 = b0 ∧ V.2.2 40 = .inl (0, sl1) ∧ sl1[0]? = some (.inl 0) ∧ ∀ I6 : gI, I6 = gup I 40 0 (1 : Int32) → ∃ sl7 : List (Nat ⊕ Option Nat), 40 ∈ V.1 ∧ V.2.1 40 = b0 ∧ V.2.2 40 = .inl (0, sl7) ∧ sl7[1]? = some (.inl 0) ∧ ∀ I12 : gI, I12 = gup I6 40 1 (2 : Int32) → (∀ z, z < 7 → 41 + z ∉ V.1) ∧ 0 + 7 ≤ mc ∧ 0 + 60 ≤ ms ∧ ∀ (b16 : Nat) (r17 : Nat → Nat) (V18 : gV), V18 = gmul V 41 b16 r17 9 → ∀ I19 : gI, I19 = gmz I12 41 → ∃ sl20 : List (Nat ⊕ Option Nat), 40 ∈ V18.1 ∧ V18.2.1 40 = b0 ∧ V18.2.2 40 = .inl (0, sl20) ∧ 2 < sl20.length ∧ ∀ V25 : gV, V25 = gde V18 40 (.inl (0, sl20.set 2 (.inr (some b16)))) → ∃ N27 : Nat, 48 ∉ V25.1 ∧ ¬ (6 : Int32) < 0 ∧ ((6 : Int32)).toNatClampNeg = N27 ∧ N27 * 8 ≤ 536870912 ∧ 0 + 7 + 1 ≤ mc ∧ 0 + 60 + N27 ≤ ms ∧ ∀ (b35 : Nat) (V34 : gV), V34 = gadd V25 48 b35 (.inr (1, N27, gno)) → ∀ J36 : gL, J36 = guc J 48 (fun _ => 0) → ∃ sl37 : List (Nat ⊕ Option Nat), 40 ∈ V34.1 ∧ V34.2.1 40 = b0 ∧ V34.2.2 40 = .inl (0, sl37) ∧ 3 < sl37.length ∧ ∀ V42 : gV, V42 = gde V34 40 (.inl (0, sl37.set 3 (.inr (some b35)))) → ∃ N44 : Nat, 49 ∉ V42.1 ∧ ¬ (6 : Int32) < 0 ∧ ((6 : Int32)).toNatClampNeg = N44 ∧ N44 * 8 ≤ 536870912 ∧ 0 + 7 + 1 + 1 ≤ mc ∧ 0 + 60 + N27 + N44 ≤ ms ∧ ∀ (b52 : Nat) (V51 : gV), V51 = gadd V42 49 b52 (.inr (1, N44, gno)) → ∀ J53 : gL, J53 = guc J36 49 (fun _ => 0) → ∃ sl54 : List (Nat ⊕ Option Nat), 40 ∈ V51.1 ∧ V51.2.1 40 = b0 ∧ V51.2.2 40 = .inl (0, sl54) ∧ 4 < sl54.length ∧ ∀ V59 : gV, V59 = gde V51 40 (.inl (0, sl54.set 4 (.inr (some b52)))) → ∃ N61 : Nat, 50 ∉ V59.1 ∧ ¬ (6 : Int32) < 0 ∧ ((6 : Int32)).toNatClampNeg = N61 ∧ N61 * 4 ≤ 536870912 ∧ 0 + 7 + 1 + 1 + 1 ≤ mc ∧ 0 + 60 + N27 + N44 + N61 ≤ ms ∧ ∀ (b69 : Nat) (V68 : gV), V68 = gadd V59 50 b69 (.inr (0, N61, gno)) → ∀ I70 : gI, I70 = guc I19 50 (fun _ => 0) → ∃ sl71 : List (Nat ⊕ Option Nat), 40 ∈ V68.1 ∧ V68.2.1 40 = b0 ∧ V68.2.2 40 = .inl (0, sl71) ∧ 5 < sl71.length ∧ ∀ V76 : gV, V76 = gde V68 40 (.inl (0, sl71.set 5 (.inr (some b69)))) → ∃ N78 : Nat, 51 ∉ V76.1 ∧ ¬ (6 : Int32) < 0 ∧ ((6 : Int32)).toNatClampNeg = N78 ∧ N78 * 4 ≤ 536870912 ∧ 0 + 7 + 1 + 1 + 1 + 1 ≤ mc ∧ 0 + 60 + N27 + N44 + N61 + N78 ≤ ms ∧ ∀ (b86 : Nat) (V85 : gV), V85 = gadd V76 51 b86 (.inr (0, N78, gno)) → ∀ I87 : gI, I87 = guc I70 51 (fun _ => 0) → ∃ sl88 : List (Nat ⊕ Option Nat), 40 ∈ V85.1 ∧ V85.2.1 40 = b0 ∧ V85.2.2 40 = .inl (0, sl88) ∧ 6 < sl88.length ∧ ∀ V93 : gV, V93 = gde V85 40 (.inl (0, sl88.set 6 (.inr (some b86)))) → Po V93 I87 J53
set_option maxRecDepth 100000 in
set_option maxHeartbeats 4000000 in
theorem n_X0_init {l : Launch} {D : va_G} {cy : Nat → ClassId} {mc ms : Nat} {b0 : Nat} {V : gV} {I : gI} {J : gL} {Po : gV → gI → gL → Prop} (h : wA_X0_init mc ms b0 V I J Po) : gMet l D cy yX0_init cX0_init 1 none (rA_X0_init mc ms) V [.ref b0] I J (gQv Po) := by
  refine gMet.of (by decide) (Nat.le_of_ble_eq_true rfl) (fun X hX C hR => ?_)
  have C : gC X cX0_init RX0 none 1 (rA_X0_init mc ms) := C
  have hcs : 0 ≤ mc ∧ 0 ≤ ms := ⟨Nat.zero_le _, Nat.zero_le _⟩
  show gJ X V 0 0 0 [(0, .ref b0)] [] I J
  unfold wA_X0_init at h
  refine j_aload_n (pc := 0) C dX0_init_0 rfl 0 rfl ?_
  refine j_objInit (pc := 1) (st := []) C wd_183 wd_91 wd_92 (Nat.le_of_ble_eq_true rfl) (Nat.le_of_ble_eq_true rfl) dX0_init_1 ?_
  refine j_aload_n (pc := 4) C dX0_init_4 rfl 0 rfl ?_
  refine j_iconst (pc := 5) (v := 1) C dX0_init_5 (by decide) ?_
  obtain ⟨sl1, hk3, e2, hd4, hn5, h⟩ := h
  refine gJ.eqst (st' := [.int (1 : Int32), .ref (V.2.1 40)]) (by rw [e2]) ?_
  refine j_putI (pc := 6) (ft := .int) C tyX0 tyX0_ok nmX0 40 0 hk3 hd4 hn5 rfl (by decide) inw_X0 wd_185 rfl (by decide +kernel) rfl rfl dX0_init_6 ?_
  refine gJ.nmI (fun I6 eI6 => ?_)
  have h := h I6 eI6
  refine j_aload_n (pc := 9) C dX0_init_9 rfl 0 rfl ?_
  refine j_iconst (pc := 10) (v := 2) C dX0_init_10 (by decide) ?_
  obtain ⟨sl7, hk9, e8, hd10, hn11, h⟩ := h
  refine gJ.eqst (st' := [.int (2 : Int32), .ref (V.2.1 40)]) (by rw [e8]) ?_
  refine j_putI (pc := 11) (ft := .int) C tyX0 tyX0_ok nmX0 40 1 hk9 hd10 hn11 rfl (by decide) inw_X0 wd_188 rfl (by decide +kernel) rfl rfl dX0_init_11 ?_
  refine gJ.nmI (fun I12 eI12 => ?_)
  have h := h I12 eI12
  refine j_aload_n (pc := 14) C dX0_init_14 rfl 0 rfl ?_
  refine j_bipush (pc := 15) (v := 6) C dX0_init_15 (by decide) ?_
  refine j_bipush (pc := 17) (v := 9) C dX0_init_17 (by decide) ?_
  obtain ⟨g13, g14, g15, h⟩ := h
  refine j_multi (pc := 19) (K := 9) C 41 g13 (by decide) (by decide) (by decide) g14 g15 wd_184 wd_121 dX0_init_19 (fun b16 r17 => ?_)
  have hcs : _ ∧ _ := ⟨g14, g15⟩
  refine gJ.nmV (fun V18 eV18 => ?_)
  have h := h b16 r17 V18 eV18
  refine gJ.nmI (fun I19 eI19 => ?_)
  have h := h I19 eI19
  obtain ⟨sl20, hk22, e21, hd23, hn24, h⟩ := h
  refine gJ.eqst (st' := [.ref b16, .ref (V18.2.1 40)]) (by rw [e21]) ?_
  refine j_putF (pc := 23) (ft := (.array (.array .int))) C tyX0 tyX0_ok nmX0 40 2 hX rfl hk22 hd23 hn24 rfl (by decide) inw_X0 wd_191 rfl (by decide +kernel) rfl rfl dX0_init_23 ?_
  refine gJ.nmV (fun V25 eV25 => ?_)
  have h := h V25 eV25
  refine j_aload_n (pc := 26) C dX0_init_26 rfl 0 rfl ?_
  refine j_bipush (pc := 27) (v := 6) C dX0_init_27 (by decide) ?_
  obtain ⟨N27, g28, g29, g30, g31, g32, g33, h⟩ := h
  refine j_newL (pc := 29) C 48 g28 g29 g30 g31 g32 g33 wd_211 dX0_init_29 (fun b35 => ?_)
  have hcs : _ ∧ _ := ⟨g32, g33⟩
  refine gJ.nmV (fun V34 eV34 => ?_)
  have h := h b35 V34 eV34
  refine gJ.nmJ (fun J36 eJ36 => ?_)
  have h := h J36 eJ36
  obtain ⟨sl37, hk39, e38, hd40, hn41, h⟩ := h
  refine gJ.eqst (st' := [.ref b35, .ref (V34.2.1 40)]) (by rw [e38]) ?_
  refine j_putF (pc := 31) (ft := (.array .long)) C tyX0 tyX0_ok nmX0 40 3 hX rfl hk39 hd40 hn41 rfl (by decide) inw_X0 wd_192 rfl (by decide +kernel) rfl rfl dX0_init_31 ?_
  refine gJ.nmV (fun V42 eV42 => ?_)
  have h := h V42 eV42
  refine j_aload_n (pc := 34) C dX0_init_34 rfl 0 rfl ?_
  refine j_bipush (pc := 35) (v := 6) C dX0_init_35 (by decide) ?_
  obtain ⟨N44, g45, g46, g47, g48, g49, g50, h⟩ := h
  refine j_newL (pc := 37) C 49 g45 g46 g47 g48 g49 g50 wd_211 dX0_init_37 (fun b52 => ?_)
  have hcs : _ ∧ _ := ⟨g49, g50⟩
  refine gJ.nmV (fun V51 eV51 => ?_)
  have h := h b52 V51 eV51
  refine gJ.nmJ (fun J53 eJ53 => ?_)
  have h := h J53 eJ53
  obtain ⟨sl54, hk56, e55, hd57, hn58, h⟩ := h
  refine gJ.eqst (st' := [.ref b52, .ref (V51.2.1 40)]) (by rw [e55]) ?_
  refine j_putF (pc := 39) (ft := (.array .long)) C tyX0 tyX0_ok nmX0 40 4 hX rfl hk56 hd57 hn58 rfl (by decide) inw_X0 wd_193 rfl (by decide +kernel) rfl rfl dX0_init_39 ?_
  refine gJ.nmV (fun V59 eV59 => ?_)
  have h := h V59 eV59
  refine j_aload_n (pc := 42) C dX0_init_42 rfl 0 rfl ?_
  refine j_bipush (pc := 43) (v := 6) C dX0_init_43 (by decide) ?_
  obtain ⟨N61, g62, g63, g64, g65, g66, g67, h⟩ := h
  refine j_newI (pc := 45) C 50 g62 g63 g64 g65 g66 g67 wd_121 dX0_init_45 (fun b69 => ?_)
  have hcs : _ ∧ _ := ⟨g66, g67⟩
  refine gJ.nmV (fun V68 eV68 => ?_)
  have h := h b69 V68 eV68
  refine gJ.nmI (fun I70 eI70 => ?_)
  have h := h I70 eI70
  obtain ⟨sl71, hk73, e72, hd74, hn75, h⟩ := h
  refine gJ.eqst (st' := [.ref b69, .ref (V68.2.1 40)]) (by rw [e72]) ?_
  refine j_putF (pc := 47) (ft := (.array .int)) C tyX0 tyX0_ok nmX0 40 5 hX rfl hk73 hd74 hn75 rfl (by decide) inw_X0 wd_194 rfl (by decide +kernel) rfl rfl dX0_init_47 ?_
  refine gJ.nmV (fun V76 eV76 => ?_)
  have h := h V76 eV76
  refine j_aload_n (pc := 50) C dX0_init_50 rfl 0 rfl ?_
  refine j_bipush (pc := 51) (v := 6) C dX0_init_51 (by decide) ?_
  obtain ⟨N78, g79, g80, g81, g82, g83, g84, h⟩ := h
  refine j_newI (pc := 53) C 51 g79 g80 g81 g82 g83 g84 wd_121 dX0_init_53 (fun b86 => ?_)
  have hcs : _ ∧ _ := ⟨g83, g84⟩
  refine gJ.nmV (fun V85 eV85 => ?_)
  have h := h b86 V85 eV85
  refine gJ.nmI (fun I87 eI87 => ?_)
  have h := h I87 eI87
  obtain ⟨sl88, hk90, e89, hd91, hn92, h⟩ := h
  refine gJ.eqst (st' := [.ref b86, .ref (V85.2.1 40)]) (by rw [e89]) ?_
  refine j_putF (pc := 55) (ft := (.array .int)) C tyX0 tyX0_ok nmX0 40 6 hX rfl hk90 hd91 hn92 rfl (by decide) inw_X0 wd_195 rfl (by decide +kernel) rfl rfl dX0_init_55 ?_
  refine gJ.nmV (fun V93 eV93 => ?_)
  have h := h V93 eV93
  exact j_vret (pc := 58) C hR hcs.1 hcs.2 dX0_init_58 ⟨rfl, h⟩
/-! TileRules$CornerSet.<init>()V -/
abbrev rA_X1_init (mc ms : Nat) : Room := { frames := 1, cells := mc, slots := ms, locals := 40 }
theorem ok_X1_init : gOk yX1_init cX1_init 1 none 0 := ⟨wd_216, wd_73, by decide +kernel⟩
set_option maxRecDepth 100000 in
def wA_X1_init (mc ms : Nat) (b0 : Nat) (V : gV) (I : gI) (J : gL) (Po : gV → gI → gL → Prop) : Prop :=
  ∃ sl1 : List (Nat ⊕ Option Nat), 60 ∈ V.1 ∧ V.2.1 60 = b0 ∧ V.2.2 60 = .inl (1, sl1) ∧ sl1[0]? = some (.inl 0) ∧ ∀ I6 : gI, I6 = gup I 60 0 (0 : Int32) → ∃ sl7 : List (Nat ⊕ Option Nat), 60 ∈ V.1 ∧ V.2.1 60 = b0 ∧ V.2.2 60 = .inl (1, sl7) ∧ sl7[1]? = some (.inl 0) ∧ ∀ I12 : gI, I12 = gup I6 60 1 (1 : Int32) → ∃ sl13 : List (Nat ⊕ Option Nat), 60 ∈ V.1 ∧ V.2.1 60 = b0 ∧ V.2.2 60 = .inl (1, sl13) ∧ sl13[2]? = some (.inl 0) ∧ ∀ I18 : gI, I18 = gup I12 60 2 (0 : Int32) → ∃ N20 : Nat, 61 ∉ V.1 ∧ ¬ (18 : Int32) < 0 ∧ ((18 : Int32)).toNatClampNeg = N20 ∧ N20 * 4 ≤ 536870912 ∧ 0 + 1 ≤ mc ∧ 0 + N20 ≤ ms ∧ ∀ (b28 : Nat) (V27 : gV), V27 = gadd V 61 b28 (.inr (0, N20, gno)) → ∀ I29 : gI, I29 = guc I18 61 (fun _ => 0) → ∃ sl30 : List (Nat ⊕ Option Nat), 60 ∈ V27.1 ∧ V27.2.1 60 = b0 ∧ V27.2.2 60 = .inl (1, sl30) ∧ 3 < sl30.length ∧ ∀ V35 : gV, V35 = gde V27 60 (.inl (1, sl30.set 3 (.inr (some b28)))) → ∃ N37 : Nat, 62 ∉ V35.1 ∧ ¬ (6 : Int32) < 0 ∧ ((6 : Int32)).toNatClampNeg = N37 ∧ N37 * 4 ≤ 536870912 ∧ 0 + 1 + 1 ≤ mc ∧ 0 + N20 + N37 ≤ ms ∧ ∀ (b45 : Nat) (V44 : gV), V44 = gadd V35 62 b45 (.inr (0, N37, gno)) → ∀ I46 : gI, I46 = guc I29 62 (fun _ => 0) → ∃ sl47 : List (Nat ⊕ Option Nat), 60 ∈ V44.1 ∧ V44.2.1 60 = b0 ∧ V44.2.2 60 = .inl (1, sl47) ∧ 4 < sl47.length ∧ ∀ V52 : gV, V52 = gde V44 60 (.inl (1, sl47.set 4 (.inr (some b45)))) → ∃ sl53 : List (Nat ⊕ Option Nat), 60 ∈ V52.1 ∧ V52.2.1 60 = b0 ∧ V52.2.2 60 = .inl (1, sl53) ∧ sl53[5]? = some (.inl 0) ∧ ∀ I58 : gI, I58 = gup I46 60 5 (0 : Int32) → ∃ sl59 : List (Nat ⊕ Option Nat), 60 ∈ V52.1 ∧ V52.2.1 60 = b0 ∧ V52.2.2 60 = .inl (1, sl59) ∧ sl59[6]? = some (.inl 0) ∧ ∀ I64 : gI, I64 = gup I58 60 6 (0 : Int32) → ∃ sl65 : List (Nat ⊕ Option Nat), 60 ∈ V52.1 ∧ V52.2.1 60 = b0 ∧ V52.2.2 60 = .inl (1, sl65) ∧ sl65[7]? = some (.inl 0) ∧ ∀ I70 : gI, I70 = gup I64 60 7 (-1 : Int32) → ∃ sl71 : List (Nat ⊕ Option Nat), 60 ∈ V52.1 ∧ V52.2.1 60 = b0 ∧ V52.2.2 60 = .inl (1, sl71) ∧ sl71[8]? = some (.inl 0) ∧ ∀ I76 : gI, I76 = gup I70 60 8 (0 : Int32) → Po V52 I76 J
set_option maxRecDepth 100000 in
set_option maxHeartbeats 4000000 in
theorem n_X1_init {l : Launch} {D : va_G} {cy : Nat → ClassId} {mc ms : Nat} {b0 : Nat} {V : gV} {I : gI} {J : gL} {Po : gV → gI → gL → Prop} (h : wA_X1_init mc ms b0 V I J Po) : gMet l D cy yX1_init cX1_init 1 none (rA_X1_init mc ms) V [.ref b0] I J (gQv Po) := by
  refine gMet.of (by decide) (Nat.le_of_ble_eq_true rfl) (fun X hX C hR => ?_)
  have C : gC X cX1_init RX1 none 1 (rA_X1_init mc ms) := C
  have hcs : 0 ≤ mc ∧ 0 ≤ ms := ⟨Nat.zero_le _, Nat.zero_le _⟩
  show gJ X V 0 0 0 [(0, .ref b0)] [] I J
  unfold wA_X1_init at h
  refine j_aload_n (pc := 0) C dX1_init_0 rfl 0 rfl ?_
  refine j_objInit (pc := 1) (st := []) C wd_217 wd_91 wd_92 (Nat.le_of_ble_eq_true rfl) (Nat.le_of_ble_eq_true rfl) dX1_init_1 ?_
  refine j_aload_n (pc := 4) C dX1_init_4 rfl 0 rfl ?_
  refine j_iconst (pc := 5) (v := 0) C dX1_init_5 (by decide) ?_
  obtain ⟨sl1, hk3, e2, hd4, hn5, h⟩ := h
  refine gJ.eqst (st' := [.int (0 : Int32), .ref (V.2.1 60)]) (by rw [e2]) ?_
  refine j_putI (pc := 6) (ft := .int) C tyX1 tyX1_ok nmX1 60 0 hk3 hd4 hn5 rfl (by decide) inw_X1 wd_218 rfl (by decide +kernel) rfl rfl dX1_init_6 ?_
  refine gJ.nmI (fun I6 eI6 => ?_)
  have h := h I6 eI6
  refine j_aload_n (pc := 9) C dX1_init_9 rfl 0 rfl ?_
  refine j_iconst (pc := 10) (v := 1) C dX1_init_10 (by decide) ?_
  obtain ⟨sl7, hk9, e8, hd10, hn11, h⟩ := h
  refine gJ.eqst (st' := [.int (1 : Int32), .ref (V.2.1 60)]) (by rw [e8]) ?_
  refine j_putI (pc := 11) (ft := .int) C tyX1 tyX1_ok nmX1 60 1 hk9 hd10 hn11 rfl (by decide) inw_X1 wd_220 rfl (by decide +kernel) rfl rfl dX1_init_11 ?_
  refine gJ.nmI (fun I12 eI12 => ?_)
  have h := h I12 eI12
  refine j_aload_n (pc := 14) C dX1_init_14 rfl 0 rfl ?_
  refine j_iconst (pc := 15) (v := 0) C dX1_init_15 (by decide) ?_
  obtain ⟨sl13, hk15, e14, hd16, hn17, h⟩ := h
  refine gJ.eqst (st' := [.int (0 : Int32), .ref (V.2.1 60)]) (by rw [e14]) ?_
  refine j_putI (pc := 16) (ft := .int) C tyX1 tyX1_ok nmX1 60 2 hk15 hd16 hn17 rfl (by decide) inw_X1 wd_222 rfl (by decide +kernel) rfl rfl dX1_init_16 ?_
  refine gJ.nmI (fun I18 eI18 => ?_)
  have h := h I18 eI18
  refine j_aload_n (pc := 19) C dX1_init_19 rfl 0 rfl ?_
  refine j_bipush (pc := 20) (v := 18) C dX1_init_20 (by decide) ?_
  obtain ⟨N20, g21, g22, g23, g24, g25, g26, h⟩ := h
  refine j_newI (pc := 22) C 61 g21 g22 g23 g24 g25 g26 wd_121 dX1_init_22 (fun b28 => ?_)
  have hcs : _ ∧ _ := ⟨g25, g26⟩
  refine gJ.nmV (fun V27 eV27 => ?_)
  have h := h b28 V27 eV27
  refine gJ.nmI (fun I29 eI29 => ?_)
  have h := h I29 eI29
  obtain ⟨sl30, hk32, e31, hd33, hn34, h⟩ := h
  refine gJ.eqst (st' := [.ref b28, .ref (V27.2.1 60)]) (by rw [e31]) ?_
  refine j_putF (pc := 24) (ft := (.array .int)) C tyX1 tyX1_ok nmX1 60 3 hX rfl hk32 hd33 hn34 rfl (by decide) inw_X1 wd_224 rfl (by decide +kernel) rfl rfl dX1_init_24 ?_
  refine gJ.nmV (fun V35 eV35 => ?_)
  have h := h V35 eV35
  refine j_aload_n (pc := 27) C dX1_init_27 rfl 0 rfl ?_
  refine j_bipush (pc := 28) (v := 6) C dX1_init_28 (by decide) ?_
  obtain ⟨N37, g38, g39, g40, g41, g42, g43, h⟩ := h
  refine j_newI (pc := 30) C 62 g38 g39 g40 g41 g42 g43 wd_121 dX1_init_30 (fun b45 => ?_)
  have hcs : _ ∧ _ := ⟨g42, g43⟩
  refine gJ.nmV (fun V44 eV44 => ?_)
  have h := h b45 V44 eV44
  refine gJ.nmI (fun I46 eI46 => ?_)
  have h := h I46 eI46
  obtain ⟨sl47, hk49, e48, hd50, hn51, h⟩ := h
  refine gJ.eqst (st' := [.ref b45, .ref (V44.2.1 60)]) (by rw [e48]) ?_
  refine j_putF (pc := 32) (ft := (.array .int)) C tyX1 tyX1_ok nmX1 60 4 hX rfl hk49 hd50 hn51 rfl (by decide) inw_X1 wd_226 rfl (by decide +kernel) rfl rfl dX1_init_32 ?_
  refine gJ.nmV (fun V52 eV52 => ?_)
  have h := h V52 eV52
  refine j_aload_n (pc := 35) C dX1_init_35 rfl 0 rfl ?_
  refine j_iconst (pc := 36) (v := 0) C dX1_init_36 (by decide) ?_
  obtain ⟨sl53, hk55, e54, hd56, hn57, h⟩ := h
  refine gJ.eqst (st' := [.int (0 : Int32), .ref (V52.2.1 60)]) (by rw [e54]) ?_
  refine j_putI (pc := 37) (ft := .int) C tyX1 tyX1_ok nmX1 60 5 hk55 hd56 hn57 rfl (by decide) inw_X1 wd_227 rfl (by decide +kernel) rfl rfl dX1_init_37 ?_
  refine gJ.nmI (fun I58 eI58 => ?_)
  have h := h I58 eI58
  refine j_aload_n (pc := 40) C dX1_init_40 rfl 0 rfl ?_
  refine j_iconst (pc := 41) (v := 0) C dX1_init_41 (by decide) ?_
  obtain ⟨sl59, hk61, e60, hd62, hn63, h⟩ := h
  refine gJ.eqst (st' := [.int (0 : Int32), .ref (V52.2.1 60)]) (by rw [e60]) ?_
  refine j_putI (pc := 42) (ft := .boolean) C tyX1 tyX1_ok nmX1 60 6 hk61 hd62 hn63 rfl (by decide) inw_X1 wd_228 rfl (by decide +kernel) rfl rfl dX1_init_42 ?_
  refine gJ.nmI (fun I64 eI64 => ?_)
  have h := h I64 eI64
  refine j_aload_n (pc := 45) C dX1_init_45 rfl 0 rfl ?_
  refine j_iconst (pc := 46) (v := (-1)) C dX1_init_46 (by decide) ?_
  obtain ⟨sl65, hk67, e66, hd68, hn69, h⟩ := h
  refine gJ.eqst (st' := [.int (-1 : Int32), .ref (V52.2.1 60)]) (by rw [e66]) ?_
  refine j_putI (pc := 47) (ft := .int) C tyX1 tyX1_ok nmX1 60 7 hk67 hd68 hn69 rfl (by decide) inw_X1 wd_229 rfl (by decide +kernel) rfl rfl dX1_init_47 ?_
  refine gJ.nmI (fun I70 eI70 => ?_)
  have h := h I70 eI70
  refine j_aload_n (pc := 50) C dX1_init_50 rfl 0 rfl ?_
  refine j_iconst (pc := 51) (v := 0) C dX1_init_51 (by decide) ?_
  obtain ⟨sl71, hk73, e72, hd74, hn75, h⟩ := h
  refine gJ.eqst (st' := [.int (0 : Int32), .ref (V52.2.1 60)]) (by rw [e72]) ?_
  refine j_putI (pc := 52) (ft := .int) C tyX1 tyX1_ok nmX1 60 8 hk73 hd74 hn75 rfl (by decide) inw_X1 wd_230 rfl (by decide +kernel) rfl rfl dX1_init_52 ?_
  refine gJ.nmI (fun I76 eI76 => ?_)
  have h := h I76 eI76
  exact j_vret (pc := 55) C hR hcs.1 hcs.2 dX1_init_55 ⟨rfl, h⟩
/-! TileRules$CoverSearch.<init>(LTileRules$Jigsaw;)V -/
abbrev rA_X2_init (mc ms : Nat) : Room := { frames := 1, cells := mc, slots := ms, locals := 40 }
theorem ok_X2_init : gOk yX2_init cX2_init 2 none 1 := ⟨wd_613, wd_81, by decide +kernel⟩
set_option maxRecDepth 100000 in
def wA_X2_init (mc ms : Nat) (b0 : Nat) (b1 : Nat) (V : gV) (I : gI) (J : gL) (Po : gV → gI → gL → Prop) : Prop :=
  ∃ N2 : Nat, 95 ∉ V.1 ∧ ¬ (16384 : Int32) < 0 ∧ ((16384 : Int32)).toNatClampNeg = N2 ∧ N2 * 8 ≤ 536870912 ∧ 0 + 1 ≤ mc ∧ 0 + N2 ≤ ms ∧ ∀ (b10 : Nat) (V9 : gV), V9 = gadd V 95 b10 (.inr (1, N2, gno)) → ∀ J11 : gL, J11 = guc J 95 (fun _ => 0) → ∃ sl12 : List (Nat ⊕ Option Nat), 94 ∈ V9.1 ∧ V9.2.1 94 = b0 ∧ V9.2.2 94 = .inl (2, sl12) ∧ 1 < sl12.length ∧ ∀ V17 : gV, V17 = gde V9 94 (.inl (2, sl12.set 1 (.inr (some b10)))) → ∃ N19 : Nat, 96 ∉ V17.1 ∧ ¬ (16384 : Int32) < 0 ∧ ((16384 : Int32)).toNatClampNeg = N19 ∧ N19 * 8 ≤ 536870912 ∧ 0 + 1 + 1 ≤ mc ∧ 0 + N2 + N19 ≤ ms ∧ ∀ (b27 : Nat) (V26 : gV), V26 = gadd V17 96 b27 (.inr (1, N19, gno)) → ∀ J28 : gL, J28 = guc J11 96 (fun _ => 0) → ∃ sl29 : List (Nat ⊕ Option Nat), 94 ∈ V26.1 ∧ V26.2.1 94 = b0 ∧ V26.2.2 94 = .inl (2, sl29) ∧ 2 < sl29.length ∧ ∀ V34 : gV, V34 = gde V26 94 (.inl (2, sl29.set 2 (.inr (some b27)))) → ∃ N36 : Nat, 97 ∉ V34.1 ∧ ¬ (64 : Int32) < 0 ∧ ((64 : Int32)).toNatClampNeg = N36 ∧ N36 * 4 ≤ 536870912 ∧ 0 + 1 + 1 + 1 ≤ mc ∧ 0 + N2 + N19 + N36 ≤ ms ∧ ∀ (b44 : Nat) (V43 : gV), V43 = gadd V34 97 b44 (.inr (0, N36, gno)) → ∀ I45 : gI, I45 = guc I 97 (fun _ => 0) → ∃ sl46 : List (Nat ⊕ Option Nat), 94 ∈ V43.1 ∧ V43.2.1 94 = b0 ∧ V43.2.2 94 = .inl (2, sl46) ∧ 3 < sl46.length ∧ ∀ V51 : gV, V51 = gde V43 94 (.inl (2, sl46.set 3 (.inr (some b44)))) → ∃ N53 : Nat, 98 ∉ V51.1 ∧ ¬ (64 : Int32) < 0 ∧ ((64 : Int32)).toNatClampNeg = N53 ∧ N53 * 4 ≤ 536870912 ∧ 0 + 1 + 1 + 1 + 1 ≤ mc ∧ 0 + N2 + N19 + N36 + N53 ≤ ms ∧ ∀ (b61 : Nat) (V60 : gV), V60 = gadd V51 98 b61 (.inr (0, N53, gno)) → ∀ I62 : gI, I62 = guc I45 98 (fun _ => 0) → ∃ sl63 : List (Nat ⊕ Option Nat), 94 ∈ V60.1 ∧ V60.2.1 94 = b0 ∧ V60.2.2 94 = .inl (2, sl63) ∧ 4 < sl63.length ∧ ∀ V68 : gV, V68 = gde V60 94 (.inl (2, sl63.set 4 (.inr (some b61)))) → ∃ sl69 : List (Nat ⊕ Option Nat), 94 ∈ V68.1 ∧ V68.2.1 94 = b0 ∧ V68.2.2 94 = .inl (2, sl69) ∧ sl69[5]? = some (.inl 0) ∧ ∀ I74 : gI, I74 = gup I62 94 5 (0 : Int32) → ∃ sl75 : List (Nat ⊕ Option Nat), 94 ∈ V68.1 ∧ V68.2.1 94 = b0 ∧ V68.2.2 94 = .inl (2, sl75) ∧ sl75[6]? = some (.inl 0) ∧ ∀ I80 : gI, I80 = gup I74 94 6 (0 : Int32) → ∃ sl81 : List (Nat ⊕ Option Nat), 94 ∈ V68.1 ∧ V68.2.1 94 = b0 ∧ V68.2.2 94 = .inl (2, sl81) ∧ sl81[7]? = some (.inl 0) ∧ ∀ I86 : gI, I86 = gup I80 94 7 (0 : Int32) → ∃ sl87 : List (Nat ⊕ Option Nat), 94 ∈ V68.1 ∧ V68.2.1 94 = b0 ∧ V68.2.2 94 = .inl (2, sl87) ∧ sl87[8]? = some (.inl 0) ∧ ∀ I92 : gI, I92 = gup I86 94 8 (0 : Int32) → ∃ sl93 : List (Nat ⊕ Option Nat), 94 ∈ V68.1 ∧ V68.2.1 94 = b0 ∧ V68.2.2 94 = .inl (2, sl93) ∧ sl93[9]? = some (.inl 0) ∧ ∀ I98 : gI, I98 = gup I92 94 9 (0 : Int32) → ∃ sl99 : List (Nat ⊕ Option Nat), 94 ∈ V68.1 ∧ V68.2.1 94 = b0 ∧ V68.2.2 94 = .inl (2, sl99) ∧ 0 < sl99.length ∧ ∀ V104 : gV, V104 = gde V68 94 (.inl (2, sl99.set 0 (.inr (some b1)))) → Po V104 I98 J28
set_option maxRecDepth 100000 in
set_option maxHeartbeats 4000000 in
theorem n_X2_init {l : Launch} {D : va_G} {cy : Nat → ClassId} {mc ms : Nat} {b0 : Nat} {b1 : Nat} {V : gV} {I : gI} {J : gL} {Po : gV → gI → gL → Prop} (h : wA_X2_init mc ms b0 b1 V I J Po) : gMet l D cy yX2_init cX2_init 2 none (rA_X2_init mc ms) V [.ref b0, .ref b1] I J (gQv Po) := by
  refine gMet.of (by decide) (Nat.le_of_ble_eq_true rfl) (fun X hX C hR => ?_)
  have C : gC X cX2_init RX2 none 2 (rA_X2_init mc ms) := C
  have hcs : 0 ≤ mc ∧ 0 ≤ ms := ⟨Nat.zero_le _, Nat.zero_le _⟩
  show gJ X V 0 0 0 [(0, .ref b0), (1, .ref b1)] [] I J
  unfold wA_X2_init at h
  refine j_aload_n (pc := 0) C dX2_init_0 rfl 0 rfl ?_
  refine j_objInit (pc := 1) (st := []) C wd_614 wd_91 wd_92 (Nat.le_of_ble_eq_true rfl) (Nat.le_of_ble_eq_true rfl) dX2_init_1 ?_
  refine j_aload_n (pc := 4) C dX2_init_4 rfl 0 rfl ?_
  refine j_sipush (pc := 5) (v := 16384) C dX2_init_5 (by decide) ?_
  obtain ⟨N2, g3, g4, g5, g6, g7, g8, h⟩ := h
  refine j_newL (pc := 8) C 95 g3 g4 g5 g6 g7 g8 wd_211 dX2_init_8 (fun b10 => ?_)
  have hcs : _ ∧ _ := ⟨g7, g8⟩
  refine gJ.nmV (fun V9 eV9 => ?_)
  have h := h b10 V9 eV9
  refine gJ.nmJ (fun J11 eJ11 => ?_)
  have h := h J11 eJ11
  obtain ⟨sl12, hk14, e13, hd15, hn16, h⟩ := h
  refine gJ.eqst (st' := [.ref b10, .ref (V9.2.1 94)]) (by rw [e13]) ?_
  refine j_putF (pc := 10) (ft := (.array .long)) C tyX2 tyX2_ok nmX2 94 1 hX rfl hk14 hd15 hn16 rfl (by decide) inw_X2 wd_616 rfl (by decide +kernel) rfl rfl dX2_init_10 ?_
  refine gJ.nmV (fun V17 eV17 => ?_)
  have h := h V17 eV17
  refine j_aload_n (pc := 13) C dX2_init_13 rfl 0 rfl ?_
  refine j_sipush (pc := 14) (v := 16384) C dX2_init_14 (by decide) ?_
  obtain ⟨N19, g20, g21, g22, g23, g24, g25, h⟩ := h
  refine j_newL (pc := 17) C 96 g20 g21 g22 g23 g24 g25 wd_211 dX2_init_17 (fun b27 => ?_)
  have hcs : _ ∧ _ := ⟨g24, g25⟩
  refine gJ.nmV (fun V26 eV26 => ?_)
  have h := h b27 V26 eV26
  refine gJ.nmJ (fun J28 eJ28 => ?_)
  have h := h J28 eJ28
  obtain ⟨sl29, hk31, e30, hd32, hn33, h⟩ := h
  refine gJ.eqst (st' := [.ref b27, .ref (V26.2.1 94)]) (by rw [e30]) ?_
  refine j_putF (pc := 19) (ft := (.array .long)) C tyX2 tyX2_ok nmX2 94 2 hX rfl hk31 hd32 hn33 rfl (by decide) inw_X2 wd_617 rfl (by decide +kernel) rfl rfl dX2_init_19 ?_
  refine gJ.nmV (fun V34 eV34 => ?_)
  have h := h V34 eV34
  refine j_aload_n (pc := 22) C dX2_init_22 rfl 0 rfl ?_
  refine j_bipush (pc := 23) (v := 64) C dX2_init_23 (by decide) ?_
  obtain ⟨N36, g37, g38, g39, g40, g41, g42, h⟩ := h
  refine j_newI (pc := 25) C 97 g37 g38 g39 g40 g41 g42 wd_121 dX2_init_25 (fun b44 => ?_)
  have hcs : _ ∧ _ := ⟨g41, g42⟩
  refine gJ.nmV (fun V43 eV43 => ?_)
  have h := h b44 V43 eV43
  refine gJ.nmI (fun I45 eI45 => ?_)
  have h := h I45 eI45
  obtain ⟨sl46, hk48, e47, hd49, hn50, h⟩ := h
  refine gJ.eqst (st' := [.ref b44, .ref (V43.2.1 94)]) (by rw [e47]) ?_
  refine j_putF (pc := 27) (ft := (.array .int)) C tyX2 tyX2_ok nmX2 94 3 hX rfl hk48 hd49 hn50 rfl (by decide) inw_X2 wd_618 rfl (by decide +kernel) rfl rfl dX2_init_27 ?_
  refine gJ.nmV (fun V51 eV51 => ?_)
  have h := h V51 eV51
  refine j_aload_n (pc := 30) C dX2_init_30 rfl 0 rfl ?_
  refine j_bipush (pc := 31) (v := 64) C dX2_init_31 (by decide) ?_
  obtain ⟨N53, g54, g55, g56, g57, g58, g59, h⟩ := h
  refine j_newI (pc := 33) C 98 g54 g55 g56 g57 g58 g59 wd_121 dX2_init_33 (fun b61 => ?_)
  have hcs : _ ∧ _ := ⟨g58, g59⟩
  refine gJ.nmV (fun V60 eV60 => ?_)
  have h := h b61 V60 eV60
  refine gJ.nmI (fun I62 eI62 => ?_)
  have h := h I62 eI62
  obtain ⟨sl63, hk65, e64, hd66, hn67, h⟩ := h
  refine gJ.eqst (st' := [.ref b61, .ref (V60.2.1 94)]) (by rw [e64]) ?_
  refine j_putF (pc := 35) (ft := (.array .int)) C tyX2 tyX2_ok nmX2 94 4 hX rfl hk65 hd66 hn67 rfl (by decide) inw_X2 wd_619 rfl (by decide +kernel) rfl rfl dX2_init_35 ?_
  refine gJ.nmV (fun V68 eV68 => ?_)
  have h := h V68 eV68
  refine j_aload_n (pc := 38) C dX2_init_38 rfl 0 rfl ?_
  refine j_iconst (pc := 39) (v := 0) C dX2_init_39 (by decide) ?_
  obtain ⟨sl69, hk71, e70, hd72, hn73, h⟩ := h
  refine gJ.eqst (st' := [.int (0 : Int32), .ref (V68.2.1 94)]) (by rw [e70]) ?_
  refine j_putI (pc := 40) (ft := .int) C tyX2 tyX2_ok nmX2 94 5 hk71 hd72 hn73 rfl (by decide) inw_X2 wd_620 rfl (by decide +kernel) rfl rfl dX2_init_40 ?_
  refine gJ.nmI (fun I74 eI74 => ?_)
  have h := h I74 eI74
  refine j_aload_n (pc := 43) C dX2_init_43 rfl 0 rfl ?_
  refine j_iconst (pc := 44) (v := 0) C dX2_init_44 (by decide) ?_
  obtain ⟨sl75, hk77, e76, hd78, hn79, h⟩ := h
  refine gJ.eqst (st' := [.int (0 : Int32), .ref (V68.2.1 94)]) (by rw [e76]) ?_
  refine j_putI (pc := 45) (ft := .int) C tyX2 tyX2_ok nmX2 94 6 hk77 hd78 hn79 rfl (by decide) inw_X2 wd_621 rfl (by decide +kernel) rfl rfl dX2_init_45 ?_
  refine gJ.nmI (fun I80 eI80 => ?_)
  have h := h I80 eI80
  refine j_aload_n (pc := 48) C dX2_init_48 rfl 0 rfl ?_
  refine j_iconst (pc := 49) (v := 0) C dX2_init_49 (by decide) ?_
  obtain ⟨sl81, hk83, e82, hd84, hn85, h⟩ := h
  refine gJ.eqst (st' := [.int (0 : Int32), .ref (V68.2.1 94)]) (by rw [e82]) ?_
  refine j_putI (pc := 50) (ft := .int) C tyX2 tyX2_ok nmX2 94 7 hk83 hd84 hn85 rfl (by decide) inw_X2 wd_622 rfl (by decide +kernel) rfl rfl dX2_init_50 ?_
  refine gJ.nmI (fun I86 eI86 => ?_)
  have h := h I86 eI86
  refine j_aload_n (pc := 53) C dX2_init_53 rfl 0 rfl ?_
  refine j_iconst (pc := 54) (v := 0) C dX2_init_54 (by decide) ?_
  obtain ⟨sl87, hk89, e88, hd90, hn91, h⟩ := h
  refine gJ.eqst (st' := [.int (0 : Int32), .ref (V68.2.1 94)]) (by rw [e88]) ?_
  refine j_putI (pc := 55) (ft := .int) C tyX2 tyX2_ok nmX2 94 8 hk89 hd90 hn91 rfl (by decide) inw_X2 wd_623 rfl (by decide +kernel) rfl rfl dX2_init_55 ?_
  refine gJ.nmI (fun I92 eI92 => ?_)
  have h := h I92 eI92
  refine j_aload_n (pc := 58) C dX2_init_58 rfl 0 rfl ?_
  refine j_iconst (pc := 59) (v := 0) C dX2_init_59 (by decide) ?_
  obtain ⟨sl93, hk95, e94, hd96, hn97, h⟩ := h
  refine gJ.eqst (st' := [.int (0 : Int32), .ref (V68.2.1 94)]) (by rw [e94]) ?_
  refine j_putI (pc := 60) (ft := .int) C tyX2 tyX2_ok nmX2 94 9 hk95 hd96 hn97 rfl (by decide) inw_X2 wd_625 rfl (by decide +kernel) rfl rfl dX2_init_60 ?_
  refine gJ.nmI (fun I98 eI98 => ?_)
  have h := h I98 eI98
  refine j_aload_n (pc := 63) C dX2_init_63 rfl 0 rfl ?_
  refine j_aload_n (pc := 64) C dX2_init_64 rfl 1 rfl ?_
  obtain ⟨sl99, hk101, e100, hd102, hn103, h⟩ := h
  refine gJ.eqst (st' := [.ref b1, .ref (V68.2.1 94)]) (by rw [e100]) ?_
  refine j_putF (pc := 65) (ft := (.object "TileRules$Jigsaw")) C tyX2 tyX2_ok nmX2 94 0 hX rfl hk101 hd102 hn103 rfl (by decide) inw_X2 wd_615 rfl (by decide +kernel) rfl rfl dX2_init_65 ?_
  refine gJ.nmV (fun V104 eV104 => ?_)
  have h := h V104 eV104
  exact j_vret (pc := 68) C hR hcs.1 hcs.2 dX2_init_68 ⟨rfl, h⟩
/-! TileRules$Growth.<init>(LTileRules$Blocks;)V -/
abbrev rA_X3_init (mc ms : Nat) : Room := { frames := 1, cells := mc, slots := ms, locals := 40 }
theorem ok_X3_init : gOk yX3_init cX3_init 2 none 1 := ⟨wd_777, wd_83, by decide +kernel⟩
set_option maxRecDepth 100000 in
def wA_X3_init (mc ms : Nat) (b0 : Nat) (b1 : Nat) (V : gV) (I : gI) (J : gL) (Po : gV → gI → gL → Prop) : Prop :=
  ∃ sl1 : List (Nat ⊕ Option Nat), 99 ∈ V.1 ∧ V.2.1 99 = b0 ∧ V.2.2 99 = .inl (3, sl1) ∧ sl1[1]? = some (.inl 0) ∧ ∀ I6 : gI, I6 = gup I 99 1 (0 : Int32) → ∃ sl7 : List (Nat ⊕ Option Nat), 99 ∈ V.1 ∧ V.2.1 99 = b0 ∧ V.2.2 99 = .inl (3, sl7) ∧ sl7[2]? = some (.inl 1) ∧ ∀ J12 : gL, J12 = gup J 99 2 (0 : Int64) → ∃ sl13 : List (Nat ⊕ Option Nat), 99 ∈ V.1 ∧ V.2.1 99 = b0 ∧ V.2.2 99 = .inl (3, sl13) ∧ sl13[3]? = some (.inl 1) ∧ ∀ J18 : gL, J18 = gup J12 99 3 (0 : Int64) → ∃ N20 : Nat, 102 ∉ V.1 ∧ ¬ (21 : Int32) < 0 ∧ ((21 : Int32)).toNatClampNeg = N20 ∧ N20 * 8 ≤ 536870912 ∧ 0 + 1 ≤ mc ∧ 0 + N20 ≤ ms ∧ ∀ (b28 : Nat) (V27 : gV), V27 = gadd V 102 b28 (.inr (1, N20, gno)) → ∀ J29 : gL, J29 = guc J18 102 (fun _ => 0) → ∃ sl30 : List (Nat ⊕ Option Nat), 99 ∈ V27.1 ∧ V27.2.1 99 = b0 ∧ V27.2.2 99 = .inl (3, sl30) ∧ 4 < sl30.length ∧ ∀ V35 : gV, V35 = gde V27 99 (.inl (3, sl30.set 4 (.inr (some b28)))) → ∃ N37 : Nat, 103 ∉ V35.1 ∧ ¬ (21 : Int32) < 0 ∧ ((21 : Int32)).toNatClampNeg = N37 ∧ N37 * 8 ≤ 536870912 ∧ 0 + 1 + 1 ≤ mc ∧ 0 + N20 + N37 ≤ ms ∧ ∀ (b45 : Nat) (V44 : gV), V44 = gadd V35 103 b45 (.inr (1, N37, gno)) → ∀ J46 : gL, J46 = guc J29 103 (fun _ => 0) → ∃ sl47 : List (Nat ⊕ Option Nat), 99 ∈ V44.1 ∧ V44.2.1 99 = b0 ∧ V44.2.2 99 = .inl (3, sl47) ∧ 5 < sl47.length ∧ ∀ V52 : gV, V52 = gde V44 99 (.inl (3, sl47.set 5 (.inr (some b45)))) → ∃ sl53 : List (Nat ⊕ Option Nat), 99 ∈ V52.1 ∧ V52.2.1 99 = b0 ∧ V52.2.2 99 = .inl (3, sl53) ∧ 0 < sl53.length ∧ ∀ V58 : gV, V58 = gde V52 99 (.inl (3, sl53.set 0 (.inr (some b1)))) → Po V58 I6 J46
set_option maxRecDepth 100000 in
set_option maxHeartbeats 4000000 in
theorem n_X3_init {l : Launch} {D : va_G} {cy : Nat → ClassId} {mc ms : Nat} {b0 : Nat} {b1 : Nat} {V : gV} {I : gI} {J : gL} {Po : gV → gI → gL → Prop} (h : wA_X3_init mc ms b0 b1 V I J Po) : gMet l D cy yX3_init cX3_init 2 none (rA_X3_init mc ms) V [.ref b0, .ref b1] I J (gQv Po) := by
  refine gMet.of (by decide) (Nat.le_of_ble_eq_true rfl) (fun X hX C hR => ?_)
  have C : gC X cX3_init RX3 none 2 (rA_X3_init mc ms) := C
  have hcs : 0 ≤ mc ∧ 0 ≤ ms := ⟨Nat.zero_le _, Nat.zero_le _⟩
  show gJ X V 0 0 0 [(0, .ref b0), (1, .ref b1)] [] I J
  unfold wA_X3_init at h
  refine j_aload_n (pc := 0) C dX3_init_0 rfl 0 rfl ?_
  refine j_objInit (pc := 1) (st := []) C wd_778 wd_91 wd_92 (Nat.le_of_ble_eq_true rfl) (Nat.le_of_ble_eq_true rfl) dX3_init_1 ?_
  refine j_aload_n (pc := 4) C dX3_init_4 rfl 0 rfl ?_
  refine j_iconst (pc := 5) (v := 0) C dX3_init_5 (by decide) ?_
  obtain ⟨sl1, hk3, e2, hd4, hn5, h⟩ := h
  refine gJ.eqst (st' := [.int (0 : Int32), .ref (V.2.1 99)]) (by rw [e2]) ?_
  refine j_putI (pc := 6) (ft := .int) C tyX3 tyX3_ok nmX3 99 1 hk3 hd4 hn5 rfl (by decide) inw_X3 wd_780 rfl (by decide +kernel) rfl rfl dX3_init_6 ?_
  refine gJ.nmI (fun I6 eI6 => ?_)
  have h := h I6 eI6
  refine j_aload_n (pc := 9) C dX3_init_9 rfl 0 rfl ?_
  refine j_lconst (pc := 10) (v := 0) C dX3_init_10 (by decide) ?_
  obtain ⟨sl7, hk9, e8, hd10, hn11, h⟩ := h
  refine gJ.eqst (st' := [.long (0 : Int64), .ref (V.2.1 99)]) (by rw [e8]) ?_
  refine j_putL (pc := 11) (ft := .long) C tyX3 tyX3_ok nmX3 99 2 hk9 hd10 hn11 rfl (by decide) inw_X3 wd_781 rfl (by decide +kernel) rfl rfl dX3_init_11 ?_
  refine gJ.nmJ (fun J12 eJ12 => ?_)
  have h := h J12 eJ12
  refine j_aload_n (pc := 14) C dX3_init_14 rfl 0 rfl ?_
  refine j_lconst (pc := 15) (v := 0) C dX3_init_15 (by decide) ?_
  obtain ⟨sl13, hk15, e14, hd16, hn17, h⟩ := h
  refine gJ.eqst (st' := [.long (0 : Int64), .ref (V.2.1 99)]) (by rw [e14]) ?_
  refine j_putL (pc := 16) (ft := .long) C tyX3 tyX3_ok nmX3 99 3 hk15 hd16 hn17 rfl (by decide) inw_X3 wd_782 rfl (by decide +kernel) rfl rfl dX3_init_16 ?_
  refine gJ.nmJ (fun J18 eJ18 => ?_)
  have h := h J18 eJ18
  refine j_aload_n (pc := 19) C dX3_init_19 rfl 0 rfl ?_
  refine j_bipush (pc := 20) (v := 21) C dX3_init_20 (by decide) ?_
  obtain ⟨N20, g21, g22, g23, g24, g25, g26, h⟩ := h
  refine j_newL (pc := 22) C 102 g21 g22 g23 g24 g25 g26 wd_211 dX3_init_22 (fun b28 => ?_)
  have hcs : _ ∧ _ := ⟨g25, g26⟩
  refine gJ.nmV (fun V27 eV27 => ?_)
  have h := h b28 V27 eV27
  refine gJ.nmJ (fun J29 eJ29 => ?_)
  have h := h J29 eJ29
  obtain ⟨sl30, hk32, e31, hd33, hn34, h⟩ := h
  refine gJ.eqst (st' := [.ref b28, .ref (V27.2.1 99)]) (by rw [e31]) ?_
  refine j_putF (pc := 24) (ft := (.array .long)) C tyX3 tyX3_ok nmX3 99 4 hX rfl hk32 hd33 hn34 rfl (by decide) inw_X3 wd_783 rfl (by decide +kernel) rfl rfl dX3_init_24 ?_
  refine gJ.nmV (fun V35 eV35 => ?_)
  have h := h V35 eV35
  refine j_aload_n (pc := 27) C dX3_init_27 rfl 0 rfl ?_
  refine j_bipush (pc := 28) (v := 21) C dX3_init_28 (by decide) ?_
  obtain ⟨N37, g38, g39, g40, g41, g42, g43, h⟩ := h
  refine j_newL (pc := 30) C 103 g38 g39 g40 g41 g42 g43 wd_211 dX3_init_30 (fun b45 => ?_)
  have hcs : _ ∧ _ := ⟨g42, g43⟩
  refine gJ.nmV (fun V44 eV44 => ?_)
  have h := h b45 V44 eV44
  refine gJ.nmJ (fun J46 eJ46 => ?_)
  have h := h J46 eJ46
  obtain ⟨sl47, hk49, e48, hd50, hn51, h⟩ := h
  refine gJ.eqst (st' := [.ref b45, .ref (V44.2.1 99)]) (by rw [e48]) ?_
  refine j_putF (pc := 32) (ft := (.array .long)) C tyX3 tyX3_ok nmX3 99 5 hX rfl hk49 hd50 hn51 rfl (by decide) inw_X3 wd_784 rfl (by decide +kernel) rfl rfl dX3_init_32 ?_
  refine gJ.nmV (fun V52 eV52 => ?_)
  have h := h V52 eV52
  refine j_aload_n (pc := 35) C dX3_init_35 rfl 0 rfl ?_
  refine j_aload_n (pc := 36) C dX3_init_36 rfl 1 rfl ?_
  obtain ⟨sl53, hk55, e54, hd56, hn57, h⟩ := h
  refine gJ.eqst (st' := [.ref b1, .ref (V52.2.1 99)]) (by rw [e54]) ?_
  refine j_putF (pc := 37) (ft := (.object "TileRules$Blocks")) C tyX3 tyX3_ok nmX3 99 0 hX rfl hk55 hd56 hn57 rfl (by decide) inw_X3 wd_779 rfl (by decide +kernel) rfl rfl dX3_init_37 ?_
  refine gJ.nmV (fun V58 eV58 => ?_)
  have h := h V58 eV58
  exact j_vret (pc := 40) C hR hcs.1 hcs.2 dX3_init_40 ⟨rfl, h⟩
/-! TileRules$Jigsaw.<init>()V -/
abbrev rA_X4_init (mc ms : Nat) : Room := { frames := 1, cells := mc, slots := ms, locals := 40 }
theorem ok_X4_init : gOk yX4_init cX4_init 1 none 0 := ⟨wd_126, wd_71, by decide +kernel⟩
set_option maxRecDepth 100000 in
def wA_X4_init (mc ms : Nat) (b0 : Nat) (V : gV) (I : gI) (J : gL) (Po : gV → gI → gL → Prop) : Prop :=
  ∃ sl1 : List (Nat ⊕ Option Nat), 20 ∈ V.1 ∧ V.2.1 20 = b0 ∧ V.2.2 20 = .inl (4, sl1) ∧ sl1[0]? = some (.inl 0) ∧ ∀ I6 : gI, I6 = gup I 20 0 (0 : Int32) → ∃ sl7 : List (Nat ⊕ Option Nat), 20 ∈ V.1 ∧ V.2.1 20 = b0 ∧ V.2.2 20 = .inl (4, sl7) ∧ sl7[1]? = some (.inl 0) ∧ ∀ I12 : gI, I12 = gup I6 20 1 (1 : Int32) → ∃ sl13 : List (Nat ⊕ Option Nat), 20 ∈ V.1 ∧ V.2.1 20 = b0 ∧ V.2.2 20 = .inl (4, sl13) ∧ sl13[2]? = some (.inl 0) ∧ ∀ I18 : gI, I18 = gup I12 20 2 (1 : Int32) → ∃ sl19 : List (Nat ⊕ Option Nat), 20 ∈ V.1 ∧ V.2.1 20 = b0 ∧ V.2.2 20 = .inl (4, sl19) ∧ sl19[3]? = some (.inl 0) ∧ ∀ I24 : gI, I24 = gup I18 20 3 (0 : Int32) → ∃ sl25 : List (Nat ⊕ Option Nat), 20 ∈ V.1 ∧ V.2.1 20 = b0 ∧ V.2.2 20 = .inl (4, sl25) ∧ sl25[4]? = some (.inl 0) ∧ ∀ I30 : gI, I30 = gup I24 20 4 (1 : Int32) → ∃ sl31 : List (Nat ⊕ Option Nat), 20 ∈ V.1 ∧ V.2.1 20 = b0 ∧ V.2.2 20 = .inl (4, sl31) ∧ sl31[5]? = some (.inl 0) ∧ ∀ I36 : gI, I36 = gup I30 20 5 (1 : Int32) → ∃ sl37 : List (Nat ⊕ Option Nat), 20 ∈ V.1 ∧ V.2.1 20 = b0 ∧ V.2.2 20 = .inl (4, sl37) ∧ sl37[6]? = some (.inl 0) ∧ ∀ I42 : gI, I42 = gup I36 20 6 (1 : Int32) → ∃ sl43 : List (Nat ⊕ Option Nat), 20 ∈ V.1 ∧ V.2.1 20 = b0 ∧ V.2.2 20 = .inl (4, sl43) ∧ sl43[7]? = some (.inl 0) ∧ ∀ I48 : gI, I48 = gup I42 20 7 (0 : Int32) → ∃ N50 : Nat, 21 ∉ V.1 ∧ ¬ (6 : Int32) < 0 ∧ ((6 : Int32)).toNatClampNeg = N50 ∧ N50 * 4 ≤ 536870912 ∧ 0 + 1 ≤ mc ∧ 0 + N50 ≤ ms ∧ ∀ (b58 : Nat) (V57 : gV), V57 = gadd V 21 b58 (.inr (0, N50, gno)) → ∀ I59 : gI, I59 = guc I48 21 (fun _ => 0) → ∃ sl60 : List (Nat ⊕ Option Nat), 20 ∈ V57.1 ∧ V57.2.1 20 = b0 ∧ V57.2.2 20 = .inl (4, sl60) ∧ 8 < sl60.length ∧ ∀ V65 : gV, V65 = gde V57 20 (.inl (4, sl60.set 8 (.inr (some b58)))) → (∀ z, z < 7 → 22 + z ∉ V65.1) ∧ 0 + 1 + 7 ≤ mc ∧ 0 + N50 + 966 ≤ ms ∧ ∀ (b69 : Nat) (r70 : Nat → Nat) (V71 : gV), V71 = gmul V65 22 b69 r70 160 → ∀ I72 : gI, I72 = gmz I59 22 → ∃ sl73 : List (Nat ⊕ Option Nat), 20 ∈ V71.1 ∧ V71.2.1 20 = b0 ∧ V71.2.2 20 = .inl (4, sl73) ∧ 9 < sl73.length ∧ ∀ V78 : gV, V78 = gde V71 20 (.inl (4, sl73.set 9 (.inr (some b69)))) → (∀ z, z < 7 → 29 + z ∉ V78.1) ∧ 0 + 1 + 7 + 7 ≤ mc ∧ 0 + N50 + 966 + 126 ≤ ms ∧ ∀ (b82 : Nat) (r83 : Nat → Nat) (V84 : gV), V84 = gmul V78 29 b82 r83 20 → ∀ I85 : gI, I85 = gmz I72 29 → ∃ sl86 : List (Nat ⊕ Option Nat), 20 ∈ V84.1 ∧ V84.2.1 20 = b0 ∧ V84.2.2 20 = .inl (4, sl86) ∧ 10 < sl86.length ∧ ∀ V91 : gV, V91 = gde V84 20 (.inl (4, sl86.set 10 (.inr (some b82)))) → ∃ N93 : Nat, 36 ∉ V91.1 ∧ ¬ (5 : Int32) < 0 ∧ ((5 : Int32)).toNatClampNeg = N93 ∧ N93 * 4 ≤ 536870912 ∧ 0 + 1 + 7 + 7 + 1 ≤ mc ∧ 0 + N50 + 966 + 126 + N93 ≤ ms ∧ ∀ (b101 : Nat) (V100 : gV), V100 = gadd V91 36 b101 (.inr (0, N93, gno)) → ∀ I102 : gI, I102 = guc I85 36 (fun _ => 0) → ∃ sl103 : List (Nat ⊕ Option Nat), 20 ∈ V100.1 ∧ V100.2.1 20 = b0 ∧ V100.2.2 20 = .inl (4, sl103) ∧ 11 < sl103.length ∧ ∀ V108 : gV, V108 = gde V100 20 (.inl (4, sl103.set 11 (.inr (some b101)))) → ∃ N110 : Nat, 37 ∉ V108.1 ∧ ¬ (5 : Int32) < 0 ∧ ((5 : Int32)).toNatClampNeg = N110 ∧ N110 * 4 ≤ 536870912 ∧ 0 + 1 + 7 + 7 + 1 + 1 ≤ mc ∧ 0 + N50 + 966 + 126 + N93 + N110 ≤ ms ∧ ∀ (b118 : Nat) (V117 : gV), V117 = gadd V108 37 b118 (.inr (0, N110, gno)) → ∀ I119 : gI, I119 = guc I102 37 (fun _ => 0) → ∃ sl120 : List (Nat ⊕ Option Nat), 20 ∈ V117.1 ∧ V117.2.1 20 = b0 ∧ V117.2.2 20 = .inl (4, sl120) ∧ 12 < sl120.length ∧ ∀ V125 : gV, V125 = gde V117 20 (.inl (4, sl120.set 12 (.inr (some b118)))) → Po V125 I119 J
set_option maxRecDepth 100000 in
set_option maxHeartbeats 4000000 in
theorem n_X4_init {l : Launch} {D : va_G} {cy : Nat → ClassId} {mc ms : Nat} {b0 : Nat} {V : gV} {I : gI} {J : gL} {Po : gV → gI → gL → Prop} (h : wA_X4_init mc ms b0 V I J Po) : gMet l D cy yX4_init cX4_init 1 none (rA_X4_init mc ms) V [.ref b0] I J (gQv Po) := by
  refine gMet.of (by decide) (Nat.le_of_ble_eq_true rfl) (fun X hX C hR => ?_)
  have C : gC X cX4_init RX4 none 1 (rA_X4_init mc ms) := C
  have hcs : 0 ≤ mc ∧ 0 ≤ ms := ⟨Nat.zero_le _, Nat.zero_le _⟩
  show gJ X V 0 0 0 [(0, .ref b0)] [] I J
  unfold wA_X4_init at h
  refine j_aload_n (pc := 0) C dX4_init_0 rfl 0 rfl ?_
  refine j_objInit (pc := 1) (st := []) C wd_127 wd_91 wd_92 (Nat.le_of_ble_eq_true rfl) (Nat.le_of_ble_eq_true rfl) dX4_init_1 ?_
  refine j_aload_n (pc := 4) C dX4_init_4 rfl 0 rfl ?_
  refine j_iconst (pc := 5) (v := 0) C dX4_init_5 (by decide) ?_
  obtain ⟨sl1, hk3, e2, hd4, hn5, h⟩ := h
  refine gJ.eqst (st' := [.int (0 : Int32), .ref (V.2.1 20)]) (by rw [e2]) ?_
  refine j_putI (pc := 6) (ft := .int) C tyX4 tyX4_ok nmX4 20 0 hk3 hd4 hn5 rfl (by decide) inw_X4 wd_130 rfl (by decide +kernel) rfl rfl dX4_init_6 ?_
  refine gJ.nmI (fun I6 eI6 => ?_)
  have h := h I6 eI6
  refine j_aload_n (pc := 9) C dX4_init_9 rfl 0 rfl ?_
  refine j_iconst (pc := 10) (v := 1) C dX4_init_10 (by decide) ?_
  obtain ⟨sl7, hk9, e8, hd10, hn11, h⟩ := h
  refine gJ.eqst (st' := [.int (1 : Int32), .ref (V.2.1 20)]) (by rw [e8]) ?_
  refine j_putI (pc := 11) (ft := .int) C tyX4 tyX4_ok nmX4 20 1 hk9 hd10 hn11 rfl (by decide) inw_X4 wd_133 rfl (by decide +kernel) rfl rfl dX4_init_11 ?_
  refine gJ.nmI (fun I12 eI12 => ?_)
  have h := h I12 eI12
  refine j_aload_n (pc := 14) C dX4_init_14 rfl 0 rfl ?_
  refine j_iconst (pc := 15) (v := 1) C dX4_init_15 (by decide) ?_
  obtain ⟨sl13, hk15, e14, hd16, hn17, h⟩ := h
  refine gJ.eqst (st' := [.int (1 : Int32), .ref (V.2.1 20)]) (by rw [e14]) ?_
  refine j_putI (pc := 16) (ft := .int) C tyX4 tyX4_ok nmX4 20 2 hk15 hd16 hn17 rfl (by decide) inw_X4 wd_136 rfl (by decide +kernel) rfl rfl dX4_init_16 ?_
  refine gJ.nmI (fun I18 eI18 => ?_)
  have h := h I18 eI18
  refine j_aload_n (pc := 19) C dX4_init_19 rfl 0 rfl ?_
  refine j_iconst (pc := 20) (v := 0) C dX4_init_20 (by decide) ?_
  obtain ⟨sl19, hk21, e20, hd22, hn23, h⟩ := h
  refine gJ.eqst (st' := [.int (0 : Int32), .ref (V.2.1 20)]) (by rw [e20]) ?_
  refine j_putI (pc := 21) (ft := .int) C tyX4 tyX4_ok nmX4 20 3 hk21 hd22 hn23 rfl (by decide) inw_X4 wd_139 rfl (by decide +kernel) rfl rfl dX4_init_21 ?_
  refine gJ.nmI (fun I24 eI24 => ?_)
  have h := h I24 eI24
  refine j_aload_n (pc := 24) C dX4_init_24 rfl 0 rfl ?_
  refine j_iconst (pc := 25) (v := 1) C dX4_init_25 (by decide) ?_
  obtain ⟨sl25, hk27, e26, hd28, hn29, h⟩ := h
  refine gJ.eqst (st' := [.int (1 : Int32), .ref (V.2.1 20)]) (by rw [e26]) ?_
  refine j_putI (pc := 26) (ft := .int) C tyX4 tyX4_ok nmX4 20 4 hk27 hd28 hn29 rfl (by decide) inw_X4 wd_141 rfl (by decide +kernel) rfl rfl dX4_init_26 ?_
  refine gJ.nmI (fun I30 eI30 => ?_)
  have h := h I30 eI30
  refine j_aload_n (pc := 29) C dX4_init_29 rfl 0 rfl ?_
  refine j_iconst (pc := 30) (v := 1) C dX4_init_30 (by decide) ?_
  obtain ⟨sl31, hk33, e32, hd34, hn35, h⟩ := h
  refine gJ.eqst (st' := [.int (1 : Int32), .ref (V.2.1 20)]) (by rw [e32]) ?_
  refine j_putI (pc := 31) (ft := .boolean) C tyX4 tyX4_ok nmX4 20 5 hk33 hd34 hn35 rfl (by decide) inw_X4 wd_143 rfl (by decide +kernel) rfl rfl dX4_init_31 ?_
  refine gJ.nmI (fun I36 eI36 => ?_)
  have h := h I36 eI36
  refine j_aload_n (pc := 34) C dX4_init_34 rfl 0 rfl ?_
  refine j_iconst (pc := 35) (v := 1) C dX4_init_35 (by decide) ?_
  obtain ⟨sl37, hk39, e38, hd40, hn41, h⟩ := h
  refine gJ.eqst (st' := [.int (1 : Int32), .ref (V.2.1 20)]) (by rw [e38]) ?_
  refine j_putI (pc := 36) (ft := .boolean) C tyX4 tyX4_ok nmX4 20 6 hk39 hd40 hn41 rfl (by decide) inw_X4 wd_144 rfl (by decide +kernel) rfl rfl dX4_init_36 ?_
  refine gJ.nmI (fun I42 eI42 => ?_)
  have h := h I42 eI42
  refine j_aload_n (pc := 39) C dX4_init_39 rfl 0 rfl ?_
  refine j_iconst (pc := 40) (v := 0) C dX4_init_40 (by decide) ?_
  obtain ⟨sl43, hk45, e44, hd46, hn47, h⟩ := h
  refine gJ.eqst (st' := [.int (0 : Int32), .ref (V.2.1 20)]) (by rw [e44]) ?_
  refine j_putI (pc := 41) (ft := .int) C tyX4 tyX4_ok nmX4 20 7 hk45 hd46 hn47 rfl (by decide) inw_X4 wd_145 rfl (by decide +kernel) rfl rfl dX4_init_41 ?_
  refine gJ.nmI (fun I48 eI48 => ?_)
  have h := h I48 eI48
  refine j_aload_n (pc := 44) C dX4_init_44 rfl 0 rfl ?_
  refine j_bipush (pc := 45) (v := 6) C dX4_init_45 (by decide) ?_
  obtain ⟨N50, g51, g52, g53, g54, g55, g56, h⟩ := h
  refine j_newI (pc := 47) C 21 g51 g52 g53 g54 g55 g56 wd_121 dX4_init_47 (fun b58 => ?_)
  have hcs : _ ∧ _ := ⟨g55, g56⟩
  refine gJ.nmV (fun V57 eV57 => ?_)
  have h := h b58 V57 eV57
  refine gJ.nmI (fun I59 eI59 => ?_)
  have h := h I59 eI59
  obtain ⟨sl60, hk62, e61, hd63, hn64, h⟩ := h
  refine gJ.eqst (st' := [.ref b58, .ref (V57.2.1 20)]) (by rw [e61]) ?_
  refine j_putF (pc := 49) (ft := (.array .int)) C tyX4 tyX4_ok nmX4 20 8 hX rfl hk62 hd63 hn64 rfl (by decide) inw_X4 wd_146 rfl (by decide +kernel) rfl rfl dX4_init_49 ?_
  refine gJ.nmV (fun V65 eV65 => ?_)
  have h := h V65 eV65
  refine j_aload_n (pc := 52) C dX4_init_52 rfl 0 rfl ?_
  refine j_bipush (pc := 53) (v := 6) C dX4_init_53 (by decide) ?_
  refine j_sipush (pc := 55) (v := 160) C dX4_init_55 (by decide) ?_
  obtain ⟨g66, g67, g68, h⟩ := h
  refine j_multi (pc := 58) (K := 160) C 22 g66 (by decide) (by decide) (by decide) g67 g68 wd_128 wd_121 dX4_init_58 (fun b69 r70 => ?_)
  have hcs : _ ∧ _ := ⟨g67, g68⟩
  refine gJ.nmV (fun V71 eV71 => ?_)
  have h := h b69 r70 V71 eV71
  refine gJ.nmI (fun I72 eI72 => ?_)
  have h := h I72 eI72
  obtain ⟨sl73, hk75, e74, hd76, hn77, h⟩ := h
  refine gJ.eqst (st' := [.ref b69, .ref (V71.2.1 20)]) (by rw [e74]) ?_
  refine j_putF (pc := 62) (ft := (.array (.array .int))) C tyX4 tyX4_ok nmX4 20 9 hX rfl hk75 hd76 hn77 rfl (by decide) inw_X4 wd_147 rfl (by decide +kernel) rfl rfl dX4_init_62 ?_
  refine gJ.nmV (fun V78 eV78 => ?_)
  have h := h V78 eV78
  refine j_aload_n (pc := 65) C dX4_init_65 rfl 0 rfl ?_
  refine j_bipush (pc := 66) (v := 6) C dX4_init_66 (by decide) ?_
  refine j_bipush (pc := 68) (v := 20) C dX4_init_68 (by decide) ?_
  obtain ⟨g79, g80, g81, h⟩ := h
  refine j_multi (pc := 70) (K := 20) C 29 g79 (by decide) (by decide) (by decide) g80 g81 wd_128 wd_121 dX4_init_70 (fun b82 r83 => ?_)
  have hcs : _ ∧ _ := ⟨g80, g81⟩
  refine gJ.nmV (fun V84 eV84 => ?_)
  have h := h b82 r83 V84 eV84
  refine gJ.nmI (fun I85 eI85 => ?_)
  have h := h I85 eI85
  obtain ⟨sl86, hk88, e87, hd89, hn90, h⟩ := h
  refine gJ.eqst (st' := [.ref b82, .ref (V84.2.1 20)]) (by rw [e87]) ?_
  refine j_putF (pc := 74) (ft := (.array (.array .int))) C tyX4 tyX4_ok nmX4 20 10 hX rfl hk88 hd89 hn90 rfl (by decide) inw_X4 wd_148 rfl (by decide +kernel) rfl rfl dX4_init_74 ?_
  refine gJ.nmV (fun V91 eV91 => ?_)
  have h := h V91 eV91
  refine j_aload_n (pc := 77) C dX4_init_77 rfl 0 rfl ?_
  refine j_iconst (pc := 78) (v := 5) C dX4_init_78 (by decide) ?_
  obtain ⟨N93, g94, g95, g96, g97, g98, g99, h⟩ := h
  refine j_newI (pc := 79) C 36 g94 g95 g96 g97 g98 g99 wd_121 dX4_init_79 (fun b101 => ?_)
  have hcs : _ ∧ _ := ⟨g98, g99⟩
  refine gJ.nmV (fun V100 eV100 => ?_)
  have h := h b101 V100 eV100
  refine gJ.nmI (fun I102 eI102 => ?_)
  have h := h I102 eI102
  obtain ⟨sl103, hk105, e104, hd106, hn107, h⟩ := h
  refine gJ.eqst (st' := [.ref b101, .ref (V100.2.1 20)]) (by rw [e104]) ?_
  refine j_putF (pc := 81) (ft := (.array .int)) C tyX4 tyX4_ok nmX4 20 11 hX rfl hk105 hd106 hn107 rfl (by decide) inw_X4 wd_149 rfl (by decide +kernel) rfl rfl dX4_init_81 ?_
  refine gJ.nmV (fun V108 eV108 => ?_)
  have h := h V108 eV108
  refine j_aload_n (pc := 84) C dX4_init_84 rfl 0 rfl ?_
  refine j_iconst (pc := 85) (v := 5) C dX4_init_85 (by decide) ?_
  obtain ⟨N110, g111, g112, g113, g114, g115, g116, h⟩ := h
  refine j_newI (pc := 86) C 37 g111 g112 g113 g114 g115 g116 wd_121 dX4_init_86 (fun b118 => ?_)
  have hcs : _ ∧ _ := ⟨g115, g116⟩
  refine gJ.nmV (fun V117 eV117 => ?_)
  have h := h b118 V117 eV117
  refine gJ.nmI (fun I119 eI119 => ?_)
  have h := h I119 eI119
  obtain ⟨sl120, hk122, e121, hd123, hn124, h⟩ := h
  refine gJ.eqst (st' := [.ref b118, .ref (V117.2.1 20)]) (by rw [e121]) ?_
  refine j_putF (pc := 88) (ft := (.array .int)) C tyX4 tyX4_ok nmX4 20 12 hX rfl hk122 hd123 hn124 rfl (by decide) inw_X4 wd_150 rfl (by decide +kernel) rfl rfl dX4_init_88 ?_
  refine gJ.nmV (fun V125 eV125 => ?_)
  have h := h V125 eV125
  exact j_vret (pc := 91) C hR hcs.1 hcs.2 dX4_init_91 ⟨rfl, h⟩
/-! TileRules$Shelf.<init>(I)V -/
abbrev rA_X6_init (mc ms : Nat) : Room := { frames := 1, cells := mc, slots := ms, locals := 40 }
theorem ok_X6_init : gOk yX6_init cX6_init 2 none 1 := ⟨wd_324, wd_76, by decide +kernel⟩
set_option maxRecDepth 100000 in
def wA_X6_init (mc ms : Nat) (n0 : Nat) (n1 : Nat) (n2 : Nat) (b0 : Nat) (a1 : Int32) (V : gV) (I : gI) (J : gL) (Po : gV → gI → gL → Prop) : Prop :=
  ∃ N2 : Nat, n1 ∉ V.1 ∧ ¬ (a1 + (1 : Int32)) < 0 ∧ ((a1 + (1 : Int32))).toNatClampNeg = N2 ∧ N2 * 4 ≤ 536870912 ∧ 0 + 1 ≤ mc ∧ 0 + N2 ≤ ms ∧ ∀ (b10 : Nat) (V9 : gV), V9 = gadd V n1 b10 (.inr (0, N2, gno)) → ∀ I11 : gI, I11 = guc I n1 (fun _ => 0) → ∃ sl12 : List (Nat ⊕ Option Nat), n0 ∈ V9.1 ∧ V9.2.1 n0 = b0 ∧ V9.2.2 n0 = .inl (6, sl12) ∧ 0 < sl12.length ∧ ∀ V17 : gV, V17 = gde V9 n0 (.inl (6, sl12.set 0 (.inr (some b10)))) → ∃ N19 : Nat, n2 ∉ V17.1 ∧ ¬ a1 < 0 ∧ (a1).toNatClampNeg = N19 ∧ N19 * 4 ≤ 536870912 ∧ 0 + 1 + 1 ≤ mc ∧ 0 + N2 + N19 ≤ ms ∧ ∀ (b27 : Nat) (V26 : gV), V26 = gadd V17 n2 b27 (.inr (0, N19, gno)) → ∀ I28 : gI, I28 = guc I11 n2 (fun _ => 0) → ∃ sl29 : List (Nat ⊕ Option Nat), n0 ∈ V26.1 ∧ V26.2.1 n0 = b0 ∧ V26.2.2 n0 = .inl (6, sl29) ∧ 1 < sl29.length ∧ ∀ V34 : gV, V34 = gde V26 n0 (.inl (6, sl29.set 1 (.inr (some b27)))) → Po V34 I28 J
set_option maxRecDepth 100000 in
set_option maxHeartbeats 4000000 in
theorem n_X6_init {l : Launch} {D : va_G} {cy : Nat → ClassId} {mc ms : Nat} {n0 : Nat} {n1 : Nat} {n2 : Nat} {b0 : Nat} {a1 : Int32} {V : gV} {I : gI} {J : gL} {Po : gV → gI → gL → Prop} (h : wA_X6_init mc ms n0 n1 n2 b0 a1 V I J Po) : gMet l D cy yX6_init cX6_init 2 none (rA_X6_init mc ms) V [.ref b0, .int a1] I J (gQv Po) := by
  refine gMet.of (by decide) (Nat.le_of_ble_eq_true rfl) (fun X hX C hR => ?_)
  have C : gC X cX6_init RX6 none 2 (rA_X6_init mc ms) := C
  have hcs : 0 ≤ mc ∧ 0 ≤ ms := ⟨Nat.zero_le _, Nat.zero_le _⟩
  show gJ X V 0 0 0 [(0, .ref b0), (1, .int a1)] [] I J
  unfold wA_X6_init at h
  refine j_aload_n (pc := 0) C dX6_init_0 rfl 0 rfl ?_
  refine j_objInit (pc := 1) (st := []) C wd_325 wd_91 wd_92 (Nat.le_of_ble_eq_true rfl) (Nat.le_of_ble_eq_true rfl) dX6_init_1 ?_
  refine j_aload_n (pc := 4) C dX6_init_4 rfl 0 rfl ?_
  refine j_iload_n (pc := 5) C dX6_init_5 rfl 1 rfl ?_
  refine j_iconst (pc := 6) (v := 1) C dX6_init_6 (by decide) ?_
  refine j_iadd (pc := 7) C dX6_init_7 ?_
  obtain ⟨N2, g3, g4, g5, g6, g7, g8, h⟩ := h
  refine j_newI (pc := 8) C n1 g3 g4 g5 g6 g7 g8 wd_121 dX6_init_8 (fun b10 => ?_)
  have hcs : _ ∧ _ := ⟨g7, g8⟩
  refine gJ.nmV (fun V9 eV9 => ?_)
  have h := h b10 V9 eV9
  refine gJ.nmI (fun I11 eI11 => ?_)
  have h := h I11 eI11
  obtain ⟨sl12, hk14, e13, hd15, hn16, h⟩ := h
  refine gJ.eqst (st' := [.ref b10, .ref (V9.2.1 n0)]) (by rw [e13]) ?_
  refine j_putF (pc := 10) (ft := (.array .int)) C tyX6 tyX6_ok nmX6 n0 0 hX rfl hk14 hd15 hn16 rfl (by decide) inw_X6 wd_326 rfl (by decide +kernel) rfl rfl dX6_init_10 ?_
  refine gJ.nmV (fun V17 eV17 => ?_)
  have h := h V17 eV17
  refine j_aload_n (pc := 13) C dX6_init_13 rfl 0 rfl ?_
  refine j_iload_n (pc := 14) C dX6_init_14 rfl 1 rfl ?_
  obtain ⟨N19, g20, g21, g22, g23, g24, g25, h⟩ := h
  refine j_newI (pc := 15) C n2 g20 g21 g22 g23 g24 g25 wd_121 dX6_init_15 (fun b27 => ?_)
  have hcs : _ ∧ _ := ⟨g24, g25⟩
  refine gJ.nmV (fun V26 eV26 => ?_)
  have h := h b27 V26 eV26
  refine gJ.nmI (fun I28 eI28 => ?_)
  have h := h I28 eI28
  obtain ⟨sl29, hk31, e30, hd32, hn33, h⟩ := h
  refine gJ.eqst (st' := [.ref b27, .ref (V26.2.1 n0)]) (by rw [e30]) ?_
  refine j_putF (pc := 17) (ft := (.array .int)) C tyX6 tyX6_ok nmX6 n0 1 hX rfl hk31 hd32 hn33 rfl (by decide) inw_X6 wd_328 rfl (by decide +kernel) rfl rfl dX6_init_17 ?_
  refine gJ.nmV (fun V34 eV34 => ?_)
  have h := h V34 eV34
  exact j_vret (pc := 20) C hR hcs.1 hcs.2 dX6_init_20 ⟨rfl, h⟩
/-! TileRules$Tally.<init>(I)V -/
abbrev rA_X7_init (mc ms : Nat) : Room := { frames := 1, cells := mc, slots := ms, locals := 40 }
theorem ok_X7_init : gOk yX7_init cX7_init 2 none 1 := ⟨wd_338, wd_77, by decide +kernel⟩
set_option maxRecDepth 100000 in
def wA_X7_init (mc ms : Nat) (n0 : Nat) (n1 : Nat) (n2 : Nat) (b0 : Nat) (a1 : Int32) (V : gV) (I : gI) (J : gL) (Po : gV → gI → gL → Prop) : Prop :=
  ∃ sl1 : List (Nat ⊕ Option Nat), n0 ∈ V.1 ∧ V.2.1 n0 = b0 ∧ V.2.2 n0 = .inl (7, sl1) ∧ sl1[2]? = some (.inl 0) ∧ ∀ I6 : gI, I6 = gup I n0 2 (0 : Int32) → ∃ N8 : Nat, n1 ∉ V.1 ∧ ¬ a1 < 0 ∧ (a1).toNatClampNeg = N8 ∧ N8 * 8 ≤ 536870912 ∧ 0 + 1 ≤ mc ∧ 0 + N8 ≤ ms ∧ ∀ (b16 : Nat) (V15 : gV), V15 = gadd V n1 b16 (.inr (1, N8, gno)) → ∀ J17 : gL, J17 = guc J n1 (fun _ => 0) → ∃ sl18 : List (Nat ⊕ Option Nat), n0 ∈ V15.1 ∧ V15.2.1 n0 = b0 ∧ V15.2.2 n0 = .inl (7, sl18) ∧ 0 < sl18.length ∧ ∀ V23 : gV, V23 = gde V15 n0 (.inl (7, sl18.set 0 (.inr (some b16)))) → ∃ N25 : Nat, n2 ∉ V23.1 ∧ ¬ a1 < 0 ∧ (a1).toNatClampNeg = N25 ∧ N25 * 4 ≤ 536870912 ∧ 0 + 1 + 1 ≤ mc ∧ 0 + N8 + N25 ≤ ms ∧ ∀ (b33 : Nat) (V32 : gV), V32 = gadd V23 n2 b33 (.inr (0, N25, gno)) → ∀ I34 : gI, I34 = guc I6 n2 (fun _ => 0) → ∃ sl35 : List (Nat ⊕ Option Nat), n0 ∈ V32.1 ∧ V32.2.1 n0 = b0 ∧ V32.2.2 n0 = .inl (7, sl35) ∧ 1 < sl35.length ∧ ∀ V40 : gV, V40 = gde V32 n0 (.inl (7, sl35.set 1 (.inr (some b33)))) → Po V40 I34 J17
set_option maxRecDepth 100000 in
set_option maxHeartbeats 4000000 in
theorem n_X7_init {l : Launch} {D : va_G} {cy : Nat → ClassId} {mc ms : Nat} {n0 : Nat} {n1 : Nat} {n2 : Nat} {b0 : Nat} {a1 : Int32} {V : gV} {I : gI} {J : gL} {Po : gV → gI → gL → Prop} (h : wA_X7_init mc ms n0 n1 n2 b0 a1 V I J Po) : gMet l D cy yX7_init cX7_init 2 none (rA_X7_init mc ms) V [.ref b0, .int a1] I J (gQv Po) := by
  refine gMet.of (by decide) (Nat.le_of_ble_eq_true rfl) (fun X hX C hR => ?_)
  have C : gC X cX7_init RX7 none 2 (rA_X7_init mc ms) := C
  have hcs : 0 ≤ mc ∧ 0 ≤ ms := ⟨Nat.zero_le _, Nat.zero_le _⟩
  show gJ X V 0 0 0 [(0, .ref b0), (1, .int a1)] [] I J
  unfold wA_X7_init at h
  refine j_aload_n (pc := 0) C dX7_init_0 rfl 0 rfl ?_
  refine j_objInit (pc := 1) (st := []) C wd_339 wd_91 wd_92 (Nat.le_of_ble_eq_true rfl) (Nat.le_of_ble_eq_true rfl) dX7_init_1 ?_
  refine j_aload_n (pc := 4) C dX7_init_4 rfl 0 rfl ?_
  refine j_iconst (pc := 5) (v := 0) C dX7_init_5 (by decide) ?_
  obtain ⟨sl1, hk3, e2, hd4, hn5, h⟩ := h
  refine gJ.eqst (st' := [.int (0 : Int32), .ref (V.2.1 n0)]) (by rw [e2]) ?_
  refine j_putI (pc := 6) (ft := .int) C tyX7 tyX7_ok nmX7 n0 2 hk3 hd4 hn5 rfl (by decide) inw_X7 wd_344 rfl (by decide +kernel) rfl rfl dX7_init_6 ?_
  refine gJ.nmI (fun I6 eI6 => ?_)
  have h := h I6 eI6
  refine j_aload_n (pc := 9) C dX7_init_9 rfl 0 rfl ?_
  refine j_iload_n (pc := 10) C dX7_init_10 rfl 1 rfl ?_
  obtain ⟨N8, g9, g10, g11, g12, g13, g14, h⟩ := h
  refine j_newL (pc := 11) C n1 g9 g10 g11 g12 g13 g14 wd_211 dX7_init_11 (fun b16 => ?_)
  have hcs : _ ∧ _ := ⟨g13, g14⟩
  refine gJ.nmV (fun V15 eV15 => ?_)
  have h := h b16 V15 eV15
  refine gJ.nmJ (fun J17 eJ17 => ?_)
  have h := h J17 eJ17
  obtain ⟨sl18, hk20, e19, hd21, hn22, h⟩ := h
  refine gJ.eqst (st' := [.ref b16, .ref (V15.2.1 n0)]) (by rw [e19]) ?_
  refine j_putF (pc := 13) (ft := (.array .long)) C tyX7 tyX7_ok nmX7 n0 0 hX rfl hk20 hd21 hn22 rfl (by decide) inw_X7 wd_340 rfl (by decide +kernel) rfl rfl dX7_init_13 ?_
  refine gJ.nmV (fun V23 eV23 => ?_)
  have h := h V23 eV23
  refine j_aload_n (pc := 16) C dX7_init_16 rfl 0 rfl ?_
  refine j_iload_n (pc := 17) C dX7_init_17 rfl 1 rfl ?_
  obtain ⟨N25, g26, g27, g28, g29, g30, g31, h⟩ := h
  refine j_newI (pc := 18) C n2 g26 g27 g28 g29 g30 g31 wd_121 dX7_init_18 (fun b33 => ?_)
  have hcs : _ ∧ _ := ⟨g30, g31⟩
  refine gJ.nmV (fun V32 eV32 => ?_)
  have h := h b33 V32 eV32
  refine gJ.nmI (fun I34 eI34 => ?_)
  have h := h I34 eI34
  obtain ⟨sl35, hk37, e36, hd38, hn39, h⟩ := h
  refine gJ.eqst (st' := [.ref b33, .ref (V32.2.1 n0)]) (by rw [e36]) ?_
  refine j_putF (pc := 20) (ft := (.array .int)) C tyX7 tyX7_ok nmX7 n0 1 hX rfl hk37 hd38 hn39 rfl (by decide) inw_X7 wd_342 rfl (by decide +kernel) rfl rfl dX7_init_20 ?_
  refine gJ.nmV (fun V40 eV40 => ?_)
  have h := h V40 eV40
  exact j_vret (pc := 23) C hR hcs.1 hcs.2 dX7_init_23 ⟨rfl, h⟩
/-! TileRules$RowGraph.<init>(LTileRules$TileSet;I)V -/
abbrev rA_X5_init (mc ms : Nat) : Room := { frames := 2, cells := mc, slots := ms, locals := 61 }
theorem ok_X5_init : gOk yX5_init cX5_init 4 none 2 := ⟨wd_313, wd_75, by decide +kernel⟩
def wA_X5_init_120b (mc ms : Nat)  (Po : gV → gI → gL → Prop) (K120 : Int32 → gV → Nat → Nat → gI → gL → Prop) (v0 : Nat) (v3 : Int32) (V : gV) (c s : Nat) (I : gI) (J : gL) : Prop :=
  ((4 : Int32) ≤ v3 → Po V I J) ∧ (¬ (4 : Int32) ≤ v3 → ∃ (sl194 : List (Nat ⊕ Option Nat)) (b199 : Nat), 70 ∈ V.1 ∧ V.2.1 70 = v0 ∧ V.2.2 70 = .inl (5, sl194) ∧ sl194[8]? = some (.inr (some b199)) ∧ (82 + v3.toNatClampNeg) ∉ V.1 ∧ c + 1 ≤ mc ∧ s + 3 ≤ ms ∧ ∀ (b204 : Nat) (V203 : gV), V203 = gadd V (82 + v3.toNatClampNeg) b204 (.inl (7, [.inr none, .inr none, .inl 0])) → ∀ (I205 : gI) (J206 : gL), I205 = guc I (82 + v3.toNatClampNeg) (fun _ => 0) → J206 = guc J (82 + v3.toNatClampNeg) (fun _ => 0) → ∃ sl207 : List (Nat ⊕ Option Nat), 70 ∈ V203.1 ∧ V203.2.1 70 = v0 ∧ V203.2.2 70 = .inl (5, sl207) ∧ sl207[0]? = some (.inl 0) ∧ ∃ m212 m213 : Nat, c + 1 + m212 ≤ mc ∧ s + 3 + m213 ≤ ms ∧ wA_X7_init m212 m213 (82 + v3.toNatClampNeg) (86 + v3.toNatClampNeg) (90 + v3.toNatClampNeg) b204 (I205 70 0) V203 I205 J206 (fun V216 I217 J218 => ∃ (rf226 : Nat → Option Nat) (N228 : Nat) (sl227 : List (Nat ⊕ Option Nat)), V216.2.1 81 = b199 ∧ V216.2.1 (82 + v3.toNatClampNeg) = b204 ∧ 81 ∈ V216.1 ∧ V216.2.2 81 = .inr (5, N228, rf226) ∧ (82 + v3.toNatClampNeg) ∈ V216.1 ∧ V216.2.2 (82 + v3.toNatClampNeg) = .inl (7, sl227) ∧ vp_in v3 N228 ∧ ∀ V229 : gV, V229 = gde V216 81 (.inr (5, N228, va_up rf226 (v3).toNatClampNeg (some (V216.2.1 (82 + v3.toNatClampNeg))))) → ∀ n230 : Int32, n230 = v3 + 1 → K120 n230 V229 (c + 1 + m212) (s + 3 + m213) I217 J218))
def wA_X5_init_120 (mc ms : Nat)  (Po : gV → gI → gL → Prop)  (v0 : Nat) (v3 : Int32) (V : gV) (c s : Nat) (I : gI) (J : gL) : Prop :=
  ∃ (Inv : Int32 → gV → Nat → Nat → gI → gL → Prop) (mu : Int32 → gV → Nat → Nat → gI → gL → Nat), Inv v3 V c s I J ∧ ∀ (v3 : Int32) (V : gV) (c s : Nat) (I : gI) (J : gL), Inv v3 V c s I J → wA_X5_init_120b mc ms  Po  (fun u3 V1 c1 s1 I1 J1 => Inv u3 V1 c1 s1 I1 J1 ∧ mu u3 V1 c1 s1 I1 J1 < mu v3 V c s I J) v0 v3 V c s I J
set_option maxRecDepth 100000 in
def wA_X5_init (mc ms : Nat) (b0 : Nat) (b1 : Nat) (a2 : Int32) (V : gV) (I : gI) (J : gL) (Po : gV → gI → gL → Prop) : Prop :=
  ∃ N2 : Nat, 71 ∉ V.1 ∧ ¬ (10 : Int32) < 0 ∧ ((10 : Int32)).toNatClampNeg = N2 ∧ N2 * 4 ≤ 536870912 ∧ 0 + 1 ≤ mc ∧ 0 + N2 ≤ ms ∧ ∀ (b10 : Nat) (V9 : gV), V9 = gadd V 71 b10 (.inr (0, N2, gno)) → ∀ I11 : gI, I11 = guc I 71 (fun _ => 0) → ∃ sl12 : List (Nat ⊕ Option Nat), 70 ∈ V9.1 ∧ V9.2.1 70 = b0 ∧ V9.2.2 70 = .inl (5, sl12) ∧ 2 < sl12.length ∧ ∀ V17 : gV, V17 = gde V9 70 (.inl (5, sl12.set 2 (.inr (some b10)))) → ∃ N19 : Nat, 81 ∉ V17.1 ∧ ¬ (4 : Int32) < 0 ∧ ((4 : Int32)).toNatClampNeg = N19 ∧ N19 * 4 ≤ 536870912 ∧ 0 + 1 + 1 ≤ mc ∧ 0 + N2 + N19 ≤ ms ∧ ∀ (b27 : Nat) (V26 : gV), V26 = gadd V17 81 b27 (.inr (5, N19, gno)) → ∃ sl28 : List (Nat ⊕ Option Nat), 70 ∈ V26.1 ∧ V26.2.1 70 = b0 ∧ V26.2.2 70 = .inl (5, sl28) ∧ 8 < sl28.length ∧ ∀ V33 : gV, V33 = gde V26 70 (.inl (5, sl28.set 8 (.inr (some b27)))) → ∃ sl34 : List (Nat ⊕ Option Nat), 70 ∈ V33.1 ∧ V33.2.1 70 = b0 ∧ V33.2.2 70 = .inl (5, sl34) ∧ sl34[9]? = some (.inl 0) ∧ ∀ I39 : gI, I39 = gup I11 70 9 (1 : Int32) → ∃ sl40 : List (Nat ⊕ Option Nat), 70 ∈ V33.1 ∧ V33.2.1 70 = b0 ∧ V33.2.2 70 = .inl (5, sl40) ∧ sl40[10]? = some (.inl 0) ∧ ∀ I45 : gI, I45 = gup I39 70 10 (0 : Int32) → ∃ sl46 : List (Nat ⊕ Option Nat), 70 ∈ V33.1 ∧ V33.2.1 70 = b0 ∧ V33.2.2 70 = .inl (5, sl46) ∧ sl46[11]? = some (.inl 0) ∧ ∀ I51 : gI, I51 = gup I45 70 11 (0 : Int32) → ∃ sl52 : List (Nat ⊕ Option Nat), 70 ∈ V33.1 ∧ V33.2.1 70 = b0 ∧ V33.2.2 70 = .inl (5, sl52) ∧ sl52[12]? = some (.inl 0) ∧ ∀ I57 : gI, I57 = gup I51 70 12 (0 : Int32) → ∃ sl58 : List (Nat ⊕ Option Nat), 70 ∈ V33.1 ∧ V33.2.1 70 = b0 ∧ V33.2.2 70 = .inl (5, sl58) ∧ sl58[13]? = some (.inl 0) ∧ ∀ I63 : gI, I63 = gup I57 70 13 (0 : Int32) → ∃ sl64 : List (Nat ⊕ Option Nat), 70 ∈ V33.1 ∧ V33.2.1 70 = b0 ∧ V33.2.2 70 = .inl (5, sl64) ∧ 1 < sl64.length ∧ ∀ V69 : gV, V69 = gde V33 70 (.inl (5, sl64.set 1 (.inr (some b1)))) → wp_X5_roomFor a2 (fun r70 => ∃ sl71 : List (Nat ⊕ Option Nat), 70 ∈ V69.1 ∧ V69.2.1 70 = b0 ∧ V69.2.2 70 = .inl (5, sl71) ∧ sl71[0]? = some (.inl 0) ∧ ∀ I76 : gI, I76 = gup I63 70 0 r70 → ∃ sl77 : List (Nat ⊕ Option Nat), 70 ∈ V69.1 ∧ V69.2.1 70 = b0 ∧ V69.2.2 70 = .inl (5, sl77) ∧ sl77[0]? = some (.inl 0) ∧ ∃ N83 : Nat, 72 ∉ V69.1 ∧ ¬ (I76 70 0) < 0 ∧ ((I76 70 0)).toNatClampNeg = N83 ∧ N83 * 4 ≤ 536870912 ∧ 0 + 1 + 1 + 1 ≤ mc ∧ 0 + N2 + N19 + N83 ≤ ms ∧ ∀ (b91 : Nat) (V90 : gV), V90 = gadd V69 72 b91 (.inr (0, N83, gno)) → ∀ I92 : gI, I92 = guc I76 72 (fun _ => 0) → ∃ sl93 : List (Nat ⊕ Option Nat), 70 ∈ V90.1 ∧ V90.2.1 70 = b0 ∧ V90.2.2 70 = .inl (5, sl93) ∧ 3 < sl93.length ∧ ∀ V98 : gV, V98 = gde V90 70 (.inl (5, sl93.set 3 (.inr (some b91)))) → ∃ sl99 : List (Nat ⊕ Option Nat), 70 ∈ V98.1 ∧ V98.2.1 70 = b0 ∧ V98.2.2 70 = .inl (5, sl99) ∧ sl99[0]? = some (.inl 0) ∧ ∃ N105 : Nat, 73 ∉ V98.1 ∧ ¬ (I92 70 0) < 0 ∧ ((I92 70 0)).toNatClampNeg = N105 ∧ N105 * 4 ≤ 536870912 ∧ 0 + 1 + 1 + 1 + 1 ≤ mc ∧ 0 + N2 + N19 + N83 + N105 ≤ ms ∧ ∀ (b113 : Nat) (V112 : gV), V112 = gadd V98 73 b113 (.inr (0, N105, gno)) → ∀ I114 : gI, I114 = guc I92 73 (fun _ => 0) → ∃ sl115 : List (Nat ⊕ Option Nat), 70 ∈ V112.1 ∧ V112.2.1 70 = b0 ∧ V112.2.2 70 = .inl (5, sl115) ∧ 4 < sl115.length ∧ ∀ V120 : gV, V120 = gde V112 70 (.inl (5, sl115.set 4 (.inr (some b113)))) → ∃ sl121 : List (Nat ⊕ Option Nat), 70 ∈ V120.1 ∧ V120.2.1 70 = b0 ∧ V120.2.2 70 = .inl (5, sl121) ∧ sl121[0]? = some (.inl 0) ∧ ∃ N127 : Nat, 74 ∉ V120.1 ∧ ¬ (I114 70 0) < 0 ∧ ((I114 70 0)).toNatClampNeg = N127 ∧ N127 * 4 ≤ 536870912 ∧ 0 + 1 + 1 + 1 + 1 + 1 ≤ mc ∧ 0 + N2 + N19 + N83 + N105 + N127 ≤ ms ∧ ∀ (b135 : Nat) (V134 : gV), V134 = gadd V120 74 b135 (.inr (0, N127, gno)) → ∀ I136 : gI, I136 = guc I114 74 (fun _ => 0) → ∃ sl137 : List (Nat ⊕ Option Nat), 70 ∈ V134.1 ∧ V134.2.1 70 = b0 ∧ V134.2.2 70 = .inl (5, sl137) ∧ 5 < sl137.length ∧ ∀ V142 : gV, V142 = gde V134 70 (.inl (5, sl137.set 5 (.inr (some b135)))) → 75 ∉ V142.1 ∧ 0 + 1 + 1 + 1 + 1 + 1 + 1 ≤ mc ∧ 0 + N2 + N19 + N83 + N105 + N127 + 2 ≤ ms ∧ ∀ (b147 : Nat) (V146 : gV), V146 = gadd V142 75 b147 (.inl (6, [.inr none, .inr none])) → ∀ (I148 : gI) (J149 : gL), I148 = guc I136 75 (fun _ => 0) → J149 = guc J 75 (fun _ => 0) → ∃ sl150 : List (Nat ⊕ Option Nat), 70 ∈ V146.1 ∧ V146.2.1 70 = b0 ∧ V146.2.2 70 = .inl (5, sl150) ∧ sl150[0]? = some (.inl 0) ∧ ∃ m155 m156 : Nat, 0 + 1 + 1 + 1 + 1 + 1 + 1 + m155 ≤ mc ∧ 0 + N2 + N19 + N83 + N105 + N127 + 2 + m156 ≤ ms ∧ wA_X6_init m155 m156 75 76 77 b147 (I148 70 0) V146 I148 J149 (fun V159 I160 J161 => ∃ sl162 : List (Nat ⊕ Option Nat), 70 ∈ V159.1 ∧ V159.2.1 70 = b0 ∧ V159.2.2 70 = .inl (5, sl162) ∧ 6 < sl162.length ∧ ∀ V167 : gV, V167 = gde V159 70 (.inl (5, sl162.set 6 (.inr (some b147)))) → 78 ∉ V167.1 ∧ 0 + 1 + 1 + 1 + 1 + 1 + 1 + m155 + 1 ≤ mc ∧ 0 + N2 + N19 + N83 + N105 + N127 + 2 + m156 + 2 ≤ ms ∧ ∀ (b172 : Nat) (V171 : gV), V171 = gadd V167 78 b172 (.inl (6, [.inr none, .inr none])) → ∀ (I173 : gI) (J174 : gL), I173 = guc I160 78 (fun _ => 0) → J174 = guc J161 78 (fun _ => 0) → ∃ sl175 : List (Nat ⊕ Option Nat), 70 ∈ V171.1 ∧ V171.2.1 70 = b0 ∧ V171.2.2 70 = .inl (5, sl175) ∧ sl175[0]? = some (.inl 0) ∧ ∃ m180 m181 : Nat, 0 + 1 + 1 + 1 + 1 + 1 + 1 + m155 + 1 + m180 ≤ mc ∧ 0 + N2 + N19 + N83 + N105 + N127 + 2 + m156 + 2 + m181 ≤ ms ∧ wA_X6_init m180 m181 78 79 80 b172 (I173 70 0) V171 I173 J174 (fun V184 I185 J186 => ∃ sl187 : List (Nat ⊕ Option Nat), 70 ∈ V184.1 ∧ V184.2.1 70 = b0 ∧ V184.2.2 70 = .inl (5, sl187) ∧ 7 < sl187.length ∧ ∀ V192 : gV, V192 = gde V184 70 (.inl (5, sl187.set 7 (.inr (some b172)))) → wA_X5_init_120 mc ms Po b0 (0 : Int32) V192 (0 + 1 + 1 + 1 + 1 + 1 + 1 + m155 + 1 + m180) (0 + N2 + N19 + N83 + N105 + N127 + 2 + m156 + 2 + m181) I185 J186)))
set_option maxRecDepth 100000 in
set_option maxHeartbeats 4000000 in
theorem tA_X5_init_120b {X : gX} {l : Launch} {D : va_G} {cy : Nat → ClassId} {mc ms : Nat} (C : gC X cX5_init RX5 none 4 (rA_X5_init mc ms)) (hX : gIs X l D cy yX5_init.name) {Po : gV → gI → gL → Prop} (hR : gR X (gQv Po)) {v0 : Nat} {v3 : Int32} {V : gV} {c s : Nat} {I : gI} {J : gL} (hcs : c ≤ mc ∧ s ≤ ms) {K120 : Int32 → gV → Nat → Nat → gI → gL → Prop} (hK120 : ∀ (y3 : Int32) (V1 : gV) (c1 s1 : Nat) (I1 : gI) (J1 : gL), (c1 ≤ mc ∧ s1 ≤ ms) → K120 y3 V1 c1 s1 I1 J1 → gJ X V1 c1 s1 120 [(0, .ref v0), (3, .int y3)] [] I1 J1) (h : wA_X5_init_120b mc ms Po K120 v0 v3 V c s I J) : gJ X V c s 120 [(0, .ref v0), (3, .int v3)] [] I J := by
  unfold wA_X5_init_120b at h
  refine j_iload_n (pc := 120) C dX5_init_120 rfl 1 rfl ?_
  refine j_iconst (pc := 121) (v := 4) C dX5_init_121 (by decide) ?_
  refine j_icmp_ge (pc := 122) (tgt := 148) C dX5_init_122 (by decide) (fun q193 => ?_) (fun q193 => ?_)
  · have h := h.1 q193
    exact j_vret (pc := 148) C hR hcs.1 hcs.2 dX5_init_148 ⟨rfl, h⟩
  · have h := h.2 q193
    refine j_aload_n (pc := 125) C dX5_init_125 rfl 0 rfl ?_
    obtain ⟨sl194, b199, hk196, e195, hd197, hn198, h⟩ := h
    refine gJ.eqst (st' := [.ref (V.2.1 70)]) (by rw [e195]) ?_
    refine j_getRa (pc := 126) C 70 8 hk196 hd197 hn198 rfl (by decide) inw_X5 wd_362 dX5_init_126 ?_
    refine j_iload_n (pc := 129) C dX5_init_129 rfl 1 rfl ?_
    obtain ⟨g200, g201, g202, h⟩ := h
    refine j_new (pc := 130) (ci := 7) (sl := [.inr none, .inr none, .inl 0]) C (82 + v3.toNatClampNeg) g200 tyX7 tyX7_ok rfl inw_X7 wd_315 wd_335 wd_77 fs_X7 g201 g202 dX5_init_130 (fun b204 => ?_)
    have hcs : _ ∧ _ := ⟨g201, g202⟩
    refine gJ.nmV (fun V203 eV203 => ?_)
    have h := h b204 V203 eV203
    refine gJ.nmI (fun I205 eI205 => ?_)
    refine gJ.nmJ (fun J206 eJ206 => ?_)
    have h := h I205 J206 eI205 eJ206
    refine j_dup (pc := 133) C dX5_init_133 rfl ?_
    refine j_aload_n (pc := 134) C dX5_init_134 rfl 0 rfl ?_
    obtain ⟨sl207, hk209, e208, hd210, hn211, h⟩ := h
    refine gJ.eqst (st' := [.ref (V203.2.1 70), .ref b204, .ref b204, .int v3, .ref b199]) (by rw [e208]) ?_
    refine j_getI (pc := 135) C 70 0 hk209 hd210 hn211 rfl (by decide) inw_X5 wd_353 dX5_init_135 ?_
    obtain ⟨m212, m213, g214, g215, h⟩ := h
    refine j_callI (pc := 138) (As := [.int (I205 70 0)]) (st := [.ref b204, .int v3, .ref b199]) C hX (n_X7_init h) ok_X7_init wd_336 wd_337 rfl ⟨Nat.le_of_ble_eq_true rfl, Nat.le_of_ble_eq_true rfl⟩ rfl rfl (Nat.le_of_ble_eq_true rfl) ⟨g214, g215⟩ dX5_init_138 (fun r V216 I217 J218 hp => ?_)
    obtain ⟨rfl, h⟩ := hp
    have hcs : _ ∧ _ := ⟨g214, g215⟩
    show gJ X V216 (c + 1 + m212) (s + 3 + m213) 141 _ [.ref b204, .int v3, .ref b199] _ _
    obtain ⟨rf226, N228, sl227, e219, e220, g221, g222, g223, g224, g225, h⟩ := h
    refine gJ.eqst (st' := [.ref (V216.2.1 (82 + v3.toNatClampNeg)), .int v3, .ref (V216.2.1 81)]) (by rw [e219, e220]) ?_
    refine j_aast (pc := 141) C 81 (82 + v3.toNatClampNeg) g221 g222 g223 g224 g225 dX5_init_141 ?_
    refine gJ.nmV (fun V229 eV229 => ?_)
    have h := h V229 eV229
    obtain ⟨n230, en230⟩ : ∃ z : Int32, z = v3 + 1 := ⟨_, rfl⟩
    have h := h n230 en230
    refine j_iinc (pc := 142) (v := n230) (lv' := [(3, .int n230), (0, .ref v0)]) C dX5_init_142 1 rfl (by rw [en230]; rfl) (by decide) rfl ?_
    refine j_goto (pc := 145) (tgt := 120) C dX5_init_145 (by decide) ?_
    refine gJ.sub [1, 0] rfl ?_
    exact hK120 _ _ _ _ _ _ hcs h
set_option maxRecDepth 100000 in
set_option maxHeartbeats 4000000 in
theorem tA_X5_init_120 {X : gX} {l : Launch} {D : va_G} {cy : Nat → ClassId} {mc ms : Nat} (C : gC X cX5_init RX5 none 4 (rA_X5_init mc ms)) (hX : gIs X l D cy yX5_init.name) {Po : gV → gI → gL → Prop} (hR : gR X (gQv Po)) {v0 : Nat} {v3 : Int32} {V : gV} {c s : Nat} {I : gI} {J : gL} (hcs : c ≤ mc ∧ s ≤ ms) (h : wA_X5_init_120 mc ms Po v0 v3 V c s I J) : gJ X V c s 120 [(0, .ref v0), (3, .int v3)] [] I J := by
  unfold wA_X5_init_120 at h
  obtain ⟨Inv, mu, h0, hs⟩ := h
  have key : ∀ (n : Nat) (v3 : Int32) (V : gV) (c s : Nat) (I : gI) (J : gL), (c ≤ mc ∧ s ≤ ms) → Inv v3 V c s I J → mu v3 V c s I J < n → gJ X V c s 120 [(0, .ref v0), (3, .int v3)] [] I J := by
    intro n
    induction n with
    | zero => intro v3 V c s I J hq hi hn; exact absurd hn (Nat.not_lt_zero _)
    | succ n ih =>
      intro v3 V c s I J hq hi hn
      exact tA_X5_init_120b C hX hR hq  (fun u3 V1 c1 s1 I1 J1 hq1 hk => ih u3 V1 c1 s1 I1 J1 hq1 hk.1 (Nat.lt_of_lt_of_le hk.2 (Nat.le_of_lt_succ hn))) (hs v3 V c s I J hi)
  exact key _ v3 V c s I J hcs h0 (Nat.lt_succ_self _)
set_option maxRecDepth 100000 in
set_option maxHeartbeats 4000000 in
theorem n_X5_init {l : Launch} {D : va_G} {cy : Nat → ClassId} {mc ms : Nat} {b0 : Nat} {b1 : Nat} {a2 : Int32} {V : gV} {I : gI} {J : gL} {Po : gV → gI → gL → Prop} (h : wA_X5_init mc ms b0 b1 a2 V I J Po) : gMet l D cy yX5_init cX5_init 4 none (rA_X5_init mc ms) V [.ref b0, .ref b1, .int a2] I J (gQv Po) := by
  refine gMet.of (by decide) (Nat.le_of_ble_eq_true rfl) (fun X hX C hR => ?_)
  have C : gC X cX5_init RX5 none 4 (rA_X5_init mc ms) := C
  have hcs : 0 ≤ mc ∧ 0 ≤ ms := ⟨Nat.zero_le _, Nat.zero_le _⟩
  show gJ X V 0 0 0 [(0, .ref b0), (1, .ref b1), (2, .int a2)] [] I J
  unfold wA_X5_init at h
  refine j_aload_n (pc := 0) C dX5_init_0 rfl 0 rfl ?_
  refine j_objInit (pc := 1) (st := []) C wd_314 wd_91 wd_92 (Nat.le_of_ble_eq_true rfl) (Nat.le_of_ble_eq_true rfl) dX5_init_1 ?_
  refine j_aload_n (pc := 4) C dX5_init_4 rfl 0 rfl ?_
  refine j_bipush (pc := 5) (v := 10) C dX5_init_5 (by decide) ?_
  obtain ⟨N2, g3, g4, g5, g6, g7, g8, h⟩ := h
  refine j_newI (pc := 7) C 71 g3 g4 g5 g6 g7 g8 wd_121 dX5_init_7 (fun b10 => ?_)
  have hcs : _ ∧ _ := ⟨g7, g8⟩
  refine gJ.nmV (fun V9 eV9 => ?_)
  have h := h b10 V9 eV9
  refine gJ.nmI (fun I11 eI11 => ?_)
  have h := h I11 eI11
  obtain ⟨sl12, hk14, e13, hd15, hn16, h⟩ := h
  refine gJ.eqst (st' := [.ref b10, .ref (V9.2.1 70)]) (by rw [e13]) ?_
  refine j_putF (pc := 9) (ft := (.array .int)) C tyX5 tyX5_ok nmX5 70 2 hX rfl hk14 hd15 hn16 rfl (by decide) inw_X5 wd_356 rfl (by decide +kernel) rfl rfl dX5_init_9 ?_
  refine gJ.nmV (fun V17 eV17 => ?_)
  have h := h V17 eV17
  refine j_aload_n (pc := 12) C dX5_init_12 rfl 0 rfl ?_
  refine j_iconst (pc := 13) (v := 4) C dX5_init_13 (by decide) ?_
  obtain ⟨N19, g20, g21, g22, g23, g24, g25, h⟩ := h
  refine j_anew (pc := 14) C 81 g20 g21 g22 g23 g24 g25 wd_315 dX5_init_14 (fun b27 => ?_)
  have hcs : _ ∧ _ := ⟨g24, g25⟩
  refine gJ.nmV (fun V26 eV26 => ?_)
  have h := h b27 V26 eV26
  obtain ⟨sl28, hk30, e29, hd31, hn32, h⟩ := h
  refine gJ.eqst (st' := [.ref b27, .ref (V26.2.1 70)]) (by rw [e29]) ?_
  refine j_putF (pc := 17) (ft := (.array (.object "TileRules$Tally"))) C tyX5 tyX5_ok nmX5 70 8 hX rfl hk30 hd31 hn32 rfl (by decide) inw_X5 wd_362 rfl (by decide +kernel) rfl rfl dX5_init_17 ?_
  refine gJ.nmV (fun V33 eV33 => ?_)
  have h := h V33 eV33
  refine j_aload_n (pc := 20) C dX5_init_20 rfl 0 rfl ?_
  refine j_iconst (pc := 21) (v := 1) C dX5_init_21 (by decide) ?_
  obtain ⟨sl34, hk36, e35, hd37, hn38, h⟩ := h
  refine gJ.eqst (st' := [.int (1 : Int32), .ref (V33.2.1 70)]) (by rw [e35]) ?_
  refine j_putI (pc := 22) (ft := .int) C tyX5 tyX5_ok nmX5 70 9 hk36 hd37 hn38 rfl (by decide) inw_X5 wd_363 rfl (by decide +kernel) rfl rfl dX5_init_22 ?_
  refine gJ.nmI (fun I39 eI39 => ?_)
  have h := h I39 eI39
  refine j_aload_n (pc := 25) C dX5_init_25 rfl 0 rfl ?_
  refine j_iconst (pc := 26) (v := 0) C dX5_init_26 (by decide) ?_
  obtain ⟨sl40, hk42, e41, hd43, hn44, h⟩ := h
  refine gJ.eqst (st' := [.int (0 : Int32), .ref (V33.2.1 70)]) (by rw [e41]) ?_
  refine j_putI (pc := 27) (ft := .boolean) C tyX5 tyX5_ok nmX5 70 10 hk42 hd43 hn44 rfl (by decide) inw_X5 wd_364 rfl (by decide +kernel) rfl rfl dX5_init_27 ?_
  refine gJ.nmI (fun I45 eI45 => ?_)
  have h := h I45 eI45
  refine j_aload_n (pc := 30) C dX5_init_30 rfl 0 rfl ?_
  refine j_iconst (pc := 31) (v := 0) C dX5_init_31 (by decide) ?_
  obtain ⟨sl46, hk48, e47, hd49, hn50, h⟩ := h
  refine gJ.eqst (st' := [.int (0 : Int32), .ref (V33.2.1 70)]) (by rw [e47]) ?_
  refine j_putI (pc := 32) (ft := .int) C tyX5 tyX5_ok nmX5 70 11 hk48 hd49 hn50 rfl (by decide) inw_X5 wd_365 rfl (by decide +kernel) rfl rfl dX5_init_32 ?_
  refine gJ.nmI (fun I51 eI51 => ?_)
  have h := h I51 eI51
  refine j_aload_n (pc := 35) C dX5_init_35 rfl 0 rfl ?_
  refine j_iconst (pc := 36) (v := 0) C dX5_init_36 (by decide) ?_
  obtain ⟨sl52, hk54, e53, hd55, hn56, h⟩ := h
  refine gJ.eqst (st' := [.int (0 : Int32), .ref (V33.2.1 70)]) (by rw [e53]) ?_
  refine j_putI (pc := 37) (ft := .int) C tyX5 tyX5_ok nmX5 70 12 hk54 hd55 hn56 rfl (by decide) inw_X5 wd_366 rfl (by decide +kernel) rfl rfl dX5_init_37 ?_
  refine gJ.nmI (fun I57 eI57 => ?_)
  have h := h I57 eI57
  refine j_aload_n (pc := 40) C dX5_init_40 rfl 0 rfl ?_
  refine j_iconst (pc := 41) (v := 0) C dX5_init_41 (by decide) ?_
  obtain ⟨sl58, hk60, e59, hd61, hn62, h⟩ := h
  refine gJ.eqst (st' := [.int (0 : Int32), .ref (V33.2.1 70)]) (by rw [e59]) ?_
  refine j_putI (pc := 42) (ft := .int) C tyX5 tyX5_ok nmX5 70 13 hk60 hd61 hn62 rfl (by decide) inw_X5 wd_367 rfl (by decide +kernel) rfl rfl dX5_init_42 ?_
  refine gJ.nmI (fun I63 eI63 => ?_)
  have h := h I63 eI63
  refine j_aload_n (pc := 45) C dX5_init_45 rfl 0 rfl ?_
  refine j_aload_n (pc := 46) C dX5_init_46 rfl 1 rfl ?_
  obtain ⟨sl64, hk66, e65, hd67, hn68, h⟩ := h
  refine gJ.eqst (st' := [.ref b1, .ref (V33.2.1 70)]) (by rw [e65]) ?_
  refine j_putF (pc := 47) (ft := (.object "TileRules$TileSet")) C tyX5 tyX5_ok nmX5 70 1 hX rfl hk66 hd67 hn68 rfl (by decide) inw_X5 wd_355 rfl (by decide +kernel) rfl rfl dX5_init_47 ?_
  refine gJ.nmV (fun V69 eV69 => ?_)
  have h := h V69 eV69
  refine j_aload_n (pc := 50) C dX5_init_50 rfl 0 rfl ?_
  refine j_iload_n (pc := 51) C dX5_init_51 rfl 2 rfl ?_
  refine j_callS (pc := 52) (As := [.int a2]) (st := [.ref b0]) C hX (m_X5_roomFor  h) ok_X5_roomFor wd_317 wd_318 ⟨Nat.le_of_ble_eq_true rfl, Nat.le_of_ble_eq_true rfl⟩ rfl rfl (Nat.le_of_ble_eq_true rfl) ⟨hcs.1, hcs.2⟩ dX5_init_52 (fun r V1 I1 J1 hp => ?_)
  obtain ⟨r70, rfl, rfl, rfl, rfl, h⟩ := hp
  show gJ X V69 (0 + 1 + 1) (0 + N2 + N19) 55 _ [.int r70, .ref b0] _ _
  obtain ⟨sl71, hk73, e72, hd74, hn75, h⟩ := h
  refine gJ.eqst (st' := [.int r70, .ref (V69.2.1 70)]) (by rw [e72]) ?_
  refine j_putIF (pc := 55) (ft := .int) C tyX5 tyX5_ok nmX5 70 0 hX rfl hk73 hd74 hn75 rfl (by decide) inw_X5 wd_353 rfl (by decide +kernel) rfl rfl dX5_init_55 ?_
  refine gJ.nmI (fun I76 eI76 => ?_)
  have h := h I76 eI76
  refine j_aload_n (pc := 58) C dX5_init_58 rfl 0 rfl ?_
  refine j_aload_n (pc := 59) C dX5_init_59 rfl 0 rfl ?_
  obtain ⟨sl77, hk79, e78, hd80, hn81, h⟩ := h
  refine gJ.eqst (st' := [.ref (V69.2.1 70), .ref b0]) (by rw [e78]) ?_
  refine j_getI (pc := 60) C 70 0 hk79 hd80 hn81 rfl (by decide) inw_X5 wd_353 dX5_init_60 ?_
  obtain ⟨N83, g84, g85, g86, g87, g88, g89, h⟩ := h
  refine j_newI (pc := 63) C 72 g84 g85 g86 g87 g88 g89 wd_121 dX5_init_63 (fun b91 => ?_)
  have hcs : _ ∧ _ := ⟨g88, g89⟩
  refine gJ.nmV (fun V90 eV90 => ?_)
  have h := h b91 V90 eV90
  refine gJ.nmI (fun I92 eI92 => ?_)
  have h := h I92 eI92
  obtain ⟨sl93, hk95, e94, hd96, hn97, h⟩ := h
  refine gJ.eqst (st' := [.ref b91, .ref (V90.2.1 70)]) (by rw [e94]) ?_
  refine j_putF (pc := 65) (ft := (.array .int)) C tyX5 tyX5_ok nmX5 70 3 hX rfl hk95 hd96 hn97 rfl (by decide) inw_X5 wd_357 rfl (by decide +kernel) rfl rfl dX5_init_65 ?_
  refine gJ.nmV (fun V98 eV98 => ?_)
  have h := h V98 eV98
  refine j_aload_n (pc := 68) C dX5_init_68 rfl 0 rfl ?_
  refine j_aload_n (pc := 69) C dX5_init_69 rfl 0 rfl ?_
  obtain ⟨sl99, hk101, e100, hd102, hn103, h⟩ := h
  refine gJ.eqst (st' := [.ref (V98.2.1 70), .ref b0]) (by rw [e100]) ?_
  refine j_getI (pc := 70) C 70 0 hk101 hd102 hn103 rfl (by decide) inw_X5 wd_353 dX5_init_70 ?_
  obtain ⟨N105, g106, g107, g108, g109, g110, g111, h⟩ := h
  refine j_newI (pc := 73) C 73 g106 g107 g108 g109 g110 g111 wd_121 dX5_init_73 (fun b113 => ?_)
  have hcs : _ ∧ _ := ⟨g110, g111⟩
  refine gJ.nmV (fun V112 eV112 => ?_)
  have h := h b113 V112 eV112
  refine gJ.nmI (fun I114 eI114 => ?_)
  have h := h I114 eI114
  obtain ⟨sl115, hk117, e116, hd118, hn119, h⟩ := h
  refine gJ.eqst (st' := [.ref b113, .ref (V112.2.1 70)]) (by rw [e116]) ?_
  refine j_putF (pc := 75) (ft := (.array .int)) C tyX5 tyX5_ok nmX5 70 4 hX rfl hk117 hd118 hn119 rfl (by decide) inw_X5 wd_358 rfl (by decide +kernel) rfl rfl dX5_init_75 ?_
  refine gJ.nmV (fun V120 eV120 => ?_)
  have h := h V120 eV120
  refine j_aload_n (pc := 78) C dX5_init_78 rfl 0 rfl ?_
  refine j_aload_n (pc := 79) C dX5_init_79 rfl 0 rfl ?_
  obtain ⟨sl121, hk123, e122, hd124, hn125, h⟩ := h
  refine gJ.eqst (st' := [.ref (V120.2.1 70), .ref b0]) (by rw [e122]) ?_
  refine j_getI (pc := 80) C 70 0 hk123 hd124 hn125 rfl (by decide) inw_X5 wd_353 dX5_init_80 ?_
  obtain ⟨N127, g128, g129, g130, g131, g132, g133, h⟩ := h
  refine j_newI (pc := 83) C 74 g128 g129 g130 g131 g132 g133 wd_121 dX5_init_83 (fun b135 => ?_)
  have hcs : _ ∧ _ := ⟨g132, g133⟩
  refine gJ.nmV (fun V134 eV134 => ?_)
  have h := h b135 V134 eV134
  refine gJ.nmI (fun I136 eI136 => ?_)
  have h := h I136 eI136
  obtain ⟨sl137, hk139, e138, hd140, hn141, h⟩ := h
  refine gJ.eqst (st' := [.ref b135, .ref (V134.2.1 70)]) (by rw [e138]) ?_
  refine j_putF (pc := 85) (ft := (.array .int)) C tyX5 tyX5_ok nmX5 70 5 hX rfl hk139 hd140 hn141 rfl (by decide) inw_X5 wd_359 rfl (by decide +kernel) rfl rfl dX5_init_85 ?_
  refine gJ.nmV (fun V142 eV142 => ?_)
  have h := h V142 eV142
  refine j_aload_n (pc := 88) C dX5_init_88 rfl 0 rfl ?_
  obtain ⟨g143, g144, g145, h⟩ := h
  refine j_new (pc := 89) (ci := 6) (sl := [.inr none, .inr none]) C 75 g143 tyX6 tyX6_ok rfl inw_X6 wd_320 wd_321 wd_76 fs_X6 g144 g145 dX5_init_89 (fun b147 => ?_)
  have hcs : _ ∧ _ := ⟨g144, g145⟩
  refine gJ.nmV (fun V146 eV146 => ?_)
  have h := h b147 V146 eV146
  refine gJ.nmI (fun I148 eI148 => ?_)
  refine gJ.nmJ (fun J149 eJ149 => ?_)
  have h := h I148 J149 eI148 eJ149
  refine j_dup (pc := 92) C dX5_init_92 rfl ?_
  refine j_aload_n (pc := 93) C dX5_init_93 rfl 0 rfl ?_
  obtain ⟨sl150, hk152, e151, hd153, hn154, h⟩ := h
  refine gJ.eqst (st' := [.ref (V146.2.1 70), .ref b147, .ref b147, .ref b0]) (by rw [e151]) ?_
  refine j_getI (pc := 94) C 70 0 hk152 hd153 hn154 rfl (by decide) inw_X5 wd_353 dX5_init_94 ?_
  obtain ⟨m155, m156, g157, g158, h⟩ := h
  refine j_callI (pc := 97) (As := [.int (I148 70 0)]) (st := [.ref b147, .ref b0]) C hX (n_X6_init h) ok_X6_init wd_322 wd_323 rfl ⟨Nat.le_of_ble_eq_true rfl, Nat.le_of_ble_eq_true rfl⟩ rfl rfl (Nat.le_of_ble_eq_true rfl) ⟨g157, g158⟩ dX5_init_97 (fun r V159 I160 J161 hp => ?_)
  obtain ⟨rfl, h⟩ := hp
  have hcs : _ ∧ _ := ⟨g157, g158⟩
  show gJ X V159 (0 + 1 + 1 + 1 + 1 + 1 + 1 + m155) (0 + N2 + N19 + N83 + N105 + N127 + 2 + m156) 100 _ [.ref b147, .ref b0] _ _
  obtain ⟨sl162, hk164, e163, hd165, hn166, h⟩ := h
  refine gJ.eqst (st' := [.ref b147, .ref (V159.2.1 70)]) (by rw [e163]) ?_
  refine j_putF (pc := 100) (ft := (.object "TileRules$Shelf")) C tyX5 tyX5_ok nmX5 70 6 hX rfl hk164 hd165 hn166 rfl (by decide) inw_X5 wd_360 rfl (by decide +kernel) rfl rfl dX5_init_100 ?_
  refine gJ.nmV (fun V167 eV167 => ?_)
  have h := h V167 eV167
  refine j_aload_n (pc := 103) C dX5_init_103 rfl 0 rfl ?_
  obtain ⟨g168, g169, g170, h⟩ := h
  refine j_new (pc := 104) (ci := 6) (sl := [.inr none, .inr none]) C 78 g168 tyX6 tyX6_ok rfl inw_X6 wd_320 wd_321 wd_76 fs_X6 g169 g170 dX5_init_104 (fun b172 => ?_)
  have hcs : _ ∧ _ := ⟨g169, g170⟩
  refine gJ.nmV (fun V171 eV171 => ?_)
  have h := h b172 V171 eV171
  refine gJ.nmI (fun I173 eI173 => ?_)
  refine gJ.nmJ (fun J174 eJ174 => ?_)
  have h := h I173 J174 eI173 eJ174
  refine j_dup (pc := 107) C dX5_init_107 rfl ?_
  refine j_aload_n (pc := 108) C dX5_init_108 rfl 0 rfl ?_
  obtain ⟨sl175, hk177, e176, hd178, hn179, h⟩ := h
  refine gJ.eqst (st' := [.ref (V171.2.1 70), .ref b172, .ref b172, .ref b0]) (by rw [e176]) ?_
  refine j_getI (pc := 109) C 70 0 hk177 hd178 hn179 rfl (by decide) inw_X5 wd_353 dX5_init_109 ?_
  obtain ⟨m180, m181, g182, g183, h⟩ := h
  refine j_callI (pc := 112) (As := [.int (I173 70 0)]) (st := [.ref b172, .ref b0]) C hX (n_X6_init h) ok_X6_init wd_322 wd_323 rfl ⟨Nat.le_of_ble_eq_true rfl, Nat.le_of_ble_eq_true rfl⟩ rfl rfl (Nat.le_of_ble_eq_true rfl) ⟨g182, g183⟩ dX5_init_112 (fun r V184 I185 J186 hp => ?_)
  obtain ⟨rfl, h⟩ := hp
  have hcs : _ ∧ _ := ⟨g182, g183⟩
  show gJ X V184 (0 + 1 + 1 + 1 + 1 + 1 + 1 + m155 + 1 + m180) (0 + N2 + N19 + N83 + N105 + N127 + 2 + m156 + 2 + m181) 115 _ [.ref b172, .ref b0] _ _
  obtain ⟨sl187, hk189, e188, hd190, hn191, h⟩ := h
  refine gJ.eqst (st' := [.ref b172, .ref (V184.2.1 70)]) (by rw [e188]) ?_
  refine j_putF (pc := 115) (ft := (.object "TileRules$Shelf")) C tyX5 tyX5_ok nmX5 70 7 hX rfl hk189 hd190 hn191 rfl (by decide) inw_X5 wd_361 rfl (by decide +kernel) rfl rfl dX5_init_115 ?_
  refine gJ.nmV (fun V192 eV192 => ?_)
  have h := h V192 eV192
  refine j_iconst (pc := 118) (v := 0) C dX5_init_118 (by decide) ?_
  refine j_istore_n (pc := 119) (lv' := [(3, .int (0 : Int32)), (0, .ref b0), (1, .ref b1), (2, .int a2)]) C dX5_init_119 rfl (by decide) rfl ?_
  refine gJ.sub [1, 0] rfl ?_
  exact tA_X5_init_120 C hX hR hcs  h
/-! TileRules$TileSet.<init>()V -/
abbrev rA_X8_init (mc ms : Nat) : Room := { frames := 1, cells := mc, slots := ms, locals := 40 }
theorem ok_X8_init : gOk yX8_init cX8_init 1 none 0 := ⟨wd_97, wd_70, by decide +kernel⟩
set_option maxRecDepth 100000 in
def wA_X8_init (mc ms : Nat) (b0 : Nat) (V : gV) (I : gI) (J : gL) (Po : gV → gI → gL → Prop) : Prop :=
  ∃ N2 : Nat, 11 ∉ V.1 ∧ ¬ (8 : Int32) < 0 ∧ ((8 : Int32)).toNatClampNeg = N2 ∧ N2 * 4 ≤ 536870912 ∧ 0 + 1 ≤ mc ∧ 0 + N2 ≤ ms ∧ ∀ (b10 : Nat) (V9 : gV), V9 = gadd V 11 b10 (.inr (0, N2, gno)) → ∀ I11 : gI, I11 = guc I 11 (fun _ => 0) → ∃ sl12 : List (Nat ⊕ Option Nat), 10 ∈ V9.1 ∧ V9.2.1 10 = b0 ∧ V9.2.2 10 = .inl (8, sl12) ∧ 0 < sl12.length ∧ ∀ V17 : gV, V17 = gde V9 10 (.inl (8, sl12.set 0 (.inr (some b10)))) → ∃ N19 : Nat, 12 ∉ V17.1 ∧ ¬ (8 : Int32) < 0 ∧ ((8 : Int32)).toNatClampNeg = N19 ∧ N19 * 4 ≤ 536870912 ∧ 0 + 1 + 1 ≤ mc ∧ 0 + N2 + N19 ≤ ms ∧ ∀ (b27 : Nat) (V26 : gV), V26 = gadd V17 12 b27 (.inr (0, N19, gno)) → ∀ I28 : gI, I28 = guc I11 12 (fun _ => 0) → ∃ sl29 : List (Nat ⊕ Option Nat), 10 ∈ V26.1 ∧ V26.2.1 10 = b0 ∧ V26.2.2 10 = .inl (8, sl29) ∧ 1 < sl29.length ∧ ∀ V34 : gV, V34 = gde V26 10 (.inl (8, sl29.set 1 (.inr (some b27)))) → ∃ N36 : Nat, 13 ∉ V34.1 ∧ ¬ (8 : Int32) < 0 ∧ ((8 : Int32)).toNatClampNeg = N36 ∧ N36 * 4 ≤ 536870912 ∧ 0 + 1 + 1 + 1 ≤ mc ∧ 0 + N2 + N19 + N36 ≤ ms ∧ ∀ (b44 : Nat) (V43 : gV), V43 = gadd V34 13 b44 (.inr (0, N36, gno)) → ∀ I45 : gI, I45 = guc I28 13 (fun _ => 0) → ∃ sl46 : List (Nat ⊕ Option Nat), 10 ∈ V43.1 ∧ V43.2.1 10 = b0 ∧ V43.2.2 10 = .inl (8, sl46) ∧ 2 < sl46.length ∧ ∀ V51 : gV, V51 = gde V43 10 (.inl (8, sl46.set 2 (.inr (some b44)))) → ∃ N53 : Nat, 14 ∉ V51.1 ∧ ¬ (8 : Int32) < 0 ∧ ((8 : Int32)).toNatClampNeg = N53 ∧ N53 * 4 ≤ 536870912 ∧ 0 + 1 + 1 + 1 + 1 ≤ mc ∧ 0 + N2 + N19 + N36 + N53 ≤ ms ∧ ∀ (b61 : Nat) (V60 : gV), V60 = gadd V51 14 b61 (.inr (0, N53, gno)) → ∀ I62 : gI, I62 = guc I45 14 (fun _ => 0) → ∃ sl63 : List (Nat ⊕ Option Nat), 10 ∈ V60.1 ∧ V60.2.1 10 = b0 ∧ V60.2.2 10 = .inl (8, sl63) ∧ 3 < sl63.length ∧ ∀ V68 : gV, V68 = gde V60 10 (.inl (8, sl63.set 3 (.inr (some b61)))) → ∃ sl69 : List (Nat ⊕ Option Nat), 10 ∈ V68.1 ∧ V68.2.1 10 = b0 ∧ V68.2.2 10 = .inl (8, sl69) ∧ sl69[4]? = some (.inl 0) ∧ ∀ I74 : gI, I74 = gup I62 10 4 (0 : Int32) → Po V68 I74 J
set_option maxRecDepth 100000 in
set_option maxHeartbeats 4000000 in
theorem n_X8_init {l : Launch} {D : va_G} {cy : Nat → ClassId} {mc ms : Nat} {b0 : Nat} {V : gV} {I : gI} {J : gL} {Po : gV → gI → gL → Prop} (h : wA_X8_init mc ms b0 V I J Po) : gMet l D cy yX8_init cX8_init 1 none (rA_X8_init mc ms) V [.ref b0] I J (gQv Po) := by
  refine gMet.of (by decide) (Nat.le_of_ble_eq_true rfl) (fun X hX C hR => ?_)
  have C : gC X cX8_init RX8 none 1 (rA_X8_init mc ms) := C
  have hcs : 0 ≤ mc ∧ 0 ≤ ms := ⟨Nat.zero_le _, Nat.zero_le _⟩
  show gJ X V 0 0 0 [(0, .ref b0)] [] I J
  unfold wA_X8_init at h
  refine j_aload_n (pc := 0) C dX8_init_0 rfl 0 rfl ?_
  refine j_objInit (pc := 1) (st := []) C wd_98 wd_91 wd_92 (Nat.le_of_ble_eq_true rfl) (Nat.le_of_ble_eq_true rfl) dX8_init_1 ?_
  refine j_aload_n (pc := 4) C dX8_init_4 rfl 0 rfl ?_
  refine j_bipush (pc := 5) (v := 8) C dX8_init_5 (by decide) ?_
  obtain ⟨N2, g3, g4, g5, g6, g7, g8, h⟩ := h
  refine j_newI (pc := 7) C 11 g3 g4 g5 g6 g7 g8 wd_121 dX8_init_7 (fun b10 => ?_)
  have hcs : _ ∧ _ := ⟨g7, g8⟩
  refine gJ.nmV (fun V9 eV9 => ?_)
  have h := h b10 V9 eV9
  refine gJ.nmI (fun I11 eI11 => ?_)
  have h := h I11 eI11
  obtain ⟨sl12, hk14, e13, hd15, hn16, h⟩ := h
  refine gJ.eqst (st' := [.ref b10, .ref (V9.2.1 10)]) (by rw [e13]) ?_
  refine j_putF (pc := 9) (ft := (.array .int)) C tyX8 tyX8_ok nmX8 10 0 hX rfl hk14 hd15 hn16 rfl (by decide) inw_X8 wd_99 rfl (by decide +kernel) rfl rfl dX8_init_9 ?_
  refine gJ.nmV (fun V17 eV17 => ?_)
  have h := h V17 eV17
  refine j_aload_n (pc := 12) C dX8_init_12 rfl 0 rfl ?_
  refine j_bipush (pc := 13) (v := 8) C dX8_init_13 (by decide) ?_
  obtain ⟨N19, g20, g21, g22, g23, g24, g25, h⟩ := h
  refine j_newI (pc := 15) C 12 g20 g21 g22 g23 g24 g25 wd_121 dX8_init_15 (fun b27 => ?_)
  have hcs : _ ∧ _ := ⟨g24, g25⟩
  refine gJ.nmV (fun V26 eV26 => ?_)
  have h := h b27 V26 eV26
  refine gJ.nmI (fun I28 eI28 => ?_)
  have h := h I28 eI28
  obtain ⟨sl29, hk31, e30, hd32, hn33, h⟩ := h
  refine gJ.eqst (st' := [.ref b27, .ref (V26.2.1 10)]) (by rw [e30]) ?_
  refine j_putF (pc := 17) (ft := (.array .int)) C tyX8 tyX8_ok nmX8 10 1 hX rfl hk31 hd32 hn33 rfl (by decide) inw_X8 wd_101 rfl (by decide +kernel) rfl rfl dX8_init_17 ?_
  refine gJ.nmV (fun V34 eV34 => ?_)
  have h := h V34 eV34
  refine j_aload_n (pc := 20) C dX8_init_20 rfl 0 rfl ?_
  refine j_bipush (pc := 21) (v := 8) C dX8_init_21 (by decide) ?_
  obtain ⟨N36, g37, g38, g39, g40, g41, g42, h⟩ := h
  refine j_newI (pc := 23) C 13 g37 g38 g39 g40 g41 g42 wd_121 dX8_init_23 (fun b44 => ?_)
  have hcs : _ ∧ _ := ⟨g41, g42⟩
  refine gJ.nmV (fun V43 eV43 => ?_)
  have h := h b44 V43 eV43
  refine gJ.nmI (fun I45 eI45 => ?_)
  have h := h I45 eI45
  obtain ⟨sl46, hk48, e47, hd49, hn50, h⟩ := h
  refine gJ.eqst (st' := [.ref b44, .ref (V43.2.1 10)]) (by rw [e47]) ?_
  refine j_putF (pc := 25) (ft := (.array .int)) C tyX8 tyX8_ok nmX8 10 2 hX rfl hk48 hd49 hn50 rfl (by decide) inw_X8 wd_103 rfl (by decide +kernel) rfl rfl dX8_init_25 ?_
  refine gJ.nmV (fun V51 eV51 => ?_)
  have h := h V51 eV51
  refine j_aload_n (pc := 28) C dX8_init_28 rfl 0 rfl ?_
  refine j_bipush (pc := 29) (v := 8) C dX8_init_29 (by decide) ?_
  obtain ⟨N53, g54, g55, g56, g57, g58, g59, h⟩ := h
  refine j_newI (pc := 31) C 14 g54 g55 g56 g57 g58 g59 wd_121 dX8_init_31 (fun b61 => ?_)
  have hcs : _ ∧ _ := ⟨g58, g59⟩
  refine gJ.nmV (fun V60 eV60 => ?_)
  have h := h b61 V60 eV60
  refine gJ.nmI (fun I62 eI62 => ?_)
  have h := h I62 eI62
  obtain ⟨sl63, hk65, e64, hd66, hn67, h⟩ := h
  refine gJ.eqst (st' := [.ref b61, .ref (V60.2.1 10)]) (by rw [e64]) ?_
  refine j_putF (pc := 33) (ft := (.array .int)) C tyX8 tyX8_ok nmX8 10 3 hX rfl hk65 hd66 hn67 rfl (by decide) inw_X8 wd_105 rfl (by decide +kernel) rfl rfl dX8_init_33 ?_
  refine gJ.nmV (fun V68 eV68 => ?_)
  have h := h V68 eV68
  refine j_aload_n (pc := 36) C dX8_init_36 rfl 0 rfl ?_
  refine j_iconst (pc := 37) (v := 0) C dX8_init_37 (by decide) ?_
  obtain ⟨sl69, hk71, e70, hd72, hn73, h⟩ := h
  refine gJ.eqst (st' := [.int (0 : Int32), .ref (V68.2.1 10)]) (by rw [e70]) ?_
  refine j_putI (pc := 38) (ft := .int) C tyX8 tyX8_ok nmX8 10 4 hk71 hd72 hn73 rfl (by decide) inw_X8 wd_107 rfl (by decide +kernel) rfl rfl dX8_init_38 ?_
  refine gJ.nmI (fun I74 eI74 => ?_)
  have h := h I74 eI74
  exact j_vret (pc := 41) C hR hcs.1 hcs.2 dX8_init_41 ⟨rfl, h⟩
/-! TileRules.<init>()V -/
abbrev rA_X9_init (mc ms : Nat) : Room := { frames := 2, cells := mc, slots := ms, locals := 60 }
theorem ok_X9_init : gOk yX9_init cX9_init 1 none 0 := ⟨wd_89, wd_69, by decide +kernel⟩
set_option maxRecDepth 100000 in
def wA_X9_init (mc ms : Nat) (b0 : Nat) (V : gV) (I : gI) (J : gL) (Po : gV → gI → gL → Prop) : Prop :=
  ∃ sl1 : List (Nat ⊕ Option Nat), 0 ∈ V.1 ∧ V.2.1 0 = b0 ∧ V.2.2 0 = .inl (9, sl1) ∧ 4 < sl1.length ∧ ∀ V6 : gV, V6 = gde V 0 (.inl (9, sl1.set 4 (.inr (none)))) → ∃ sl7 : List (Nat ⊕ Option Nat), 0 ∈ V6.1 ∧ V6.2.1 0 = b0 ∧ V6.2.2 0 = .inl (9, sl7) ∧ 5 < sl7.length ∧ ∀ V12 : gV, V12 = gde V6 0 (.inl (9, sl7.set 5 (.inr (none)))) → ∃ sl13 : List (Nat ⊕ Option Nat), 0 ∈ V12.1 ∧ V12.2.1 0 = b0 ∧ V12.2.2 0 = .inl (9, sl13) ∧ 6 < sl13.length ∧ ∀ V18 : gV, V18 = gde V12 0 (.inl (9, sl13.set 6 (.inr (none)))) → 10 ∉ V18.1 ∧ 0 + 1 ≤ mc ∧ 0 + 5 ≤ ms ∧ ∀ (b23 : Nat) (V22 : gV), V22 = gadd V18 10 b23 (.inl (8, [.inr none, .inr none, .inr none, .inr none, .inl 0])) → ∀ (I24 : gI) (J25 : gL), I24 = guc I 10 (fun _ => 0) → J25 = guc J 10 (fun _ => 0) → ∃ m26 m27 : Nat, 0 + 1 + m26 ≤ mc ∧ 0 + 5 + m27 ≤ ms ∧ wA_X8_init m26 m27  b23 V22 I24 J25 (fun V30 I31 J32 => ∃ sl33 : List (Nat ⊕ Option Nat), 0 ∈ V30.1 ∧ V30.2.1 0 = b0 ∧ V30.2.2 0 = .inl (9, sl33) ∧ 0 < sl33.length ∧ ∀ V38 : gV, V38 = gde V30 0 (.inl (9, sl33.set 0 (.inr (some b23)))) → 20 ∉ V38.1 ∧ 0 + 1 + m26 + 1 ≤ mc ∧ 0 + 5 + m27 + 13 ≤ ms ∧ ∀ (b43 : Nat) (V42 : gV), V42 = gadd V38 20 b43 (.inl (4, [.inl 0, .inl 0, .inl 0, .inl 0, .inl 0, .inl 0, .inl 0, .inl 0, .inr none, .inr none, .inr none, .inr none, .inr none])) → ∀ (I44 : gI) (J45 : gL), I44 = guc I31 20 (fun _ => 0) → J45 = guc J32 20 (fun _ => 0) → ∃ m46 m47 : Nat, 0 + 1 + m26 + 1 + m46 ≤ mc ∧ 0 + 5 + m27 + 13 + m47 ≤ ms ∧ wA_X4_init m46 m47  b43 V42 I44 J45 (fun V50 I51 J52 => ∃ sl53 : List (Nat ⊕ Option Nat), 0 ∈ V50.1 ∧ V50.2.1 0 = b0 ∧ V50.2.2 0 = .inl (9, sl53) ∧ 1 < sl53.length ∧ ∀ V58 : gV, V58 = gde V50 0 (.inl (9, sl53.set 1 (.inr (some b43)))) → 40 ∉ V58.1 ∧ 0 + 1 + m26 + 1 + m46 + 1 ≤ mc ∧ 0 + 5 + m27 + 13 + m47 + 7 ≤ ms ∧ ∀ (b63 : Nat) (V62 : gV), V62 = gadd V58 40 b63 (.inl (0, [.inl 0, .inl 0, .inr none, .inr none, .inr none, .inr none, .inr none])) → ∀ (I64 : gI) (J65 : gL), I64 = guc I51 40 (fun _ => 0) → J65 = guc J52 40 (fun _ => 0) → ∃ m66 m67 : Nat, 0 + 1 + m26 + 1 + m46 + 1 + m66 ≤ mc ∧ 0 + 5 + m27 + 13 + m47 + 7 + m67 ≤ ms ∧ wA_X0_init m66 m67  b63 V62 I64 J65 (fun V70 I71 J72 => ∃ sl73 : List (Nat ⊕ Option Nat), 0 ∈ V70.1 ∧ V70.2.1 0 = b0 ∧ V70.2.2 0 = .inl (9, sl73) ∧ 2 < sl73.length ∧ ∀ V78 : gV, V78 = gde V70 0 (.inl (9, sl73.set 2 (.inr (some b63)))) → 60 ∉ V78.1 ∧ 0 + 1 + m26 + 1 + m46 + 1 + m66 + 1 ≤ mc ∧ 0 + 5 + m27 + 13 + m47 + 7 + m67 + 9 ≤ ms ∧ ∀ (b83 : Nat) (V82 : gV), V82 = gadd V78 60 b83 (.inl (1, [.inl 0, .inl 0, .inl 0, .inr none, .inr none, .inl 0, .inl 0, .inl 0, .inl 0])) → ∀ (I84 : gI) (J85 : gL), I84 = guc I71 60 (fun _ => 0) → J85 = guc J72 60 (fun _ => 0) → ∃ m86 m87 : Nat, 0 + 1 + m26 + 1 + m46 + 1 + m66 + 1 + m86 ≤ mc ∧ 0 + 5 + m27 + 13 + m47 + 7 + m67 + 9 + m87 ≤ ms ∧ wA_X1_init m86 m87  b83 V82 I84 J85 (fun V90 I91 J92 => ∃ sl93 : List (Nat ⊕ Option Nat), 0 ∈ V90.1 ∧ V90.2.1 0 = b0 ∧ V90.2.2 0 = .inl (9, sl93) ∧ 3 < sl93.length ∧ ∀ V98 : gV, V98 = gde V90 0 (.inl (9, sl93.set 3 (.inr (some b83)))) → Po V98 I91 J92))))
set_option maxRecDepth 100000 in
set_option maxHeartbeats 4000000 in
theorem n_X9_init {l : Launch} {D : va_G} {cy : Nat → ClassId} {mc ms : Nat} {b0 : Nat} {V : gV} {I : gI} {J : gL} {Po : gV → gI → gL → Prop} (h : wA_X9_init mc ms b0 V I J Po) : gMet l D cy yX9_init cX9_init 1 none (rA_X9_init mc ms) V [.ref b0] I J (gQv Po) := by
  refine gMet.of (by decide) (Nat.le_of_ble_eq_true rfl) (fun X hX C hR => ?_)
  have C : gC X cX9_init RX9 none 1 (rA_X9_init mc ms) := C
  have hcs : 0 ≤ mc ∧ 0 ≤ ms := ⟨Nat.zero_le _, Nat.zero_le _⟩
  show gJ X V 0 0 0 [(0, .ref b0)] [] I J
  unfold wA_X9_init at h
  refine j_aload_n (pc := 0) C dX9_init_0 rfl 0 rfl ?_
  refine j_objInit (pc := 1) (st := []) C wd_90 wd_91 wd_92 (Nat.le_of_ble_eq_true rfl) (Nat.le_of_ble_eq_true rfl) dX9_init_1 ?_
  refine j_aload_n (pc := 4) C dX9_init_4 rfl 0 rfl ?_
  refine j_null (pc := 5) C dX9_init_5 ?_
  obtain ⟨sl1, hk3, e2, hd4, hn5, h⟩ := h
  refine gJ.eqst (st' := [.null, .ref (V.2.1 0)]) (by rw [e2]) ?_
  refine j_putN (pc := 6) (ft := (.object "TileRules$RowGraph")) C tyX9 tyX9_ok nmX9 0 4 hk3 hd4 hn5 rfl (by decide) inw_X9 wd_254 rfl (by decide +kernel) rfl rfl dX9_init_6 ?_
  refine gJ.nmV (fun V6 eV6 => ?_)
  have h := h V6 eV6
  refine j_aload_n (pc := 9) C dX9_init_9 rfl 0 rfl ?_
  refine j_null (pc := 10) C dX9_init_10 ?_
  obtain ⟨sl7, hk9, e8, hd10, hn11, h⟩ := h
  refine gJ.eqst (st' := [.null, .ref (V6.2.1 0)]) (by rw [e8]) ?_
  refine j_putN (pc := 11) (ft := (.object "TileRules$CoverSearch")) C tyX9 tyX9_ok nmX9 0 5 hk9 hd10 hn11 rfl (by decide) inw_X9 wd_255 rfl (by decide +kernel) rfl rfl dX9_init_11 ?_
  refine gJ.nmV (fun V12 eV12 => ?_)
  have h := h V12 eV12
  refine j_aload_n (pc := 14) C dX9_init_14 rfl 0 rfl ?_
  refine j_null (pc := 15) C dX9_init_15 ?_
  obtain ⟨sl13, hk15, e14, hd16, hn17, h⟩ := h
  refine gJ.eqst (st' := [.null, .ref (V12.2.1 0)]) (by rw [e14]) ?_
  refine j_putN (pc := 16) (ft := (.object "TileRules$Growth")) C tyX9 tyX9_ok nmX9 0 6 hk15 hd16 hn17 rfl (by decide) inw_X9 wd_256 rfl (by decide +kernel) rfl rfl dX9_init_16 ?_
  refine gJ.nmV (fun V18 eV18 => ?_)
  have h := h V18 eV18
  refine j_aload_n (pc := 19) C dX9_init_19 rfl 0 rfl ?_
  obtain ⟨g19, g20, g21, h⟩ := h
  refine j_new (pc := 20) (ci := 8) (sl := [.inr none, .inr none, .inr none, .inr none, .inl 0]) C 10 g19 tyX8 tyX8_ok rfl inw_X8 wd_93 wd_94 wd_70 fs_X8 g20 g21 dX9_init_20 (fun b23 => ?_)
  have hcs : _ ∧ _ := ⟨g20, g21⟩
  refine gJ.nmV (fun V22 eV22 => ?_)
  have h := h b23 V22 eV22
  refine gJ.nmI (fun I24 eI24 => ?_)
  refine gJ.nmJ (fun J25 eJ25 => ?_)
  have h := h I24 J25 eI24 eJ25
  refine j_dup (pc := 23) C dX9_init_23 rfl ?_
  obtain ⟨m26, m27, g28, g29, h⟩ := h
  refine j_callIN (pc := 24) (host := RX9) (As := []) (st := [.ref b23, .ref b0]) C hX (n_X8_init h) ok_X8_init (fun U q => q.1) wd_96 rfl ⟨Nat.le_of_ble_eq_true rfl, Nat.le_of_ble_eq_true rfl⟩ rfl rfl (Nat.le_of_ble_eq_true rfl) ⟨g28, g29⟩ dX9_init_24 (fun r V30 I31 J32 hp => ?_)
  obtain ⟨rfl, h⟩ := hp
  have hcs : _ ∧ _ := ⟨g28, g29⟩
  show gJ X V30 (0 + 1 + m26) (0 + 5 + m27) 27 _ [.ref b23, .ref b0] _ _
  obtain ⟨sl33, hk35, e34, hd36, hn37, h⟩ := h
  refine gJ.eqst (st' := [.ref b23, .ref (V30.2.1 0)]) (by rw [e34]) ?_
  refine j_putF (pc := 27) (ft := (.object "TileRules$TileSet")) C tyX9 tyX9_ok nmX9 0 0 hX rfl hk35 hd36 hn37 rfl (by decide) inw_X9 wd_250 rfl (by decide +kernel) rfl rfl dX9_init_27 ?_
  refine gJ.nmV (fun V38 eV38 => ?_)
  have h := h V38 eV38
  refine j_aload_n (pc := 30) C dX9_init_30 rfl 0 rfl ?_
  obtain ⟨g39, g40, g41, h⟩ := h
  refine j_new (pc := 31) (ci := 4) (sl := [.inl 0, .inl 0, .inl 0, .inl 0, .inl 0, .inl 0, .inl 0, .inl 0, .inr none, .inr none, .inr none, .inr none, .inr none]) C 20 g39 tyX4 tyX4_ok rfl inw_X4 wd_122 wd_123 wd_71 fs_X4 g40 g41 dX9_init_31 (fun b43 => ?_)
  have hcs : _ ∧ _ := ⟨g40, g41⟩
  refine gJ.nmV (fun V42 eV42 => ?_)
  have h := h b43 V42 eV42
  refine gJ.nmI (fun I44 eI44 => ?_)
  refine gJ.nmJ (fun J45 eJ45 => ?_)
  have h := h I44 J45 eI44 eJ45
  refine j_dup (pc := 34) C dX9_init_34 rfl ?_
  obtain ⟨m46, m47, g48, g49, h⟩ := h
  refine j_callIN (pc := 35) (host := RX9) (As := []) (st := [.ref b43, .ref b0]) C hX (n_X4_init h) ok_X4_init (fun U q => q.2.1) wd_125 rfl ⟨Nat.le_of_ble_eq_true rfl, Nat.le_of_ble_eq_true rfl⟩ rfl rfl (Nat.le_of_ble_eq_true rfl) ⟨g48, g49⟩ dX9_init_35 (fun r V50 I51 J52 hp => ?_)
  obtain ⟨rfl, h⟩ := hp
  have hcs : _ ∧ _ := ⟨g48, g49⟩
  show gJ X V50 (0 + 1 + m26 + 1 + m46) (0 + 5 + m27 + 13 + m47) 38 _ [.ref b43, .ref b0] _ _
  obtain ⟨sl53, hk55, e54, hd56, hn57, h⟩ := h
  refine gJ.eqst (st' := [.ref b43, .ref (V50.2.1 0)]) (by rw [e54]) ?_
  refine j_putF (pc := 38) (ft := (.object "TileRules$Jigsaw")) C tyX9 tyX9_ok nmX9 0 1 hX rfl hk55 hd56 hn57 rfl (by decide) inw_X9 wd_251 rfl (by decide +kernel) rfl rfl dX9_init_38 ?_
  refine gJ.nmV (fun V58 eV58 => ?_)
  have h := h V58 eV58
  refine j_aload_n (pc := 41) C dX9_init_41 rfl 0 rfl ?_
  obtain ⟨g59, g60, g61, h⟩ := h
  refine j_new (pc := 42) (ci := 0) (sl := [.inl 0, .inl 0, .inr none, .inr none, .inr none, .inr none, .inr none]) C 40 g59 tyX0 tyX0_ok rfl inw_X0 wd_178 wd_179 wd_72 fs_X0 g60 g61 dX9_init_42 (fun b63 => ?_)
  have hcs : _ ∧ _ := ⟨g60, g61⟩
  refine gJ.nmV (fun V62 eV62 => ?_)
  have h := h b63 V62 eV62
  refine gJ.nmI (fun I64 eI64 => ?_)
  refine gJ.nmJ (fun J65 eJ65 => ?_)
  have h := h I64 J65 eI64 eJ65
  refine j_dup (pc := 45) C dX9_init_45 rfl ?_
  obtain ⟨m66, m67, g68, g69, h⟩ := h
  refine j_callIN (pc := 46) (host := RX9) (As := []) (st := [.ref b63, .ref b0]) C hX (n_X0_init h) ok_X0_init (fun U q => q.2.2.1) wd_181 rfl ⟨Nat.le_of_ble_eq_true rfl, Nat.le_of_ble_eq_true rfl⟩ rfl rfl (Nat.le_of_ble_eq_true rfl) ⟨g68, g69⟩ dX9_init_46 (fun r V70 I71 J72 hp => ?_)
  obtain ⟨rfl, h⟩ := hp
  have hcs : _ ∧ _ := ⟨g68, g69⟩
  show gJ X V70 (0 + 1 + m26 + 1 + m46 + 1 + m66) (0 + 5 + m27 + 13 + m47 + 7 + m67) 49 _ [.ref b63, .ref b0] _ _
  obtain ⟨sl73, hk75, e74, hd76, hn77, h⟩ := h
  refine gJ.eqst (st' := [.ref b63, .ref (V70.2.1 0)]) (by rw [e74]) ?_
  refine j_putF (pc := 49) (ft := (.object "TileRules$Blocks")) C tyX9 tyX9_ok nmX9 0 2 hX rfl hk75 hd76 hn77 rfl (by decide) inw_X9 wd_252 rfl (by decide +kernel) rfl rfl dX9_init_49 ?_
  refine gJ.nmV (fun V78 eV78 => ?_)
  have h := h V78 eV78
  refine j_aload_n (pc := 52) C dX9_init_52 rfl 0 rfl ?_
  obtain ⟨g79, g80, g81, h⟩ := h
  refine j_new (pc := 53) (ci := 1) (sl := [.inl 0, .inl 0, .inl 0, .inr none, .inr none, .inl 0, .inl 0, .inl 0, .inl 0]) C 60 g79 tyX1 tyX1_ok rfl inw_X1 wd_212 wd_213 wd_73 fs_X1 g80 g81 dX9_init_53 (fun b83 => ?_)
  have hcs : _ ∧ _ := ⟨g80, g81⟩
  refine gJ.nmV (fun V82 eV82 => ?_)
  have h := h b83 V82 eV82
  refine gJ.nmI (fun I84 eI84 => ?_)
  refine gJ.nmJ (fun J85 eJ85 => ?_)
  have h := h I84 J85 eI84 eJ85
  refine j_dup (pc := 56) C dX9_init_56 rfl ?_
  obtain ⟨m86, m87, g88, g89, h⟩ := h
  refine j_callIN (pc := 57) (host := RX9) (As := []) (st := [.ref b83, .ref b0]) C hX (n_X1_init h) ok_X1_init (fun U q => q.2.2.2.1) wd_215 rfl ⟨Nat.le_of_ble_eq_true rfl, Nat.le_of_ble_eq_true rfl⟩ rfl rfl (Nat.le_of_ble_eq_true rfl) ⟨g88, g89⟩ dX9_init_57 (fun r V90 I91 J92 hp => ?_)
  obtain ⟨rfl, h⟩ := hp
  have hcs : _ ∧ _ := ⟨g88, g89⟩
  show gJ X V90 (0 + 1 + m26 + 1 + m46 + 1 + m66 + 1 + m86) (0 + 5 + m27 + 13 + m47 + 7 + m67 + 9 + m87) 60 _ [.ref b83, .ref b0] _ _
  obtain ⟨sl93, hk95, e94, hd96, hn97, h⟩ := h
  refine gJ.eqst (st' := [.ref b83, .ref (V90.2.1 0)]) (by rw [e94]) ?_
  refine j_putF (pc := 60) (ft := (.object "TileRules$CornerSet")) C tyX9 tyX9_ok nmX9 0 3 hX rfl hk95 hd96 hn97 rfl (by decide) inw_X9 wd_253 rfl (by decide +kernel) rfl rfl dX9_init_60 ?_
  refine gJ.nmV (fun V98 eV98 => ?_)
  have h := h V98 eV98
  exact j_vret (pc := 63) C hR hcs.1 hcs.2 dX9_init_63 ⟨rfl, h⟩
/-! TileRules.rowsOf(IZ)LTileRules$RowGraph; -/
abbrev rA_X9_rowsOf (mc ms : Nat) : Room := { frames := 14, cells := mc, slots := ms, locals := 377 }
theorem ok_X9_rowsOf : gOk yX9_rowsOf cX9_rowsOf 4 (some (.object "TileRules$RowGraph")) 2 := ⟨wd_305, wd_69, by decide +kernel⟩
def wA_X9_rowsOf_46 (mc ms : Nat)  (Po : Nat → gV → gI → gL → Prop)  (v0 : Nat) (v1 : Int32) (v2 : Int32) (V : gV) (c s : Nat) (I : gI) (J : gL) : Prop :=
  ∃ (sl48 : List (Nat ⊕ Option Nat)) (b53 : Nat), 0 ∈ V.1 ∧ V.2.1 0 = v0 ∧ V.2.2 0 = .inl (9, sl48) ∧ sl48[4]? = some (.inr (some b53)) ∧ ∃ (room : Nat), gModTS V ∧ gModRG room V ∧ V.2.1 70 = b53 ∧ wp_X5_build room v1 v2 I (fun I54 => ∃ (sl56 : List (Nat ⊕ Option Nat)) (b61 : Nat), 0 ∈ V.1 ∧ V.2.1 0 = v0 ∧ V.2.2 0 = .inl (9, sl56) ∧ sl56[4]? = some (.inr (some b61)) ∧ Po b61 V I54 J)
def wA_X9_rowsOf_30 (mc ms : Nat)  (Po : Nat → gV → gI → gL → Prop)  (v0 : Nat) (v1 : Int32) (v2 : Int32) (v3 : Int32) (V : gV) (c s : Nat) (I : gI) (J : gL) : Prop :=
  ∃ V23 : gV, gSub V23 V ∧ 70 ∉ V23.1 ∧ c + 1 ≤ mc ∧ s + 14 ≤ ms ∧ ∀ (b26 : Nat) (V25 : gV), V25 = gadd V23 70 b26 (.inl (5, [.inl 0, .inr none, .inr none, .inr none, .inr none, .inr none, .inr none, .inr none, .inr none, .inl 0, .inl 0, .inl 0, .inl 0, .inl 0])) → ∀ (I27 : gI) (J28 : gL), I27 = guc I 70 (fun _ => 0) → J28 = guc J 70 (fun _ => 0) → ∃ (sl29 : List (Nat ⊕ Option Nat)) (b34 : Nat), 0 ∈ V25.1 ∧ V25.2.1 0 = v0 ∧ V25.2.2 0 = .inl (9, sl29) ∧ sl29[0]? = some (.inr (some b34)) ∧ ∃ m35 m36 : Nat, c + 1 + m35 ≤ mc ∧ s + 14 + m36 ≤ ms ∧ wA_X5_init m35 m36  b26 b34 v3 V25 I27 J28 (fun V39 I40 J41 => ∃ sl42 : List (Nat ⊕ Option Nat), 0 ∈ V39.1 ∧ V39.2.1 0 = v0 ∧ V39.2.2 0 = .inl (9, sl42) ∧ 4 < sl42.length ∧ ∀ V47 : gV, V47 = gde V39 0 (.inl (9, sl42.set 4 (.inr (some b26)))) → wA_X9_rowsOf_46 mc ms Po v0 v1 v2 V47 (c + 1 + m35) (s + 14 + m36) I40 J41)
set_option maxRecDepth 100000 in
def wA_X9_rowsOf (mc ms : Nat) (b0 : Nat) (a1 : Int32) (a2 : Int32) (V : gV) (I : gI) (J : gL) (Po : Nat → gV → gI → gL → Prop) : Prop :=
  ∃ (sl1 : List (Nat ⊕ Option Nat)) (b6 : Nat), 0 ∈ V.1 ∧ V.2.1 0 = b0 ∧ V.2.2 0 = .inl (9, sl1) ∧ sl1[0]? = some (.inr (some b6)) ∧ ∃ sl7 : List (Nat ⊕ Option Nat), 10 ∈ V.1 ∧ V.2.1 10 = b6 ∧ V.2.2 10 = .inl (8, sl7) ∧ sl7[4]? = some (.inl 0) ∧ wp_X9_power (I 10 4) a1 (fun r12 => ∃ (sl13 : List (Nat ⊕ Option Nat)) (o19 : Option Nat), 0 ∈ V.1 ∧ V.2.1 0 = b0 ∧ V.2.2 0 = .inl (9, sl13) ∧ sl13[4]? = some (.inr o19) ∧ (o19 = none → wA_X9_rowsOf_30 mc ms Po b0 a1 a2 r12 V 0 0 I J) ∧ (∀ b18 : Nat, o19 = some b18 → ∃ (sl62 : List (Nat ⊕ Option Nat)) (b67 : Nat), 0 ∈ V.1 ∧ V.2.1 0 = b0 ∧ V.2.2 0 = .inl (9, sl62) ∧ sl62[4]? = some (.inr (some b67)) ∧ ∃ sl68 : List (Nat ⊕ Option Nat), 70 ∈ V.1 ∧ V.2.1 70 = b67 ∧ V.2.2 70 = .inl (5, sl68) ∧ sl68[0]? = some (.inl 0) ∧ (r12 ≤ (I 70 0) → wA_X9_rowsOf_46 mc ms Po b0 a1 a2 V 0 0 I J) ∧ (¬ r12 ≤ (I 70 0) → wA_X9_rowsOf_30 mc ms Po b0 a1 a2 r12 V 0 0 I J)))
set_option maxRecDepth 100000 in
set_option maxHeartbeats 4000000 in
theorem tA_X9_rowsOf_46 {X : gX} {l : Launch} {D : va_G} {cy : Nat → ClassId} {mc ms : Nat} (C : gC X cX9_rowsOf RX9 (some (.object "TileRules$RowGraph")) 4 (rA_X9_rowsOf mc ms)) (hX : gIs X l D cy yX9_rowsOf.name) {Po : Nat → gV → gI → gL → Prop} (hR : gR X (gQr Po)) {v0 : Nat} {v1 : Int32} {v2 : Int32} {V : gV} {c s : Nat} {I : gI} {J : gL} (hcs : c ≤ mc ∧ s ≤ ms) (h : wA_X9_rowsOf_46 mc ms Po v0 v1 v2 V c s I J) : gJ X V c s 46 [(0, .ref v0), (1, .int v1), (2, .int v2)] [] I J := by
  unfold wA_X9_rowsOf_46 at h
  refine j_aload_n (pc := 46) C dX9_rowsOf_46 rfl 0 rfl ?_
  obtain ⟨sl48, b53, hk50, e49, hd51, hn52, h⟩ := h
  refine gJ.eqst (st' := [.ref (V.2.1 0)]) (by rw [e49]) ?_
  refine j_getRa (pc := 47) C 0 4 hk50 hd51 hn52 rfl (by decide) inw_X9 wd_254 dX9_rowsOf_47 ?_
  refine j_iload_n (pc := 50) C dX9_rowsOf_50 rfl 1 rfl ?_
  refine j_iload_n (pc := 51) C dX9_rowsOf_51 rfl 2 rfl ?_
  obtain ⟨room, hTS, hRG, e55, h⟩ := h
  refine gJ.eqst (st' := [.int v2, .int v1, .ref (V.2.1 70)]) (by rw [e55]) ?_
  refine j_callV (pc := 52) (As := [.int v1, .int v2]) (st := []) C hX 70 (m_X5_build hTS hRG h) (c_70 hRG).1 (c_70 hRG).2 rfl ok_X5_build wd_397 wd_398 wd_399 ⟨Nat.le_of_ble_eq_true rfl, Nat.le_of_ble_eq_true rfl⟩ rfl rfl (Nat.le_of_ble_eq_true rfl) ⟨hcs.1, hcs.2⟩ dX9_rowsOf_52 (fun r V1 I54 J1 hp => ?_)
  obtain ⟨rfl, rfl, rfl, h⟩ := hp
  show gJ X V (c) (s) 55 _ [] _ _
  refine j_aload_n (pc := 55) C dX9_rowsOf_55 rfl 0 rfl ?_
  obtain ⟨sl56, b61, hk58, e57, hd59, hn60, h⟩ := h
  refine gJ.eqst (st' := [.ref (V.2.1 0)]) (by rw [e57]) ?_
  refine j_getRa (pc := 56) C 0 4 hk58 hd59 hn60 rfl (by decide) inw_X9 wd_254 dX9_rowsOf_56 ?_
  exact j_aret (pc := 59) C hR hcs.1 hcs.2 dX9_rowsOf_59 ⟨_, rfl, h⟩
set_option maxRecDepth 100000 in
set_option maxHeartbeats 4000000 in
theorem tA_X9_rowsOf_30 {X : gX} {l : Launch} {D : va_G} {cy : Nat → ClassId} {mc ms : Nat} (C : gC X cX9_rowsOf RX9 (some (.object "TileRules$RowGraph")) 4 (rA_X9_rowsOf mc ms)) (hX : gIs X l D cy yX9_rowsOf.name) {Po : Nat → gV → gI → gL → Prop} (hR : gR X (gQr Po)) {v0 : Nat} {v1 : Int32} {v2 : Int32} {v3 : Int32} {V : gV} {c s : Nat} {I : gI} {J : gL} (hcs : c ≤ mc ∧ s ≤ ms) (h : wA_X9_rowsOf_30 mc ms Po v0 v1 v2 v3 V c s I J) : gJ X V c s 30 [(0, .ref v0), (1, .int v1), (2, .int v2), (3, .int v3)] [] I J := by
  unfold wA_X9_rowsOf_30 at h
  refine j_aload_n (pc := 30) C dX9_rowsOf_30 rfl 0 rfl ?_
  obtain ⟨V23, g24, h⟩ := h
  refine gJ.drop g24 ?_
  obtain ⟨g20, g21, g22, h⟩ := h
  refine j_new (pc := 31) (ci := 5) (sl := [.inl 0, .inr none, .inr none, .inr none, .inr none, .inr none, .inr none, .inr none, .inr none, .inl 0, .inl 0, .inl 0, .inl 0, .inl 0]) C 70 g20 tyX5 tyX5_ok rfl inw_X5 wd_309 wd_310 wd_75 fs_X5 g21 g22 dX9_rowsOf_31 (fun b26 => ?_)
  have hcs : _ ∧ _ := ⟨g21, g22⟩
  refine gJ.nmV (fun V25 eV25 => ?_)
  have h := h b26 V25 eV25
  refine gJ.nmI (fun I27 eI27 => ?_)
  refine gJ.nmJ (fun J28 eJ28 => ?_)
  have h := h I27 J28 eI27 eJ28
  refine j_dup (pc := 34) C dX9_rowsOf_34 rfl ?_
  refine j_aload_n (pc := 35) C dX9_rowsOf_35 rfl 0 rfl ?_
  obtain ⟨sl29, b34, hk31, e30, hd32, hn33, h⟩ := h
  refine gJ.eqst (st' := [.ref (V25.2.1 0), .ref b26, .ref b26, .ref v0]) (by rw [e30]) ?_
  refine j_getRa (pc := 36) C 0 0 hk31 hd32 hn33 rfl (by decide) inw_X9 wd_250 dX9_rowsOf_36 ?_
  refine j_iload_n (pc := 39) C dX9_rowsOf_39 rfl 3 rfl ?_
  obtain ⟨m35, m36, g37, g38, h⟩ := h
  refine j_callI (pc := 40) (As := [.ref b34, .int v3]) (st := [.ref b26, .ref v0]) C hX (n_X5_init h) ok_X5_init wd_311 wd_312 rfl ⟨Nat.le_of_ble_eq_true rfl, Nat.le_of_ble_eq_true rfl⟩ rfl rfl (Nat.le_of_ble_eq_true rfl) ⟨g37, g38⟩ dX9_rowsOf_40 (fun r V39 I40 J41 hp => ?_)
  obtain ⟨rfl, h⟩ := hp
  have hcs : _ ∧ _ := ⟨g37, g38⟩
  show gJ X V39 (c + 1 + m35) (s + 14 + m36) 43 _ [.ref b26, .ref v0] _ _
  obtain ⟨sl42, hk44, e43, hd45, hn46, h⟩ := h
  refine gJ.eqst (st' := [.ref b26, .ref (V39.2.1 0)]) (by rw [e43]) ?_
  refine j_putR (pc := 43) (ft := (.object "TileRules$RowGraph")) C tyX9 tyX9_ok nmX9 0 4 hk44 hd45 hn46 rfl (by decide) inw_X9 wd_254 rfl (by decide +kernel) rfl rfl dX9_rowsOf_43 ?_
  refine gJ.nmV (fun V47 eV47 => ?_)
  have h := h V47 eV47
  refine gJ.sub [0, 1, 2] rfl ?_
  exact tA_X9_rowsOf_46 C hX hR hcs  h
set_option maxRecDepth 100000 in
set_option maxHeartbeats 4000000 in
theorem n_X9_rowsOf {l : Launch} {D : va_G} {cy : Nat → ClassId} {mc ms : Nat} {b0 : Nat} {a1 : Int32} {a2 : Int32} {V : gV} {I : gI} {J : gL} {Po : Nat → gV → gI → gL → Prop} (h : wA_X9_rowsOf mc ms b0 a1 a2 V I J Po) : gMet l D cy yX9_rowsOf cX9_rowsOf 4 (some (.object "TileRules$RowGraph")) (rA_X9_rowsOf mc ms) V [.ref b0, .int a1, .int a2] I J (gQr Po) := by
  refine gMet.of (by decide) (Nat.le_of_ble_eq_true rfl) (fun X hX C hR => ?_)
  have C : gC X cX9_rowsOf RX9 (some (.object "TileRules$RowGraph")) 4 (rA_X9_rowsOf mc ms) := C
  have hcs : 0 ≤ mc ∧ 0 ≤ ms := ⟨Nat.zero_le _, Nat.zero_le _⟩
  show gJ X V 0 0 0 [(0, .ref b0), (1, .int a1), (2, .int a2)] [] I J
  unfold wA_X9_rowsOf at h
  refine j_aload_n (pc := 0) C dX9_rowsOf_0 rfl 0 rfl ?_
  obtain ⟨sl1, b6, hk3, e2, hd4, hn5, h⟩ := h
  refine gJ.eqst (st' := [.ref (V.2.1 0)]) (by rw [e2]) ?_
  refine j_getRa (pc := 1) C 0 0 hk3 hd4 hn5 rfl (by decide) inw_X9 wd_250 dX9_rowsOf_1 ?_
  obtain ⟨sl7, hk9, e8, hd10, hn11, h⟩ := h
  refine gJ.eqst (st' := [.ref (V.2.1 10)]) (by rw [e8]) ?_
  refine j_getI (pc := 4) C 10 4 hk9 hd10 hn11 rfl (by decide) inw_X8 wd_108 dX9_rowsOf_4 ?_
  refine j_iload_n (pc := 7) C dX9_rowsOf_7 rfl 1 rfl ?_
  refine j_callS (pc := 8) (As := [.int (I 10 4), .int a1]) (st := []) C hX (m_X9_power  h) ok_X9_power wd_306 wd_307 ⟨Nat.le_of_ble_eq_true rfl, Nat.le_of_ble_eq_true rfl⟩ rfl rfl (Nat.le_of_ble_eq_true rfl) ⟨hcs.1, hcs.2⟩ dX9_rowsOf_8 (fun r V1 I1 J1 hp => ?_)
  obtain ⟨r12, rfl, rfl, rfl, rfl, h⟩ := hp
  show gJ X V (0) (0) 11 _ [.int r12] _ _
  refine j_istore_n (pc := 11) (lv' := [(3, .int r12), (0, .ref b0), (1, .int a1), (2, .int a2)]) C dX9_rowsOf_11 rfl (by decide) rfl ?_
  refine j_aload_n (pc := 12) C dX9_rowsOf_12 rfl 1 rfl ?_
  obtain ⟨sl13, o19, hk15, e14, hd16, hn17, h⟩ := h
  refine gJ.eqst (st' := [.ref (V.2.1 0)]) (by rw [e14]) ?_
  rcases o19 with _ | b18
  · have h := h.1 rfl
    refine j_getN (pc := 13) C 0 4 hk15 hd16 hn17 rfl (by decide) inw_X9 wd_254 dX9_rowsOf_13 ?_
    refine j_ifnullN (pc := 16) (tgt := 30) C dX9_rowsOf_16 (by decide) ?_
    refine gJ.sub [1, 2, 3, 0] rfl ?_
    exact tA_X9_rowsOf_30 C hX hR hcs  h
  · have h := h.2 b18 rfl
    refine j_getRa (pc := 13) C 0 4 hk15 hd16 hn17 rfl (by decide) inw_X9 wd_254 dX9_rowsOf_13 ?_
    refine j_ifnull (pc := 16) C dX9_rowsOf_16 ?_
    refine j_aload_n (pc := 19) C dX9_rowsOf_19 rfl 1 rfl ?_
    obtain ⟨sl62, b67, hk64, e63, hd65, hn66, h⟩ := h
    refine gJ.eqst (st' := [.ref (V.2.1 0)]) (by rw [e63]) ?_
    refine j_getRa (pc := 20) C 0 4 hk64 hd65 hn66 rfl (by decide) inw_X9 wd_254 dX9_rowsOf_20 ?_
    obtain ⟨sl68, hk70, e69, hd71, hn72, h⟩ := h
    refine gJ.eqst (st' := [.ref (V.2.1 70)]) (by rw [e69]) ?_
    refine j_getI (pc := 23) C 70 0 hk70 hd71 hn72 rfl (by decide) inw_X5 wd_354 dX9_rowsOf_23 ?_
    refine j_iload_n (pc := 26) C dX9_rowsOf_26 rfl 0 rfl ?_
    refine j_icmp_ge (pc := 27) (tgt := 46) C dX9_rowsOf_27 (by decide) (fun q73 => ?_) (fun q73 => ?_)
    · have h := h.1 q73
      refine gJ.sub [1, 2, 3] rfl ?_
      exact tA_X9_rowsOf_46 C hX hR hcs  h
    · have h := h.2 q73
      refine gJ.sub [1, 2, 3, 0] rfl ?_
      exact tA_X9_rowsOf_30 C hX hR hcs  h
/-! TileRules.fillings(IIZ)J -/
abbrev rA_X9_fillings (mc ms : Nat) : Room := { frames := 15, cells := mc, slots := ms, locals := 400 }
theorem ok_X9_fillings : gOk yX9_fillings cX9_fillings 5 (some .long) 3 := ⟨wd_297, wd_69, by decide +kernel⟩
set_option maxRecDepth 100000 in
def wA_X9_fillings (mc ms : Nat) (b0 : Nat) (a1 : Int32) (a2 : Int32) (a3 : Int32) (V : gV) (I : gI) (J : gL) (Po : Int64 → gV → gI → gL → Prop) : Prop :=
  wp_X9_isSide a1 (fun r1 => (r1 = 0 → Po (-2 : Int64) V I J) ∧ (¬ r1 = 0 → wp_X9_isSide a2 (fun r3 => (¬ r3 = 0 → ∃ (sl16 : List (Nat ⊕ Option Nat)) (m6 m7 : Nat), 0 ∈ V.1 ∧ V.2.1 0 = b0 ∧ V.2.2 0 = .inl (9, sl16) ∧ 0 + m6 ≤ mc ∧ 0 + m7 ≤ ms ∧ wA_X9_rowsOf m6 m7  b0 a1 a3 V I J (fun r5 V10 I11 J12 => (a3 = 0 → ∃ (room : Nat), gModTS V10 ∧ gModRG room V10 ∧ V10.2.1 70 = r5 ∧ wp_X5_countOpen room a2 I11 J12 (fun r18 I19 J20 => Po r18 V10 I19 J20)) ∧ (¬ a3 = 0 → ∃ (room : Nat), gModTS V10 ∧ gModRG room V10 ∧ V10.2.1 70 = r5 ∧ wp_X5_countRings room a2 I11 J12 (fun r22 I23 J24 => Po r22 V10 I23 J24)))) ∧ (r3 = 0 → Po (-2 : Int64) V I J))))
set_option maxRecDepth 100000 in
set_option maxHeartbeats 4000000 in
theorem n_X9_fillings {l : Launch} {D : va_G} {cy : Nat → ClassId} {mc ms : Nat} {b0 : Nat} {a1 : Int32} {a2 : Int32} {a3 : Int32} {V : gV} {I : gI} {J : gL} {Po : Int64 → gV → gI → gL → Prop} (h : wA_X9_fillings mc ms b0 a1 a2 a3 V I J Po) : gMet l D cy yX9_fillings cX9_fillings 5 (some .long) (rA_X9_fillings mc ms) V [.ref b0, .int a1, .int a2, .int a3] I J (gQl Po) := by
  refine gMet.of (by decide) (Nat.le_of_ble_eq_true rfl) (fun X hX C hR => ?_)
  have C : gC X cX9_fillings RX9 (some .long) 5 (rA_X9_fillings mc ms) := C
  have hcs : 0 ≤ mc ∧ 0 ≤ ms := ⟨Nat.zero_le _, Nat.zero_le _⟩
  show gJ X V 0 0 0 [(0, .ref b0), (1, .int a1), (2, .int a2), (3, .int a3)] [] I J
  unfold wA_X9_fillings at h
  refine j_iload_n (pc := 0) C dX9_fillings_0 rfl 1 rfl ?_
  refine j_callS (pc := 1) (As := [.int a1]) (st := []) C hX (m_X9_isSide  h) ok_X9_isSide wd_298 wd_299 ⟨Nat.le_of_ble_eq_true rfl, Nat.le_of_ble_eq_true rfl⟩ rfl rfl (Nat.le_of_ble_eq_true rfl) ⟨hcs.1, hcs.2⟩ dX9_fillings_1 (fun r V1 I1 J1 hp => ?_)
  obtain ⟨r1, rfl, rfl, rfl, rfl, h⟩ := hp
  show gJ X V (0) (0) 4 _ [.int r1] _ _
  refine j_if_eq (pc := 4) (tgt := 14) C dX9_fillings_4 (by decide) (fun q2 => ?_) (fun q2 => ?_)
  · have h := h.1 q2
    refine j_ldc2 (pc := 14) (v := (-2)) C dX9_fillings_14 wd_301 ?_
    exact j_lret (pc := 17) C hR hcs.1 hcs.2 dX9_fillings_17 ⟨_, rfl, h⟩
  · have h := h.2 q2
    refine j_iload_n (pc := 7) C dX9_fillings_7 rfl 2 rfl ?_
    refine j_callS (pc := 8) (As := [.int a2]) (st := []) C hX (m_X9_isSide  h) ok_X9_isSide wd_298 wd_299 ⟨Nat.le_of_ble_eq_true rfl, Nat.le_of_ble_eq_true rfl⟩ rfl rfl (Nat.le_of_ble_eq_true rfl) ⟨hcs.1, hcs.2⟩ dX9_fillings_8 (fun r V1 I1 J1 hp => ?_)
    obtain ⟨r3, rfl, rfl, rfl, rfl, h⟩ := hp
    show gJ X V (0) (0) 11 _ [.int r3] _ _
    refine j_if_ne (pc := 11) (tgt := 18) C dX9_fillings_11 (by decide) (fun q4 => ?_) (fun q4 => ?_)
    · have h := h.1 q4
      refine j_aload_n (pc := 18) C dX9_fillings_18 rfl 0 rfl ?_
      refine j_iload_n (pc := 19) C dX9_fillings_19 rfl 1 rfl ?_
      refine j_iload_n (pc := 20) C dX9_fillings_20 rfl 3 rfl ?_
      obtain ⟨sl16, m6, m7, hk14, e13, hd15, g8, g9, h⟩ := h
      refine gJ.eqst (st' := [.int a3, .int a1, .ref (V.2.1 0)]) (by rw [e13]) ?_
      refine j_callV (pc := 21) (As := [.int a1, .int a3]) (st := []) C hX 0 (gMet.at e13 (n_X9_rowsOf h)) hk14 hd15 rfl ok_X9_rowsOf wd_302 wd_304 wd_0 ⟨Nat.le_of_ble_eq_true rfl, Nat.le_of_ble_eq_true rfl⟩ rfl rfl (Nat.le_of_ble_eq_true rfl) ⟨g8, g9⟩ dX9_fillings_21 (fun r V10 I11 J12 hp => ?_)
      obtain ⟨r5, rfl, h⟩ := hp
      have hcs : _ ∧ _ := ⟨g8, g9⟩
      show gJ X V10 (0 + m6) (0 + m7) 24 _ [.ref r5] _ _
      refine j_astore (pc := 24) (lv' := [(4, .ref r5), (0, .ref b0), (1, .int a1), (2, .int a2), (3, .int a3)]) C dX9_fillings_24 (by decide) rfl ?_
      refine j_iload_n (pc := 26) C dX9_fillings_26 rfl 4 rfl ?_
      refine j_if_eq (pc := 27) (tgt := 39) C dX9_fillings_27 (by decide) (fun q17 => ?_) (fun q17 => ?_)
      · have h := h.1 q17
        refine j_aload (pc := 39) C dX9_fillings_39 0 rfl ?_
        refine j_iload_n (pc := 41) C dX9_fillings_41 rfl 3 rfl ?_
        obtain ⟨room, hTS, hRG, e21, h⟩ := h
        refine gJ.eqst (st' := [.int a2, .ref (V10.2.1 70)]) (by rw [e21]) ?_
        refine j_callV (pc := 42) (As := [.int a2]) (st := []) C hX 70 (m_X5_countOpen hTS hRG h) (c_70 hRG).1 (c_70 hRG).2 rfl ok_X5_countOpen wd_457 wd_458 wd_459 ⟨Nat.le_of_ble_eq_true rfl, Nat.le_of_ble_eq_true rfl⟩ rfl rfl (Nat.le_of_ble_eq_true rfl) ⟨hcs.1, hcs.2⟩ dX9_fillings_42 (fun r V1 I19 J20 hp => ?_)
        obtain ⟨r18, rfl, rfl, h⟩ := hp
        show gJ X V10 (0 + m6) (0 + m7) 45 _ [.long r18] _ _
        exact j_lret (pc := 45) C hR hcs.1 hcs.2 dX9_fillings_45 ⟨_, rfl, h⟩
      · have h := h.2 q17
        refine j_aload (pc := 30) C dX9_fillings_30 0 rfl ?_
        refine j_iload_n (pc := 32) C dX9_fillings_32 rfl 3 rfl ?_
        obtain ⟨room, hTS, hRG, e25, h⟩ := h
        refine gJ.eqst (st' := [.int a2, .ref (V10.2.1 70)]) (by rw [e25]) ?_
        refine j_callV (pc := 33) (As := [.int a2]) (st := []) C hX 70 (m_X5_countRings hTS hRG h) (c_70 hRG).1 (c_70 hRG).2 rfl ok_X5_countRings wd_429 wd_430 wd_431 ⟨Nat.le_of_ble_eq_true rfl, Nat.le_of_ble_eq_true rfl⟩ rfl rfl (Nat.le_of_ble_eq_true rfl) ⟨hcs.1, hcs.2⟩ dX9_fillings_33 (fun r V1 I23 J24 hp => ?_)
        obtain ⟨r22, rfl, rfl, h⟩ := hp
        show gJ X V10 (0 + m6) (0 + m7) 36 _ [.long r22] _ _
        refine j_goto (pc := 36) (tgt := 45) C dX9_fillings_36 (by decide) ?_
        exact j_lret (pc := 45) C hR hcs.1 hcs.2 dX9_fillings_45 ⟨_, rfl, h⟩
    · have h := h.2 q4
      refine j_ldc2 (pc := 14) (v := (-2)) C dX9_fillings_14 wd_301 ?_
      exact j_lret (pc := 17) C hR hcs.1 hcs.2 dX9_fillings_17 ⟨_, rfl, h⟩
/-! TileRules.laid(IIZII)I -/
abbrev rA_X9_laid (mc ms : Nat) : Room := { frames := 15, cells := mc, slots := ms, locals := 400 }
theorem ok_X9_laid : gOk yX9_laid cX9_laid 6 (some .int) 5 := ⟨wd_468, wd_69, by decide +kernel⟩
set_option maxRecDepth 100000 in
def wA_X9_laid (mc ms : Nat) (b0 : Nat) (a1 : Int32) (a2 : Int32) (a3 : Int32) (a4 : Int32) (a5 : Int32) (V : gV) (I : gI) (J : gL) (Po : Int32 → gV → gI → gL → Prop) : Prop :=
  wp_X9_isSide a1 (fun r1 => (r1 = 0 → Po (-2 : Int32) V I J) ∧ (¬ r1 = 0 → wp_X9_isSide a2 (fun r3 => (r3 = 0 → Po (-2 : Int32) V I J) ∧ (¬ r3 = 0 → wp_X9_isBetween a4 (0 : Int32) (a1 - (1 : Int32)) (fun r5 => (r5 = 0 → Po (-2 : Int32) V I J) ∧ (¬ r5 = 0 → wp_X9_isBetween a5 (0 : Int32) (a2 - (1 : Int32)) (fun r7 => (¬ r7 = 0 → ∃ (sl20 : List (Nat ⊕ Option Nat)) (m10 m11 : Nat), 0 ∈ V.1 ∧ V.2.1 0 = b0 ∧ V.2.2 0 = .inl (9, sl20) ∧ 0 + m10 ≤ mc ∧ 0 + m11 ≤ ms ∧ wA_X9_rowsOf m10 m11  b0 a1 a3 V I J (fun r9 V14 I15 J16 => ∃ (room : Nat), gModTS V14 ∧ gModRG room V14 ∧ V14.2.1 70 = r9 ∧ wp_X5_firstTileAt room a2 a4 a5 I15 J16 (fun r21 I22 J23 => Po r21 V14 I22 J23))) ∧ (r7 = 0 → Po (-2 : Int32) V I J))))))))
set_option maxRecDepth 100000 in
set_option maxHeartbeats 4000000 in
theorem n_X9_laid {l : Launch} {D : va_G} {cy : Nat → ClassId} {mc ms : Nat} {b0 : Nat} {a1 : Int32} {a2 : Int32} {a3 : Int32} {a4 : Int32} {a5 : Int32} {V : gV} {I : gI} {J : gL} {Po : Int32 → gV → gI → gL → Prop} (h : wA_X9_laid mc ms b0 a1 a2 a3 a4 a5 V I J Po) : gMet l D cy yX9_laid cX9_laid 6 (some .int) (rA_X9_laid mc ms) V [.ref b0, .int a1, .int a2, .int a3, .int a4, .int a5] I J (gQi Po) := by
  refine gMet.of (by decide) (Nat.le_of_ble_eq_true rfl) (fun X hX C hR => ?_)
  have C : gC X cX9_laid RX9 (some .int) 6 (rA_X9_laid mc ms) := C
  have hcs : 0 ≤ mc ∧ 0 ≤ ms := ⟨Nat.zero_le _, Nat.zero_le _⟩
  show gJ X V 0 0 0 [(0, .ref b0), (1, .int a1), (2, .int a2), (3, .int a3), (4, .int a4), (5, .int a5)] [] I J
  unfold wA_X9_laid at h
  refine j_iload_n (pc := 0) C dX9_laid_0 rfl 1 rfl ?_
  refine j_callS (pc := 1) (As := [.int a1]) (st := []) C hX (m_X9_isSide  h) ok_X9_isSide wd_298 wd_299 ⟨Nat.le_of_ble_eq_true rfl, Nat.le_of_ble_eq_true rfl⟩ rfl rfl (Nat.le_of_ble_eq_true rfl) ⟨hcs.1, hcs.2⟩ dX9_laid_1 (fun r V1 I1 J1 hp => ?_)
  obtain ⟨r1, rfl, rfl, rfl, rfl, h⟩ := hp
  show gJ X V (0) (0) 4 _ [.int r1] _ _
  refine j_if_eq (pc := 4) (tgt := 38) C dX9_laid_4 (by decide) (fun q2 => ?_) (fun q2 => ?_)
  · have h := h.1 q2
    refine j_bipush (pc := 38) (v := (-2)) C dX9_laid_38 (by decide) ?_
    exact j_iret (pc := 40) C hR hcs.1 hcs.2 dX9_laid_40 ⟨_, rfl, h⟩
  · have h := h.2 q2
    refine j_iload_n (pc := 7) C dX9_laid_7 rfl 2 rfl ?_
    refine j_callS (pc := 8) (As := [.int a2]) (st := []) C hX (m_X9_isSide  h) ok_X9_isSide wd_298 wd_299 ⟨Nat.le_of_ble_eq_true rfl, Nat.le_of_ble_eq_true rfl⟩ rfl rfl (Nat.le_of_ble_eq_true rfl) ⟨hcs.1, hcs.2⟩ dX9_laid_8 (fun r V1 I1 J1 hp => ?_)
    obtain ⟨r3, rfl, rfl, rfl, rfl, h⟩ := hp
    show gJ X V (0) (0) 11 _ [.int r3] _ _
    refine j_if_eq (pc := 11) (tgt := 38) C dX9_laid_11 (by decide) (fun q4 => ?_) (fun q4 => ?_)
    · have h := h.1 q4
      refine j_bipush (pc := 38) (v := (-2)) C dX9_laid_38 (by decide) ?_
      exact j_iret (pc := 40) C hR hcs.1 hcs.2 dX9_laid_40 ⟨_, rfl, h⟩
    · have h := h.2 q4
      refine j_iload (pc := 14) C dX9_laid_14 4 rfl ?_
      refine j_iconst (pc := 16) (v := 0) C dX9_laid_16 (by decide) ?_
      refine j_iload_n (pc := 17) C dX9_laid_17 rfl 1 rfl ?_
      refine j_iconst (pc := 18) (v := 1) C dX9_laid_18 (by decide) ?_
      refine j_isub (pc := 19) C dX9_laid_19 ?_
      refine j_callS (pc := 20) (As := [.int a4, .int (0 : Int32), .int (a1 - (1 : Int32))]) (st := []) C hX (m_X9_isBetween  h) ok_X9_isBetween wd_279 wd_280 ⟨Nat.le_of_ble_eq_true rfl, Nat.le_of_ble_eq_true rfl⟩ rfl rfl (Nat.le_of_ble_eq_true rfl) ⟨hcs.1, hcs.2⟩ dX9_laid_20 (fun r V1 I1 J1 hp => ?_)
      obtain ⟨r5, rfl, rfl, rfl, rfl, h⟩ := hp
      show gJ X V (0) (0) 23 _ [.int r5] _ _
      refine j_if_eq (pc := 23) (tgt := 38) C dX9_laid_23 (by decide) (fun q6 => ?_) (fun q6 => ?_)
      · have h := h.1 q6
        refine j_bipush (pc := 38) (v := (-2)) C dX9_laid_38 (by decide) ?_
        exact j_iret (pc := 40) C hR hcs.1 hcs.2 dX9_laid_40 ⟨_, rfl, h⟩
      · have h := h.2 q6
        refine j_iload (pc := 26) C dX9_laid_26 5 rfl ?_
        refine j_iconst (pc := 28) (v := 0) C dX9_laid_28 (by decide) ?_
        refine j_iload_n (pc := 29) C dX9_laid_29 rfl 2 rfl ?_
        refine j_iconst (pc := 30) (v := 1) C dX9_laid_30 (by decide) ?_
        refine j_isub (pc := 31) C dX9_laid_31 ?_
        refine j_callS (pc := 32) (As := [.int a5, .int (0 : Int32), .int (a2 - (1 : Int32))]) (st := []) C hX (m_X9_isBetween  h) ok_X9_isBetween wd_279 wd_280 ⟨Nat.le_of_ble_eq_true rfl, Nat.le_of_ble_eq_true rfl⟩ rfl rfl (Nat.le_of_ble_eq_true rfl) ⟨hcs.1, hcs.2⟩ dX9_laid_32 (fun r V1 I1 J1 hp => ?_)
        obtain ⟨r7, rfl, rfl, rfl, rfl, h⟩ := hp
        show gJ X V (0) (0) 35 _ [.int r7] _ _
        refine j_if_ne (pc := 35) (tgt := 41) C dX9_laid_35 (by decide) (fun q8 => ?_) (fun q8 => ?_)
        · have h := h.1 q8
          refine j_aload_n (pc := 41) C dX9_laid_41 rfl 0 rfl ?_
          refine j_iload_n (pc := 42) C dX9_laid_42 rfl 1 rfl ?_
          refine j_iload_n (pc := 43) C dX9_laid_43 rfl 3 rfl ?_
          obtain ⟨sl20, m10, m11, hk18, e17, hd19, g12, g13, h⟩ := h
          refine gJ.eqst (st' := [.int a3, .int a1, .ref (V.2.1 0)]) (by rw [e17]) ?_
          refine j_callV (pc := 44) (As := [.int a1, .int a3]) (st := []) C hX 0 (gMet.at e17 (n_X9_rowsOf h)) hk18 hd19 rfl ok_X9_rowsOf wd_302 wd_304 wd_0 ⟨Nat.le_of_ble_eq_true rfl, Nat.le_of_ble_eq_true rfl⟩ rfl rfl (Nat.le_of_ble_eq_true rfl) ⟨g12, g13⟩ dX9_laid_44 (fun r V14 I15 J16 hp => ?_)
          obtain ⟨r9, rfl, h⟩ := hp
          have hcs : _ ∧ _ := ⟨g12, g13⟩
          show gJ X V14 (0 + m10) (0 + m11) 47 _ [.ref r9] _ _
          refine j_iload_n (pc := 47) C dX9_laid_47 rfl 2 rfl ?_
          refine j_iload (pc := 48) C dX9_laid_48 4 rfl ?_
          refine j_iload (pc := 50) C dX9_laid_50 5 rfl ?_
          obtain ⟨room, hTS, hRG, e24, h⟩ := h
          refine gJ.eqst (st' := [.int a5, .int a4, .int a2, .ref (V14.2.1 70)]) (by rw [e24]) ?_
          refine j_callV (pc := 52) (As := [.int a2, .int a4, .int a5]) (st := []) C hX 70 (m_X5_firstTileAt hTS hRG h) (c_70 hRG).1 (c_70 hRG).2 rfl ok_X5_firstTileAt wd_469 wd_470 wd_471 ⟨Nat.le_of_ble_eq_true rfl, Nat.le_of_ble_eq_true rfl⟩ rfl rfl (Nat.le_of_ble_eq_true rfl) ⟨hcs.1, hcs.2⟩ dX9_laid_52 (fun r V1 I22 J23 hp => ?_)
          obtain ⟨r21, rfl, rfl, h⟩ := hp
          show gJ X V14 (0 + m10) (0 + m11) 55 _ [.int r21] _ _
          exact j_iret (pc := 55) C hR hcs.1 hcs.2 dX9_laid_55 ⟨_, rfl, h⟩
        · have h := h.2 q8
          refine j_bipush (pc := 38) (v := (-2)) C dX9_laid_38 (by decide) ?_
          exact j_iret (pc := 40) C hR hcs.1 hcs.2 dX9_laid_40 ⟨_, rfl, h⟩
/-! TileRules.repeats()I -/
abbrev rA_X9_repeats (mc ms : Nat) : Room := { frames := 15, cells := mc, slots := ms, locals := 400 }
theorem ok_X9_repeats : gOk yX9_repeats cX9_repeats 4 (some .int) 0 := ⟨wd_495, wd_69, by decide +kernel⟩
def wA_X9_repeats_54 (mc ms : Nat)  (Po : Int32 → gV → gI → gL → Prop) (K2 : Int32 → gV → Nat → Nat → gI → gL → Prop) (K10 : Int32 → gV → Nat → Nat → gI → gL → Prop) (v0 : Nat) (v1 : Int32) (v2 : Int32) (V : gV) (c s : Nat) (I : gI) (J : gL) : Prop :=
  ∀ n7 : Int32, n7 = v2 + 1 → K10 n7 V c s I J
def wA_X9_repeats_10b (mc ms : Nat)  (Po : Int32 → gV → gI → gL → Prop) (K2 : Int32 → gV → Nat → Nat → gI → gL → Prop) (K10 : Int32 → gV → Nat → Nat → gI → gL → Prop) (v0 : Nat) (v1 : Int32) (v2 : Int32) (V : gV) (c s : Nat) (I : gI) (J : gL) : Prop :=
  ((4 : Int32) < v2 → ∀ n3 : Int32, n3 = v1 + 1 → K2 n3 V c s I J) ∧ (¬ (4 : Int32) < v2 → ¬ v2 = 0 ∧ ∀ n5 : Int32, n5 = (v1 / v2) → (¬ (n5 * v2) = v1 → wA_X9_repeats_54 mc ms Po K2 K10 v0 v1 v2 V c s I J) ∧ ((n5 * v2) = v1 → wp_X9_isSide n5 (fun r8 => (r8 = 0 → wA_X9_repeats_54 mc ms Po K2 K10 v0 v1 v2 V c s I J) ∧ (¬ r8 = 0 → ∃ (sl21 : List (Nat ⊕ Option Nat)) (m11 m12 : Nat), 0 ∈ V.1 ∧ V.2.1 0 = v0 ∧ V.2.2 0 = .inl (9, sl21) ∧ c + m11 ≤ mc ∧ s + m12 ≤ ms ∧ wA_X9_rowsOf m11 m12  v0 v2 (1 : Int32) V I J (fun r10 V15 I16 J17 => ∃ (room : Nat), gModTS V15 ∧ gModRG room V15 ∧ V15.2.1 70 = r10 ∧ wp_X5_firstRingRow room n5 I16 J17 (fun r22 I23 J24 => (r22 = (-1 : Int32) → wA_X9_repeats_54 mc ms Po K2 K10 v0 v1 v2 V15 (c + m11) (s + m12) I23 J24) ∧ (¬ r22 = (-1 : Int32) → Po (((10 : Int32) * v2) + n5) V15 I23 J24)))))))
def wA_X9_repeats_10 (mc ms : Nat)  (Po : Int32 → gV → gI → gL → Prop) (K2 : Int32 → gV → Nat → Nat → gI → gL → Prop) (v0 : Nat) (v1 : Int32) (v2 : Int32) (V : gV) (c s : Nat) (I : gI) (J : gL) : Prop :=
  ∃ (Inv : Int32 → gV → Nat → Nat → gI → gL → Prop) (mu : Int32 → gV → Nat → Nat → gI → gL → Nat), Inv v2 V c s I J ∧ ∀ (v2 : Int32) (V : gV) (c s : Nat) (I : gI) (J : gL), Inv v2 V c s I J → wA_X9_repeats_10b mc ms  Po K2 (fun u2 V1 c1 s1 I1 J1 => Inv u2 V1 c1 s1 I1 J1 ∧ mu u2 V1 c1 s1 I1 J1 < mu v2 V c s I J) v0 v1 v2 V c s I J
def wA_X9_repeats_2b (mc ms : Nat)  (Po : Int32 → gV → gI → gL → Prop) (K2 : Int32 → gV → Nat → Nat → gI → gL → Prop) (v0 : Nat) (v1 : Int32) (V : gV) (c s : Nat) (I : gI) (J : gL) : Prop :=
  ((16 : Int32) < v1 → Po (-1 : Int32) V I J) ∧ (¬ (16 : Int32) < v1 → wA_X9_repeats_10 mc ms Po K2 v0 v1 (1 : Int32) V c s I J)
def wA_X9_repeats_2 (mc ms : Nat)  (Po : Int32 → gV → gI → gL → Prop)  (v0 : Nat) (v1 : Int32) (V : gV) (c s : Nat) (I : gI) (J : gL) : Prop :=
  ∃ (Inv : Int32 → gV → Nat → Nat → gI → gL → Prop) (mu : Int32 → gV → Nat → Nat → gI → gL → Nat), Inv v1 V c s I J ∧ ∀ (v1 : Int32) (V : gV) (c s : Nat) (I : gI) (J : gL), Inv v1 V c s I J → wA_X9_repeats_2b mc ms  Po  (fun u1 V1 c1 s1 I1 J1 => Inv u1 V1 c1 s1 I1 J1 ∧ mu u1 V1 c1 s1 I1 J1 < mu v1 V c s I J) v0 v1 V c s I J
set_option maxRecDepth 100000 in
def wA_X9_repeats (mc ms : Nat) (b0 : Nat) (V : gV) (I : gI) (J : gL) (Po : Int32 → gV → gI → gL → Prop) : Prop :=
  wA_X9_repeats_2 mc ms Po b0 (1 : Int32) V 0 0 I J
set_option maxRecDepth 100000 in
set_option maxHeartbeats 4000000 in
theorem tA_X9_repeats_54 {X : gX} {l : Launch} {D : va_G} {cy : Nat → ClassId} {mc ms : Nat} (C : gC X cX9_repeats RX9 (some .int) 4 (rA_X9_repeats mc ms)) (hX : gIs X l D cy yX9_repeats.name) {Po : Int32 → gV → gI → gL → Prop} (hR : gR X (gQi Po)) {v0 : Nat} {v1 : Int32} {v2 : Int32} {V : gV} {c s : Nat} {I : gI} {J : gL} (hcs : c ≤ mc ∧ s ≤ ms) {K2 : Int32 → gV → Nat → Nat → gI → gL → Prop} {K10 : Int32 → gV → Nat → Nat → gI → gL → Prop} (hK2 : ∀ (y1 : Int32) (V1 : gV) (c1 s1 : Nat) (I1 : gI) (J1 : gL), (c1 ≤ mc ∧ s1 ≤ ms) → K2 y1 V1 c1 s1 I1 J1 → gJ X V1 c1 s1 2 [(0, .ref v0), (1, .int y1)] [] I1 J1) (hK10 : ∀ (y2 : Int32) (V1 : gV) (c1 s1 : Nat) (I1 : gI) (J1 : gL), (c1 ≤ mc ∧ s1 ≤ ms) → K10 y2 V1 c1 s1 I1 J1 → gJ X V1 c1 s1 10 [(0, .ref v0), (1, .int v1), (2, .int y2)] [] I1 J1) (h : wA_X9_repeats_54 mc ms Po K2 K10 v0 v1 v2 V c s I J) : gJ X V c s 54 [(0, .ref v0), (1, .int v1), (2, .int v2)] [] I J := by
  unfold wA_X9_repeats_54 at h
  obtain ⟨n7, en7⟩ : ∃ z : Int32, z = v2 + 1 := ⟨_, rfl⟩
  have h := h n7 en7
  refine j_iinc (pc := 54) (v := n7) (lv' := [(2, .int n7), (0, .ref v0), (1, .int v1)]) C dX9_repeats_54 2 rfl (by rw [en7]; rfl) (by decide) rfl ?_
  refine j_goto (pc := 57) (tgt := 10) C dX9_repeats_57 (by decide) ?_
  refine gJ.sub [1, 2, 0] rfl ?_
  exact hK10 _ _ _ _ _ _ hcs h
set_option maxRecDepth 100000 in
set_option maxHeartbeats 4000000 in
theorem tA_X9_repeats_10b {X : gX} {l : Launch} {D : va_G} {cy : Nat → ClassId} {mc ms : Nat} (C : gC X cX9_repeats RX9 (some .int) 4 (rA_X9_repeats mc ms)) (hX : gIs X l D cy yX9_repeats.name) {Po : Int32 → gV → gI → gL → Prop} (hR : gR X (gQi Po)) {v0 : Nat} {v1 : Int32} {v2 : Int32} {V : gV} {c s : Nat} {I : gI} {J : gL} (hcs : c ≤ mc ∧ s ≤ ms) {K2 : Int32 → gV → Nat → Nat → gI → gL → Prop} {K10 : Int32 → gV → Nat → Nat → gI → gL → Prop} (hK2 : ∀ (y1 : Int32) (V1 : gV) (c1 s1 : Nat) (I1 : gI) (J1 : gL), (c1 ≤ mc ∧ s1 ≤ ms) → K2 y1 V1 c1 s1 I1 J1 → gJ X V1 c1 s1 2 [(0, .ref v0), (1, .int y1)] [] I1 J1) (hK10 : ∀ (y2 : Int32) (V1 : gV) (c1 s1 : Nat) (I1 : gI) (J1 : gL), (c1 ≤ mc ∧ s1 ≤ ms) → K10 y2 V1 c1 s1 I1 J1 → gJ X V1 c1 s1 10 [(0, .ref v0), (1, .int v1), (2, .int y2)] [] I1 J1) (h : wA_X9_repeats_10b mc ms Po K2 K10 v0 v1 v2 V c s I J) : gJ X V c s 10 [(0, .ref v0), (1, .int v1), (2, .int v2)] [] I J := by
  unfold wA_X9_repeats_10b at h
  refine j_iload_n (pc := 10) C dX9_repeats_10 rfl 2 rfl ?_
  refine j_iconst (pc := 11) (v := 4) C dX9_repeats_11 (by decide) ?_
  refine j_icmp_gt (pc := 12) (tgt := 60) C dX9_repeats_12 (by decide) (fun q2 => ?_) (fun q2 => ?_)
  · have h := h.1 q2
    obtain ⟨n3, en3⟩ : ∃ z : Int32, z = v1 + 1 := ⟨_, rfl⟩
    have h := h n3 en3
    refine j_iinc (pc := 60) (v := n3) (lv' := [(1, .int n3), (0, .ref v0), (2, .int v2)]) C dX9_repeats_60 1 rfl (by rw [en3]; rfl) (by decide) rfl ?_
    refine j_goto (pc := 63) (tgt := 2) C dX9_repeats_63 (by decide) ?_
    refine gJ.sub [1, 0] rfl ?_
    exact hK2 _ _ _ _ _ _ hcs h
  · have h := h.2 q2
    refine j_iload_n (pc := 15) C dX9_repeats_15 rfl 1 rfl ?_
    refine j_iload_n (pc := 16) C dX9_repeats_16 rfl 2 rfl ?_
    obtain ⟨g4, h⟩ := h
    refine j_idiv (pc := 17) C dX9_repeats_17 g4 ?_
    refine gJ.topi (fun n5 en5 => ?_)
    have h := h n5 en5
    refine j_istore_n (pc := 18) (lv' := [(3, .int n5), (0, .ref v0), (1, .int v1), (2, .int v2)]) C dX9_repeats_18 rfl (by decide) rfl ?_
    refine j_iload_n (pc := 19) C dX9_repeats_19 rfl 0 rfl ?_
    refine j_iload_n (pc := 20) C dX9_repeats_20 rfl 3 rfl ?_
    refine j_imul (pc := 21) C dX9_repeats_21 ?_
    refine j_iload_n (pc := 22) C dX9_repeats_22 rfl 2 rfl ?_
    refine j_icmp_ne (pc := 23) (tgt := 54) C dX9_repeats_23 (by decide) (fun q6 => ?_) (fun q6 => ?_)
    · have h := h.1 q6
      refine gJ.sub [1, 2, 3] rfl ?_
      exact tA_X9_repeats_54 C hX hR hcs hK2 hK10 h
    · have h := h.2 q6
      refine j_iload_n (pc := 26) C dX9_repeats_26 rfl 0 rfl ?_
      refine j_callS (pc := 27) (As := [.int n5]) (st := []) C hX (m_X9_isSide  h) ok_X9_isSide wd_298 wd_299 ⟨Nat.le_of_ble_eq_true rfl, Nat.le_of_ble_eq_true rfl⟩ rfl rfl (Nat.le_of_ble_eq_true rfl) ⟨hcs.1, hcs.2⟩ dX9_repeats_27 (fun r V1 I1 J1 hp => ?_)
      obtain ⟨r8, rfl, rfl, rfl, rfl, h⟩ := hp
      show gJ X V (c) (s) 30 _ [.int r8] _ _
      refine j_if_eq (pc := 30) (tgt := 54) C dX9_repeats_30 (by decide) (fun q9 => ?_) (fun q9 => ?_)
      · have h := h.1 q9
        refine gJ.sub [1, 2, 3] rfl ?_
        exact tA_X9_repeats_54 C hX hR hcs hK2 hK10 h
      · have h := h.2 q9
        refine j_aload_n (pc := 33) C dX9_repeats_33 rfl 1 rfl ?_
        refine j_iload_n (pc := 34) C dX9_repeats_34 rfl 3 rfl ?_
        refine j_iconst (pc := 35) (v := 1) C dX9_repeats_35 (by decide) ?_
        obtain ⟨sl21, m11, m12, hk19, e18, hd20, g13, g14, h⟩ := h
        refine gJ.eqst (st' := [.int (1 : Int32), .int v2, .ref (V.2.1 0)]) (by rw [e18]) ?_
        refine j_callV (pc := 36) (As := [.int v2, .int (1 : Int32)]) (st := []) C hX 0 (gMet.at e18 (n_X9_rowsOf h)) hk19 hd20 rfl ok_X9_rowsOf wd_302 wd_304 wd_0 ⟨Nat.le_of_ble_eq_true rfl, Nat.le_of_ble_eq_true rfl⟩ rfl rfl (Nat.le_of_ble_eq_true rfl) ⟨g13, g14⟩ dX9_repeats_36 (fun r V15 I16 J17 hp => ?_)
        obtain ⟨r10, rfl, h⟩ := hp
        have hcs : _ ∧ _ := ⟨g13, g14⟩
        show gJ X V15 (c + m11) (s + m12) 39 _ [.ref r10] _ _
        refine j_iload_n (pc := 39) C dX9_repeats_39 rfl 0 rfl ?_
        obtain ⟨room, hTS, hRG, e25, h⟩ := h
        refine gJ.eqst (st' := [.int n5, .ref (V15.2.1 70)]) (by rw [e25]) ?_
        refine j_callV (pc := 40) (As := [.int n5]) (st := []) C hX 70 (m_X5_firstRingRow hTS hRG h) (c_70 hRG).1 (c_70 hRG).2 rfl ok_X5_firstRingRow wd_496 wd_474 wd_475 ⟨Nat.le_of_ble_eq_true rfl, Nat.le_of_ble_eq_true rfl⟩ rfl rfl (Nat.le_of_ble_eq_true rfl) ⟨hcs.1, hcs.2⟩ dX9_repeats_40 (fun r V1 I23 J24 hp => ?_)
        obtain ⟨r22, rfl, rfl, h⟩ := hp
        show gJ X V15 (c + m11) (s + m12) 43 _ [.int r22] _ _
        refine j_iconst (pc := 43) (v := (-1)) C dX9_repeats_43 (by decide) ?_
        refine j_icmp_eq (pc := 44) (tgt := 54) C dX9_repeats_44 (by decide) (fun q26 => ?_) (fun q26 => ?_)
        · have h := h.1 q26
          refine gJ.sub [1, 2, 3] rfl ?_
          exact tA_X9_repeats_54 C hX hR hcs hK2 hK10 h
        · have h := h.2 q26
          refine j_bipush (pc := 47) (v := 10) C dX9_repeats_47 (by decide) ?_
          refine j_iload_n (pc := 49) C dX9_repeats_49 rfl 3 rfl ?_
          refine j_imul (pc := 50) C dX9_repeats_50 ?_
          refine j_iload_n (pc := 51) C dX9_repeats_51 rfl 0 rfl ?_
          refine j_iadd (pc := 52) C dX9_repeats_52 ?_
          exact j_iret (pc := 53) C hR hcs.1 hcs.2 dX9_repeats_53 ⟨_, rfl, h⟩
set_option maxRecDepth 100000 in
set_option maxHeartbeats 4000000 in
theorem tA_X9_repeats_10 {X : gX} {l : Launch} {D : va_G} {cy : Nat → ClassId} {mc ms : Nat} (C : gC X cX9_repeats RX9 (some .int) 4 (rA_X9_repeats mc ms)) (hX : gIs X l D cy yX9_repeats.name) {Po : Int32 → gV → gI → gL → Prop} (hR : gR X (gQi Po)) {v0 : Nat} {v1 : Int32} {v2 : Int32} {V : gV} {c s : Nat} {I : gI} {J : gL} (hcs : c ≤ mc ∧ s ≤ ms) {K2 : Int32 → gV → Nat → Nat → gI → gL → Prop} (hK2 : ∀ (y1 : Int32) (V1 : gV) (c1 s1 : Nat) (I1 : gI) (J1 : gL), (c1 ≤ mc ∧ s1 ≤ ms) → K2 y1 V1 c1 s1 I1 J1 → gJ X V1 c1 s1 2 [(0, .ref v0), (1, .int y1)] [] I1 J1) (h : wA_X9_repeats_10 mc ms Po K2 v0 v1 v2 V c s I J) : gJ X V c s 10 [(0, .ref v0), (1, .int v1), (2, .int v2)] [] I J := by
  unfold wA_X9_repeats_10 at h
  obtain ⟨Inv, mu, h0, hs⟩ := h
  have key : ∀ (n : Nat) (v2 : Int32) (V : gV) (c s : Nat) (I : gI) (J : gL), (c ≤ mc ∧ s ≤ ms) → Inv v2 V c s I J → mu v2 V c s I J < n → gJ X V c s 10 [(0, .ref v0), (1, .int v1), (2, .int v2)] [] I J := by
    intro n
    induction n with
    | zero => intro v2 V c s I J hq hi hn; exact absurd hn (Nat.not_lt_zero _)
    | succ n ih =>
      intro v2 V c s I J hq hi hn
      exact tA_X9_repeats_10b C hX hR hq hK2 (fun u2 V1 c1 s1 I1 J1 hq1 hk => ih u2 V1 c1 s1 I1 J1 hq1 hk.1 (Nat.lt_of_lt_of_le hk.2 (Nat.le_of_lt_succ hn))) (hs v2 V c s I J hi)
  exact key _ v2 V c s I J hcs h0 (Nat.lt_succ_self _)
set_option maxRecDepth 100000 in
set_option maxHeartbeats 4000000 in
theorem tA_X9_repeats_2b {X : gX} {l : Launch} {D : va_G} {cy : Nat → ClassId} {mc ms : Nat} (C : gC X cX9_repeats RX9 (some .int) 4 (rA_X9_repeats mc ms)) (hX : gIs X l D cy yX9_repeats.name) {Po : Int32 → gV → gI → gL → Prop} (hR : gR X (gQi Po)) {v0 : Nat} {v1 : Int32} {V : gV} {c s : Nat} {I : gI} {J : gL} (hcs : c ≤ mc ∧ s ≤ ms) {K2 : Int32 → gV → Nat → Nat → gI → gL → Prop} (hK2 : ∀ (y1 : Int32) (V1 : gV) (c1 s1 : Nat) (I1 : gI) (J1 : gL), (c1 ≤ mc ∧ s1 ≤ ms) → K2 y1 V1 c1 s1 I1 J1 → gJ X V1 c1 s1 2 [(0, .ref v0), (1, .int y1)] [] I1 J1) (h : wA_X9_repeats_2b mc ms Po K2 v0 v1 V c s I J) : gJ X V c s 2 [(0, .ref v0), (1, .int v1)] [] I J := by
  unfold wA_X9_repeats_2b at h
  refine j_iload_n (pc := 2) C dX9_repeats_2 rfl 1 rfl ?_
  refine j_bipush (pc := 3) (v := 16) C dX9_repeats_3 (by decide) ?_
  refine j_icmp_gt (pc := 5) (tgt := 66) C dX9_repeats_5 (by decide) (fun q1 => ?_) (fun q1 => ?_)
  · have h := h.1 q1
    refine j_iconst (pc := 66) (v := (-1)) C dX9_repeats_66 (by decide) ?_
    exact j_iret (pc := 67) C hR hcs.1 hcs.2 dX9_repeats_67 ⟨_, rfl, h⟩
  · have h := h.2 q1
    refine j_iconst (pc := 8) (v := 1) C dX9_repeats_8 (by decide) ?_
    refine j_istore_n (pc := 9) (lv' := [(2, .int (1 : Int32)), (0, .ref v0), (1, .int v1)]) C dX9_repeats_9 rfl (by decide) rfl ?_
    refine gJ.sub [1, 2, 0] rfl ?_
    exact tA_X9_repeats_10 C hX hR hcs hK2 h
set_option maxRecDepth 100000 in
set_option maxHeartbeats 4000000 in
theorem tA_X9_repeats_2 {X : gX} {l : Launch} {D : va_G} {cy : Nat → ClassId} {mc ms : Nat} (C : gC X cX9_repeats RX9 (some .int) 4 (rA_X9_repeats mc ms)) (hX : gIs X l D cy yX9_repeats.name) {Po : Int32 → gV → gI → gL → Prop} (hR : gR X (gQi Po)) {v0 : Nat} {v1 : Int32} {V : gV} {c s : Nat} {I : gI} {J : gL} (hcs : c ≤ mc ∧ s ≤ ms) (h : wA_X9_repeats_2 mc ms Po v0 v1 V c s I J) : gJ X V c s 2 [(0, .ref v0), (1, .int v1)] [] I J := by
  unfold wA_X9_repeats_2 at h
  obtain ⟨Inv, mu, h0, hs⟩ := h
  have key : ∀ (n : Nat) (v1 : Int32) (V : gV) (c s : Nat) (I : gI) (J : gL), (c ≤ mc ∧ s ≤ ms) → Inv v1 V c s I J → mu v1 V c s I J < n → gJ X V c s 2 [(0, .ref v0), (1, .int v1)] [] I J := by
    intro n
    induction n with
    | zero => intro v1 V c s I J hq hi hn; exact absurd hn (Nat.not_lt_zero _)
    | succ n ih =>
      intro v1 V c s I J hq hi hn
      exact tA_X9_repeats_2b C hX hR hq  (fun u1 V1 c1 s1 I1 J1 hq1 hk => ih u1 V1 c1 s1 I1 J1 hq1 hk.1 (Nat.lt_of_lt_of_le hk.2 (Nat.le_of_lt_succ hn))) (hs v1 V c s I J hi)
  exact key _ v1 V c s I J hcs h0 (Nat.lt_succ_self _)
set_option maxRecDepth 100000 in
set_option maxHeartbeats 4000000 in
theorem n_X9_repeats {l : Launch} {D : va_G} {cy : Nat → ClassId} {mc ms : Nat} {b0 : Nat} {V : gV} {I : gI} {J : gL} {Po : Int32 → gV → gI → gL → Prop} (h : wA_X9_repeats mc ms b0 V I J Po) : gMet l D cy yX9_repeats cX9_repeats 4 (some .int) (rA_X9_repeats mc ms) V [.ref b0] I J (gQi Po) := by
  refine gMet.of (by decide) (Nat.le_of_ble_eq_true rfl) (fun X hX C hR => ?_)
  have C : gC X cX9_repeats RX9 (some .int) 4 (rA_X9_repeats mc ms) := C
  have hcs : 0 ≤ mc ∧ 0 ≤ ms := ⟨Nat.zero_le _, Nat.zero_le _⟩
  show gJ X V 0 0 0 [(0, .ref b0)] [] I J
  unfold wA_X9_repeats at h
  refine j_iconst (pc := 0) (v := 1) C dX9_repeats_0 (by decide) ?_
  refine j_istore_n (pc := 1) (lv' := [(1, .int (1 : Int32)), (0, .ref b0)]) C dX9_repeats_1 rfl (by decide) rfl ?_
  refine gJ.sub [1, 0] rfl ?_
  exact tA_X9_repeats_2 C hX hR hcs  h
/-! TileRules.radius()I -/
abbrev rA_X9_radius (mc ms : Nat) : Room := { frames := 15, cells := mc, slots := ms, locals := 400 }
theorem ok_X9_radius : gOk yX9_radius cX9_radius 2 (some .int) 0 := ⟨wd_500, wd_69, by decide +kernel⟩
def wA_X9_radius_2b (mc ms : Nat)  (Po : Int32 → gV → gI → gL → Prop) (K2 : Int32 → gV → Nat → Nat → gI → gL → Prop) (v0 : Nat) (v1 : Int32) (V : gV) (c s : Nat) (I : gI) (J : gL) : Prop :=
  ((4 : Int32) < v1 → Po (-1 : Int32) V I J) ∧ (¬ (4 : Int32) < v1 → ∃ (sl13 : List (Nat ⊕ Option Nat)) (m3 m4 : Nat), 0 ∈ V.1 ∧ V.2.1 0 = v0 ∧ V.2.2 0 = .inl (9, sl13) ∧ c + m3 ≤ mc ∧ s + m4 ≤ ms ∧ wA_X9_rowsOf m3 m4  v0 v1 (0 : Int32) V I J (fun r2 V7 I8 J9 => ∃ (room : Nat), gModTS V7 ∧ gModRG room V7 ∧ V7.2.1 70 = r2 ∧ wp_X5_countOpen room v1 I8 J9 (fun r14 I15 J16 => (¬ (lg_cmp r14 (0 : Int64)) = 0 → ∀ n19 : Int32, n19 = v1 + 1 → K2 n19 V7 (c + m3) (s + m4) I15 J16) ∧ ((lg_cmp r14 (0 : Int64)) = 0 → Po v1 V7 I15 J16))))
def wA_X9_radius_2 (mc ms : Nat)  (Po : Int32 → gV → gI → gL → Prop)  (v0 : Nat) (v1 : Int32) (V : gV) (c s : Nat) (I : gI) (J : gL) : Prop :=
  ∃ (Inv : Int32 → gV → Nat → Nat → gI → gL → Prop) (mu : Int32 → gV → Nat → Nat → gI → gL → Nat), Inv v1 V c s I J ∧ ∀ (v1 : Int32) (V : gV) (c s : Nat) (I : gI) (J : gL), Inv v1 V c s I J → wA_X9_radius_2b mc ms  Po  (fun u1 V1 c1 s1 I1 J1 => Inv u1 V1 c1 s1 I1 J1 ∧ mu u1 V1 c1 s1 I1 J1 < mu v1 V c s I J) v0 v1 V c s I J
set_option maxRecDepth 100000 in
def wA_X9_radius (mc ms : Nat) (b0 : Nat) (V : gV) (I : gI) (J : gL) (Po : Int32 → gV → gI → gL → Prop) : Prop :=
  wA_X9_radius_2 mc ms Po b0 (1 : Int32) V 0 0 I J
set_option maxRecDepth 100000 in
set_option maxHeartbeats 4000000 in
theorem tA_X9_radius_2b {X : gX} {l : Launch} {D : va_G} {cy : Nat → ClassId} {mc ms : Nat} (C : gC X cX9_radius RX9 (some .int) 2 (rA_X9_radius mc ms)) (hX : gIs X l D cy yX9_radius.name) {Po : Int32 → gV → gI → gL → Prop} (hR : gR X (gQi Po)) {v0 : Nat} {v1 : Int32} {V : gV} {c s : Nat} {I : gI} {J : gL} (hcs : c ≤ mc ∧ s ≤ ms) {K2 : Int32 → gV → Nat → Nat → gI → gL → Prop} (hK2 : ∀ (y1 : Int32) (V1 : gV) (c1 s1 : Nat) (I1 : gI) (J1 : gL), (c1 ≤ mc ∧ s1 ≤ ms) → K2 y1 V1 c1 s1 I1 J1 → gJ X V1 c1 s1 2 [(0, .ref v0), (1, .int y1)] [] I1 J1) (h : wA_X9_radius_2b mc ms Po K2 v0 v1 V c s I J) : gJ X V c s 2 [(0, .ref v0), (1, .int v1)] [] I J := by
  unfold wA_X9_radius_2b at h
  refine j_iload_n (pc := 2) C dX9_radius_2 rfl 1 rfl ?_
  refine j_iconst (pc := 3) (v := 4) C dX9_radius_3 (by decide) ?_
  refine j_icmp_gt (pc := 4) (tgt := 30) C dX9_radius_4 (by decide) (fun q1 => ?_) (fun q1 => ?_)
  · have h := h.1 q1
    refine j_iconst (pc := 30) (v := (-1)) C dX9_radius_30 (by decide) ?_
    exact j_iret (pc := 31) C hR hcs.1 hcs.2 dX9_radius_31 ⟨_, rfl, h⟩
  · have h := h.2 q1
    refine j_aload_n (pc := 7) C dX9_radius_7 rfl 0 rfl ?_
    refine j_iload_n (pc := 8) C dX9_radius_8 rfl 1 rfl ?_
    refine j_iconst (pc := 9) (v := 0) C dX9_radius_9 (by decide) ?_
    obtain ⟨sl13, m3, m4, hk11, e10, hd12, g5, g6, h⟩ := h
    refine gJ.eqst (st' := [.int (0 : Int32), .int v1, .ref (V.2.1 0)]) (by rw [e10]) ?_
    refine j_callV (pc := 10) (As := [.int v1, .int (0 : Int32)]) (st := []) C hX 0 (gMet.at e10 (n_X9_rowsOf h)) hk11 hd12 rfl ok_X9_rowsOf wd_302 wd_304 wd_0 ⟨Nat.le_of_ble_eq_true rfl, Nat.le_of_ble_eq_true rfl⟩ rfl rfl (Nat.le_of_ble_eq_true rfl) ⟨g5, g6⟩ dX9_radius_10 (fun r V7 I8 J9 hp => ?_)
    obtain ⟨r2, rfl, h⟩ := hp
    have hcs : _ ∧ _ := ⟨g5, g6⟩
    show gJ X V7 (c + m3) (s + m4) 13 _ [.ref r2] _ _
    refine j_iload_n (pc := 13) C dX9_radius_13 rfl 1 rfl ?_
    obtain ⟨room, hTS, hRG, e17, h⟩ := h
    refine gJ.eqst (st' := [.int v1, .ref (V7.2.1 70)]) (by rw [e17]) ?_
    refine j_callV (pc := 14) (As := [.int v1]) (st := []) C hX 70 (m_X5_countOpen hTS hRG h) (c_70 hRG).1 (c_70 hRG).2 rfl ok_X5_countOpen wd_457 wd_458 wd_459 ⟨Nat.le_of_ble_eq_true rfl, Nat.le_of_ble_eq_true rfl⟩ rfl rfl (Nat.le_of_ble_eq_true rfl) ⟨hcs.1, hcs.2⟩ dX9_radius_14 (fun r V1 I15 J16 hp => ?_)
    obtain ⟨r14, rfl, rfl, h⟩ := hp
    show gJ X V7 (c + m3) (s + m4) 17 _ [.long r14] _ _
    refine j_lconst (pc := 17) (v := 0) C dX9_radius_17 (by decide) ?_
    refine j_lcmp (pc := 18) C dX9_radius_18 ?_
    refine j_if_ne (pc := 19) (tgt := 24) C dX9_radius_19 (by decide) (fun q18 => ?_) (fun q18 => ?_)
    · have h := h.1 q18
      obtain ⟨n19, en19⟩ : ∃ z : Int32, z = v1 + 1 := ⟨_, rfl⟩
      have h := h n19 en19
      refine j_iinc (pc := 24) (v := n19) (lv' := [(1, .int n19), (0, .ref v0)]) C dX9_radius_24 1 rfl (by rw [en19]; rfl) (by decide) rfl ?_
      refine j_goto (pc := 27) (tgt := 2) C dX9_radius_27 (by decide) ?_
      refine gJ.sub [1, 0] rfl ?_
      exact hK2 _ _ _ _ _ _ hcs h
    · have h := h.2 q18
      refine j_iload_n (pc := 22) C dX9_radius_22 rfl 1 rfl ?_
      exact j_iret (pc := 23) C hR hcs.1 hcs.2 dX9_radius_23 ⟨_, rfl, h⟩
set_option maxRecDepth 100000 in
set_option maxHeartbeats 4000000 in
theorem tA_X9_radius_2 {X : gX} {l : Launch} {D : va_G} {cy : Nat → ClassId} {mc ms : Nat} (C : gC X cX9_radius RX9 (some .int) 2 (rA_X9_radius mc ms)) (hX : gIs X l D cy yX9_radius.name) {Po : Int32 → gV → gI → gL → Prop} (hR : gR X (gQi Po)) {v0 : Nat} {v1 : Int32} {V : gV} {c s : Nat} {I : gI} {J : gL} (hcs : c ≤ mc ∧ s ≤ ms) (h : wA_X9_radius_2 mc ms Po v0 v1 V c s I J) : gJ X V c s 2 [(0, .ref v0), (1, .int v1)] [] I J := by
  unfold wA_X9_radius_2 at h
  obtain ⟨Inv, mu, h0, hs⟩ := h
  have key : ∀ (n : Nat) (v1 : Int32) (V : gV) (c s : Nat) (I : gI) (J : gL), (c ≤ mc ∧ s ≤ ms) → Inv v1 V c s I J → mu v1 V c s I J < n → gJ X V c s 2 [(0, .ref v0), (1, .int v1)] [] I J := by
    intro n
    induction n with
    | zero => intro v1 V c s I J hq hi hn; exact absurd hn (Nat.not_lt_zero _)
    | succ n ih =>
      intro v1 V c s I J hq hi hn
      exact tA_X9_radius_2b C hX hR hq  (fun u1 V1 c1 s1 I1 J1 hq1 hk => ih u1 V1 c1 s1 I1 J1 hq1 hk.1 (Nat.lt_of_lt_of_le hk.2 (Nat.le_of_lt_succ hn))) (hs v1 V c s I J hi)
  exact key _ v1 V c s I J hcs h0 (Nat.lt_succ_self _)
set_option maxRecDepth 100000 in
set_option maxHeartbeats 4000000 in
theorem n_X9_radius {l : Launch} {D : va_G} {cy : Nat → ClassId} {mc ms : Nat} {b0 : Nat} {V : gV} {I : gI} {J : gL} {Po : Int32 → gV → gI → gL → Prop} (h : wA_X9_radius mc ms b0 V I J Po) : gMet l D cy yX9_radius cX9_radius 2 (some .int) (rA_X9_radius mc ms) V [.ref b0] I J (gQi Po) := by
  refine gMet.of (by decide) (Nat.le_of_ble_eq_true rfl) (fun X hX C hR => ?_)
  have C : gC X cX9_radius RX9 (some .int) 2 (rA_X9_radius mc ms) := C
  have hcs : 0 ≤ mc ∧ 0 ≤ ms := ⟨Nat.zero_le _, Nat.zero_le _⟩
  show gJ X V 0 0 0 [(0, .ref b0)] [] I J
  unfold wA_X9_radius at h
  refine j_iconst (pc := 0) (v := 1) C dX9_radius_0 (by decide) ?_
  refine j_istore_n (pc := 1) (lv' := [(1, .int (1 : Int32)), (0, .ref b0)]) C dX9_radius_1 rfl (by decide) rfl ?_
  refine gJ.sub [1, 0] rfl ?_
  exact tA_X9_radius_2 C hX hR hcs  h
/-! TileRules.middle(I)J -/
abbrev rA_X9_middle (mc ms : Nat) : Room := { frames := 15, cells := mc, slots := ms, locals := 400 }
theorem ok_X9_middle : gOk yX9_middle cX9_middle 2 (some .long) 1 := ⟨wd_504, wd_69, by decide +kernel⟩
set_option maxRecDepth 100000 in
def wA_X9_middle (mc ms : Nat) (b0 : Nat) (a1 : Int32) (V : gV) (I : gI) (J : gL) (Po : Int64 → gV → gI → gL → Prop) : Prop :=
  ∃ (sl1 : List (Nat ⊕ Option Nat)) (b6 : Nat), 0 ∈ V.1 ∧ V.2.1 0 = b0 ∧ V.2.2 0 = .inl (9, sl1) ∧ sl1[0]? = some (.inr (some b6)) ∧ ∃ sl7 : List (Nat ⊕ Option Nat), 10 ∈ V.1 ∧ V.2.1 10 = b6 ∧ V.2.2 10 = .inl (8, sl7) ∧ sl7[4]? = some (.inl 0) ∧ wp_X9_isBetween a1 (0 : Int32) ((I 10 4) - (1 : Int32)) (fun r12 => (¬ r12 = 0 → ∃ (sl25 : List (Nat ⊕ Option Nat)) (m15 m16 : Nat), 0 ∈ V.1 ∧ V.2.1 0 = b0 ∧ V.2.2 0 = .inl (9, sl25) ∧ 0 + m15 ≤ mc ∧ 0 + m16 ≤ ms ∧ wA_X9_rowsOf m15 m16  b0 (3 : Int32) (0 : Int32) V I J (fun r14 V19 I20 J21 => ∃ (room : Nat), gModTS V19 ∧ gModRG room V19 ∧ V19.2.1 70 = r14 ∧ wp_X5_countAroundMiddle room a1 I20 J21 (fun r26 I27 J28 => Po r26 V19 I27 J28))) ∧ (r12 = 0 → Po (-2 : Int64) V I J))
set_option maxRecDepth 100000 in
set_option maxHeartbeats 4000000 in
theorem n_X9_middle {l : Launch} {D : va_G} {cy : Nat → ClassId} {mc ms : Nat} {b0 : Nat} {a1 : Int32} {V : gV} {I : gI} {J : gL} {Po : Int64 → gV → gI → gL → Prop} (h : wA_X9_middle mc ms b0 a1 V I J Po) : gMet l D cy yX9_middle cX9_middle 2 (some .long) (rA_X9_middle mc ms) V [.ref b0, .int a1] I J (gQl Po) := by
  refine gMet.of (by decide) (Nat.le_of_ble_eq_true rfl) (fun X hX C hR => ?_)
  have C : gC X cX9_middle RX9 (some .long) 2 (rA_X9_middle mc ms) := C
  have hcs : 0 ≤ mc ∧ 0 ≤ ms := ⟨Nat.zero_le _, Nat.zero_le _⟩
  show gJ X V 0 0 0 [(0, .ref b0), (1, .int a1)] [] I J
  unfold wA_X9_middle at h
  refine j_iload_n (pc := 0) C dX9_middle_0 rfl 1 rfl ?_
  refine j_iconst (pc := 1) (v := 0) C dX9_middle_1 (by decide) ?_
  refine j_aload_n (pc := 2) C dX9_middle_2 rfl 0 rfl ?_
  obtain ⟨sl1, b6, hk3, e2, hd4, hn5, h⟩ := h
  refine gJ.eqst (st' := [.ref (V.2.1 0), .int (0 : Int32), .int a1]) (by rw [e2]) ?_
  refine j_getRa (pc := 3) C 0 0 hk3 hd4 hn5 rfl (by decide) inw_X9 wd_250 dX9_middle_3 ?_
  obtain ⟨sl7, hk9, e8, hd10, hn11, h⟩ := h
  refine gJ.eqst (st' := [.ref (V.2.1 10), .int (0 : Int32), .int a1]) (by rw [e8]) ?_
  refine j_getI (pc := 6) C 10 4 hk9 hd10 hn11 rfl (by decide) inw_X8 wd_108 dX9_middle_6 ?_
  refine j_iconst (pc := 9) (v := 1) C dX9_middle_9 (by decide) ?_
  refine j_isub (pc := 10) C dX9_middle_10 ?_
  refine j_callS (pc := 11) (As := [.int a1, .int (0 : Int32), .int ((I 10 4) - (1 : Int32))]) (st := []) C hX (m_X9_isBetween  h) ok_X9_isBetween wd_279 wd_280 ⟨Nat.le_of_ble_eq_true rfl, Nat.le_of_ble_eq_true rfl⟩ rfl rfl (Nat.le_of_ble_eq_true rfl) ⟨hcs.1, hcs.2⟩ dX9_middle_11 (fun r V1 I1 J1 hp => ?_)
  obtain ⟨r12, rfl, rfl, rfl, rfl, h⟩ := hp
  show gJ X V (0) (0) 14 _ [.int r12] _ _
  refine j_if_ne (pc := 14) (tgt := 21) C dX9_middle_14 (by decide) (fun q13 => ?_) (fun q13 => ?_)
  · have h := h.1 q13
    refine j_aload_n (pc := 21) C dX9_middle_21 rfl 0 rfl ?_
    refine j_iconst (pc := 22) (v := 3) C dX9_middle_22 (by decide) ?_
    refine j_iconst (pc := 23) (v := 0) C dX9_middle_23 (by decide) ?_
    obtain ⟨sl25, m15, m16, hk23, e22, hd24, g17, g18, h⟩ := h
    refine gJ.eqst (st' := [.int (0 : Int32), .int (3 : Int32), .ref (V.2.1 0)]) (by rw [e22]) ?_
    refine j_callV (pc := 24) (As := [.int (3 : Int32), .int (0 : Int32)]) (st := []) C hX 0 (gMet.at e22 (n_X9_rowsOf h)) hk23 hd24 rfl ok_X9_rowsOf wd_302 wd_304 wd_0 ⟨Nat.le_of_ble_eq_true rfl, Nat.le_of_ble_eq_true rfl⟩ rfl rfl (Nat.le_of_ble_eq_true rfl) ⟨g17, g18⟩ dX9_middle_24 (fun r V19 I20 J21 hp => ?_)
    obtain ⟨r14, rfl, h⟩ := hp
    have hcs : _ ∧ _ := ⟨g17, g18⟩
    show gJ X V19 (0 + m15) (0 + m16) 27 _ [.ref r14] _ _
    refine j_iload_n (pc := 27) C dX9_middle_27 rfl 1 rfl ?_
    obtain ⟨room, hTS, hRG, e29, h⟩ := h
    refine gJ.eqst (st' := [.int a1, .ref (V19.2.1 70)]) (by rw [e29]) ?_
    refine j_callV (pc := 28) (As := [.int a1]) (st := []) C hX 70 (m_X5_countAroundMiddle hTS hRG h) (c_70 hRG).1 (c_70 hRG).2 rfl ok_X5_countAroundMiddle wd_505 wd_506 wd_507 ⟨Nat.le_of_ble_eq_true rfl, Nat.le_of_ble_eq_true rfl⟩ rfl rfl (Nat.le_of_ble_eq_true rfl) ⟨hcs.1, hcs.2⟩ dX9_middle_28 (fun r V1 I27 J28 hp => ?_)
    obtain ⟨r26, rfl, rfl, h⟩ := hp
    show gJ X V19 (0 + m15) (0 + m16) 31 _ [.long r26] _ _
    exact j_lret (pc := 31) C hR hcs.1 hcs.2 dX9_middle_31 ⟨_, rfl, h⟩
  · have h := h.2 q13
    refine j_ldc2 (pc := 17) (v := (-2)) C dX9_middle_17 wd_301 ?_
    exact j_lret (pc := 20) C hR hcs.1 hcs.2 dX9_middle_20 ⟨_, rfl, h⟩
/-! TileRules.searchOf(I)LTileRules$CoverSearch; -/
abbrev rA_X9_searchOf (mc ms : Nat) : Room := { frames := 5, cells := mc, slots := ms, locals := 125 }
theorem ok_X9_searchOf : gOk yX9_searchOf cX9_searchOf 2 (some (.object "TileRules$CoverSearch")) 1 := ⟨wd_608, wd_69, by decide +kernel⟩
def wA_X9_searchOf_22 (mc ms : Nat)  (Po : Nat → gV → gI → gL → Prop)  (v0 : Nat) (v1 : Int32) (V : gV) (c s : Nat) (I : gI) (J : gL) : Prop :=
  ∃ (sl34 : List (Nat ⊕ Option Nat)) (b39 : Nat), 0 ∈ V.1 ∧ V.2.1 0 = v0 ∧ V.2.2 0 = .inl (9, sl34) ∧ sl34[5]? = some (.inr (some b39)) ∧ gModJG V ∧ gModCV V ∧ V.2.1 94 = b39 ∧ wp_X2_prepare v1 I (fun I40 => ∃ (sl42 : List (Nat ⊕ Option Nat)) (b47 : Nat), 0 ∈ V.1 ∧ V.2.1 0 = v0 ∧ V.2.2 0 = .inl (9, sl42) ∧ sl42[5]? = some (.inr (some b47)) ∧ Po b47 V I40 J)
set_option maxRecDepth 100000 in
def wA_X9_searchOf (mc ms : Nat) (b0 : Nat) (a1 : Int32) (V : gV) (I : gI) (J : gL) (Po : Nat → gV → gI → gL → Prop) : Prop :=
  ∃ (sl1 : List (Nat ⊕ Option Nat)) (o7 : Option Nat), 0 ∈ V.1 ∧ V.2.1 0 = b0 ∧ V.2.2 0 = .inl (9, sl1) ∧ sl1[5]? = some (.inr o7) ∧ (o7 = none → 94 ∉ V.1 ∧ 0 + 1 ≤ mc ∧ 0 + 10 ≤ ms ∧ ∀ (b12 : Nat) (V11 : gV), V11 = gadd V 94 b12 (.inl (2, [.inr none, .inr none, .inr none, .inr none, .inr none, .inl 0, .inl 0, .inl 0, .inl 0, .inl 0])) → ∀ (I13 : gI) (J14 : gL), I13 = guc I 94 (fun _ => 0) → J14 = guc J 94 (fun _ => 0) → ∃ (sl15 : List (Nat ⊕ Option Nat)) (b20 : Nat), 0 ∈ V11.1 ∧ V11.2.1 0 = b0 ∧ V11.2.2 0 = .inl (9, sl15) ∧ sl15[1]? = some (.inr (some b20)) ∧ ∃ m21 m22 : Nat, 0 + 1 + m21 ≤ mc ∧ 0 + 10 + m22 ≤ ms ∧ wA_X2_init m21 m22  b12 b20 V11 I13 J14 (fun V25 I26 J27 => ∃ sl28 : List (Nat ⊕ Option Nat), 0 ∈ V25.1 ∧ V25.2.1 0 = b0 ∧ V25.2.2 0 = .inl (9, sl28) ∧ 5 < sl28.length ∧ ∀ V33 : gV, V33 = gde V25 0 (.inl (9, sl28.set 5 (.inr (some b12)))) → wA_X9_searchOf_22 mc ms Po b0 a1 V33 (0 + 1 + m21) (0 + 10 + m22) I26 J27)) ∧ (∀ b6 : Nat, o7 = some b6 → wA_X9_searchOf_22 mc ms Po b0 a1 V 0 0 I J)
set_option maxRecDepth 100000 in
set_option maxHeartbeats 4000000 in
theorem tA_X9_searchOf_22 {X : gX} {l : Launch} {D : va_G} {cy : Nat → ClassId} {mc ms : Nat} (C : gC X cX9_searchOf RX9 (some (.object "TileRules$CoverSearch")) 2 (rA_X9_searchOf mc ms)) (hX : gIs X l D cy yX9_searchOf.name) {Po : Nat → gV → gI → gL → Prop} (hR : gR X (gQr Po)) {v0 : Nat} {v1 : Int32} {V : gV} {c s : Nat} {I : gI} {J : gL} (hcs : c ≤ mc ∧ s ≤ ms) (h : wA_X9_searchOf_22 mc ms Po v0 v1 V c s I J) : gJ X V c s 22 [(0, .ref v0), (1, .int v1)] [] I J := by
  unfold wA_X9_searchOf_22 at h
  refine j_aload_n (pc := 22) C dX9_searchOf_22 rfl 0 rfl ?_
  obtain ⟨sl34, b39, hk36, e35, hd37, hn38, h⟩ := h
  refine gJ.eqst (st' := [.ref (V.2.1 0)]) (by rw [e35]) ?_
  refine j_getRa (pc := 23) C 0 5 hk36 hd37 hn38 rfl (by decide) inw_X9 wd_255 dX9_searchOf_23 ?_
  refine j_iload_n (pc := 26) C dX9_searchOf_26 rfl 1 rfl ?_
  obtain ⟨hJG, hCV, e41, h⟩ := h
  refine gJ.eqst (st' := [.int v1, .ref (V.2.1 94)]) (by rw [e41]) ?_
  refine j_callV (pc := 27) (As := [.int v1]) (st := []) C hX 94 (m_X2_prepare hJG hCV h) (c_94 hCV).1 (c_94 hCV).2 rfl ok_X2_prepare wd_648 wd_649 wd_650 ⟨Nat.le_of_ble_eq_true rfl, Nat.le_of_ble_eq_true rfl⟩ rfl rfl (Nat.le_of_ble_eq_true rfl) ⟨hcs.1, hcs.2⟩ dX9_searchOf_27 (fun r V1 I40 J1 hp => ?_)
  obtain ⟨rfl, rfl, rfl, h⟩ := hp
  show gJ X V (c) (s) 30 _ [] _ _
  refine j_aload_n (pc := 30) C dX9_searchOf_30 rfl 0 rfl ?_
  obtain ⟨sl42, b47, hk44, e43, hd45, hn46, h⟩ := h
  refine gJ.eqst (st' := [.ref (V.2.1 0)]) (by rw [e43]) ?_
  refine j_getRa (pc := 31) C 0 5 hk44 hd45 hn46 rfl (by decide) inw_X9 wd_255 dX9_searchOf_31 ?_
  exact j_aret (pc := 34) C hR hcs.1 hcs.2 dX9_searchOf_34 ⟨_, rfl, h⟩
set_option maxRecDepth 100000 in
set_option maxHeartbeats 4000000 in
theorem n_X9_searchOf {l : Launch} {D : va_G} {cy : Nat → ClassId} {mc ms : Nat} {b0 : Nat} {a1 : Int32} {V : gV} {I : gI} {J : gL} {Po : Nat → gV → gI → gL → Prop} (h : wA_X9_searchOf mc ms b0 a1 V I J Po) : gMet l D cy yX9_searchOf cX9_searchOf 2 (some (.object "TileRules$CoverSearch")) (rA_X9_searchOf mc ms) V [.ref b0, .int a1] I J (gQr Po) := by
  refine gMet.of (by decide) (Nat.le_of_ble_eq_true rfl) (fun X hX C hR => ?_)
  have C : gC X cX9_searchOf RX9 (some (.object "TileRules$CoverSearch")) 2 (rA_X9_searchOf mc ms) := C
  have hcs : 0 ≤ mc ∧ 0 ≤ ms := ⟨Nat.zero_le _, Nat.zero_le _⟩
  show gJ X V 0 0 0 [(0, .ref b0), (1, .int a1)] [] I J
  unfold wA_X9_searchOf at h
  refine j_aload_n (pc := 0) C dX9_searchOf_0 rfl 0 rfl ?_
  obtain ⟨sl1, o7, hk3, e2, hd4, hn5, h⟩ := h
  refine gJ.eqst (st' := [.ref (V.2.1 0)]) (by rw [e2]) ?_
  rcases o7 with _ | b6
  · have h := h.1 rfl
    refine j_getN (pc := 1) C 0 5 hk3 hd4 hn5 rfl (by decide) inw_X9 wd_255 dX9_searchOf_1 ?_
    refine j_ifnonnullN (pc := 4) C dX9_searchOf_4 ?_
    refine j_aload_n (pc := 7) C dX9_searchOf_7 rfl 0 rfl ?_
    obtain ⟨g8, g9, g10, h⟩ := h
    refine j_new (pc := 8) (ci := 2) (sl := [.inr none, .inr none, .inr none, .inr none, .inr none, .inl 0, .inl 0, .inl 0, .inl 0, .inl 0]) C 94 g8 tyX2 tyX2_ok rfl inw_X2 wd_609 wd_610 wd_81 fs_X2 g9 g10 dX9_searchOf_8 (fun b12 => ?_)
    have hcs : _ ∧ _ := ⟨g9, g10⟩
    refine gJ.nmV (fun V11 eV11 => ?_)
    have h := h b12 V11 eV11
    refine gJ.nmI (fun I13 eI13 => ?_)
    refine gJ.nmJ (fun J14 eJ14 => ?_)
    have h := h I13 J14 eI13 eJ14
    refine j_dup (pc := 11) C dX9_searchOf_11 rfl ?_
    refine j_aload_n (pc := 12) C dX9_searchOf_12 rfl 0 rfl ?_
    obtain ⟨sl15, b20, hk17, e16, hd18, hn19, h⟩ := h
    refine gJ.eqst (st' := [.ref (V11.2.1 0), .ref b12, .ref b12, .ref b0]) (by rw [e16]) ?_
    refine j_getRa (pc := 13) C 0 1 hk17 hd18 hn19 rfl (by decide) inw_X9 wd_251 dX9_searchOf_13 ?_
    obtain ⟨m21, m22, g23, g24, h⟩ := h
    refine j_callI (pc := 16) (As := [.ref b20]) (st := [.ref b12, .ref b0]) C hX (n_X2_init h) ok_X2_init wd_611 wd_612 rfl ⟨Nat.le_of_ble_eq_true rfl, Nat.le_of_ble_eq_true rfl⟩ rfl rfl (Nat.le_of_ble_eq_true rfl) ⟨g23, g24⟩ dX9_searchOf_16 (fun r V25 I26 J27 hp => ?_)
    obtain ⟨rfl, h⟩ := hp
    have hcs : _ ∧ _ := ⟨g23, g24⟩
    show gJ X V25 (0 + 1 + m21) (0 + 10 + m22) 19 _ [.ref b12, .ref b0] _ _
    obtain ⟨sl28, hk30, e29, hd31, hn32, h⟩ := h
    refine gJ.eqst (st' := [.ref b12, .ref (V25.2.1 0)]) (by rw [e29]) ?_
    refine j_putR (pc := 19) (ft := (.object "TileRules$CoverSearch")) C tyX9 tyX9_ok nmX9 0 5 hk30 hd31 hn32 rfl (by decide) inw_X9 wd_255 rfl (by decide +kernel) rfl rfl dX9_searchOf_19 ?_
    refine gJ.nmV (fun V33 eV33 => ?_)
    have h := h V33 eV33
    refine gJ.sub [0, 1] rfl ?_
    exact tA_X9_searchOf_22 C hX hR hcs  h
  · have h := h.2 b6 rfl
    refine j_getRa (pc := 1) C 0 5 hk3 hd4 hn5 rfl (by decide) inw_X9 wd_255 dX9_searchOf_1 ?_
    refine j_ifnonnull (pc := 4) (tgt := 22) C dX9_searchOf_4 (by decide) ?_
    refine gJ.sub [0, 1] rfl ?_
    exact tA_X9_searchOf_22 C hX hR hcs  h
/-! TileRules.covers(I)J -/
abbrev rA_X9_covers (mc ms : Nat) : Room := { frames := 48, cells := mc, slots := ms, locals := 1474 }
theorem ok_X9_covers : gOk yX9_covers cX9_covers 2 (some .long) 1 := ⟨wd_601, wd_69, by decide +kernel⟩
set_option maxRecDepth 100000 in
def wA_X9_covers (mc ms : Nat) (b0 : Nat) (a1 : Int32) (V : gV) (I : gI) (J : gL) (Po : Int64 → gV → gI → gL → Prop) : Prop :=
  wp_X9_isMode a1 (fun r1 => (r1 = 0 → Po (-2 : Int64) V I J) ∧ (¬ r1 = 0 → ∃ (sl14 : List (Nat ⊕ Option Nat)) (m4 m5 : Nat), 0 ∈ V.1 ∧ V.2.1 0 = b0 ∧ V.2.2 0 = .inl (9, sl14) ∧ 0 + m4 ≤ mc ∧ 0 + m5 ≤ ms ∧ wA_X9_searchOf m4 m5  b0 a1 V I J (fun r3 V8 I9 J10 => gModJG V8 ∧ gModCV V8 ∧ V8.2.1 94 = r3 ∧ wp_X2_countCovers I9 J10 (fun r15 J16 => Po r15 V8 I9 J16))))
set_option maxRecDepth 100000 in
set_option maxHeartbeats 4000000 in
theorem n_X9_covers {l : Launch} {D : va_G} {cy : Nat → ClassId} {mc ms : Nat} {b0 : Nat} {a1 : Int32} {V : gV} {I : gI} {J : gL} {Po : Int64 → gV → gI → gL → Prop} (h : wA_X9_covers mc ms b0 a1 V I J Po) : gMet l D cy yX9_covers cX9_covers 2 (some .long) (rA_X9_covers mc ms) V [.ref b0, .int a1] I J (gQl Po) := by
  refine gMet.of (by decide) (Nat.le_of_ble_eq_true rfl) (fun X hX C hR => ?_)
  have C : gC X cX9_covers RX9 (some .long) 2 (rA_X9_covers mc ms) := C
  have hcs : 0 ≤ mc ∧ 0 ≤ ms := ⟨Nat.zero_le _, Nat.zero_le _⟩
  show gJ X V 0 0 0 [(0, .ref b0), (1, .int a1)] [] I J
  unfold wA_X9_covers at h
  refine j_iload_n (pc := 0) C dX9_covers_0 rfl 1 rfl ?_
  refine j_callS (pc := 1) (As := [.int a1]) (st := []) C hX (m_X9_isMode  h) ok_X9_isMode wd_602 wd_603 ⟨Nat.le_of_ble_eq_true rfl, Nat.le_of_ble_eq_true rfl⟩ rfl rfl (Nat.le_of_ble_eq_true rfl) ⟨hcs.1, hcs.2⟩ dX9_covers_1 (fun r V1 I1 J1 hp => ?_)
  obtain ⟨r1, rfl, rfl, rfl, rfl, h⟩ := hp
  show gJ X V (0) (0) 4 _ [.int r1] _ _
  refine j_if_eq (pc := 4) (tgt := 18) C dX9_covers_4 (by decide) (fun q2 => ?_) (fun q2 => ?_)
  · have h := h.1 q2
    refine j_ldc2 (pc := 18) (v := (-2)) C dX9_covers_18 wd_301 ?_
    exact j_lret (pc := 21) C hR hcs.1 hcs.2 dX9_covers_21 ⟨_, rfl, h⟩
  · have h := h.2 q2
    refine j_aload_n (pc := 7) C dX9_covers_7 rfl 0 rfl ?_
    refine j_iload_n (pc := 8) C dX9_covers_8 rfl 1 rfl ?_
    obtain ⟨sl14, m4, m5, hk12, e11, hd13, g6, g7, h⟩ := h
    refine gJ.eqst (st' := [.int a1, .ref (V.2.1 0)]) (by rw [e11]) ?_
    refine j_callV (pc := 9) (As := [.int a1]) (st := []) C hX 0 (gMet.at e11 (n_X9_searchOf h)) hk12 hd13 rfl ok_X9_searchOf wd_605 wd_607 wd_18 ⟨Nat.le_of_ble_eq_true rfl, Nat.le_of_ble_eq_true rfl⟩ rfl rfl (Nat.le_of_ble_eq_true rfl) ⟨g6, g7⟩ dX9_covers_9 (fun r V8 I9 J10 hp => ?_)
    obtain ⟨r3, rfl, h⟩ := hp
    have hcs : _ ∧ _ := ⟨g6, g7⟩
    show gJ X V8 (0 + m4) (0 + m5) 12 _ [.ref r3] _ _
    obtain ⟨hJG, hCV, e17, h⟩ := h
    refine gJ.eqst (st' := [.ref (V8.2.1 94)]) (by rw [e17]) ?_
    refine j_callV (pc := 12) (As := []) (st := []) C hX 94 (m_X2_countCovers hJG hCV h) (c_94 hCV).1 (c_94 hCV).2 rfl ok_X2_countCovers wd_663 wd_664 wd_665 ⟨Nat.le_of_ble_eq_true rfl, Nat.le_of_ble_eq_true rfl⟩ rfl rfl (Nat.le_of_ble_eq_true rfl) ⟨hcs.1, hcs.2⟩ dX9_covers_12 (fun r V1 I1 J16 hp => ?_)
    obtain ⟨r15, rfl, rfl, rfl, h⟩ := hp
    show gJ X V8 (0 + m4) (0 + m5) 15 _ [.long r15] _ _
    refine j_goto (pc := 15) (tgt := 21) C dX9_covers_15 (by decide) ?_
    exact j_lret (pc := 21) C hR hcs.1 hcs.2 dX9_covers_21 ⟨_, rfl, h⟩
/-! TileRules.cover(IIII)I -/
abbrev rA_X9_cover (mc ms : Nat) : Room := { frames := 49, cells := mc, slots := ms, locals := 1507 }
theorem ok_X9_cover : gOk yX9_cover cX9_cover 6 (some .int) 4 := ⟨wd_700, wd_69, by decide +kernel⟩
set_option maxRecDepth 100000 in
def wA_X9_cover (mc ms : Nat) (b0 : Nat) (a1 : Int32) (a2 : Int32) (a3 : Int32) (a4 : Int32) (V : gV) (I : gI) (J : gL) (Po : Int32 → gV → gI → gL → Prop) : Prop :=
  wp_X9_isMode a1 (fun r1 => (r1 = 0 → Po (-2 : Int32) V I J) ∧ (¬ r1 = 0 → wp_X9_isBetween a4 (0 : Int32) (1 : Int32) (fun r3 => (¬ r3 = 0 → ∃ (sl5 : List (Nat ⊕ Option Nat)) (b10 : Nat), 0 ∈ V.1 ∧ V.2.1 0 = b0 ∧ V.2.2 0 = .inl (9, sl5) ∧ sl5[1]? = some (.inr (some b10)) ∧ ∃ sl11 : List (Nat ⊕ Option Nat), 20 ∈ V.1 ∧ V.2.1 20 = b10 ∧ V.2.2 20 = .inl (4, sl11) ∧ sl11[1]? = some (.inl 0) ∧ wp_X9_isBetween a2 (0 : Int32) ((I 20 1) - (1 : Int32)) (fun r16 => (r16 = 0 → Po (-2 : Int32) V I J) ∧ (¬ r16 = 0 → ∃ (sl18 : List (Nat ⊕ Option Nat)) (b23 : Nat), 0 ∈ V.1 ∧ V.2.1 0 = b0 ∧ V.2.2 0 = .inl (9, sl18) ∧ sl18[1]? = some (.inr (some b23)) ∧ ∃ sl24 : List (Nat ⊕ Option Nat), 20 ∈ V.1 ∧ V.2.1 20 = b23 ∧ V.2.2 20 = .inl (4, sl24) ∧ sl24[2]? = some (.inl 0) ∧ wp_X9_isBetween a3 (0 : Int32) ((I 20 2) - (1 : Int32)) (fun r29 => (¬ r29 = 0 → ∃ (sl42 : List (Nat ⊕ Option Nat)) (m32 m33 : Nat), 0 ∈ V.1 ∧ V.2.1 0 = b0 ∧ V.2.2 0 = .inl (9, sl42) ∧ 0 + m32 ≤ mc ∧ 0 + m33 ≤ ms ∧ wA_X9_searchOf m32 m33  b0 a1 V I J (fun r31 V36 I37 J38 => ∃ (sl43 : List (Nat ⊕ Option Nat)) (b48 : Nat), 0 ∈ V36.1 ∧ V36.2.1 0 = b0 ∧ V36.2.2 0 = .inl (9, sl43) ∧ sl43[1]? = some (.inr (some b48)) ∧ ∃ sl49 : List (Nat ⊕ Option Nat), 20 ∈ V36.1 ∧ V36.2.1 20 = b48 ∧ V36.2.2 20 = .inl (4, sl49) ∧ sl49[1]? = some (.inl 0) ∧ gModJG V36 ∧ gModCV V36 ∧ V36.2.1 94 = r31 ∧ wp_X2_findLeastOn (((I37 20 1) * a3) + a2) I37 J38 (fun r54 I55 J56 => (¬ r54 = 0 → (¬ a4 = 0 → ∃ sl60 : List (Nat ⊕ Option Nat), 94 ∈ V36.1 ∧ V36.2.1 94 = r31 ∧ V36.2.2 94 = .inl (2, sl60) ∧ sl60[9]? = some (.inl 0) ∧ Po (I55 94 9) V36 I55 J56) ∧ (a4 = 0 → ∃ sl65 : List (Nat ⊕ Option Nat), 94 ∈ V36.1 ∧ V36.2.1 94 = r31 ∧ V36.2.2 94 = .inl (2, sl65) ∧ sl65[8]? = some (.inl 0) ∧ Po (I55 94 8) V36 I55 J56)) ∧ (r54 = 0 → Po (-1 : Int32) V36 I55 J56)))) ∧ (r29 = 0 → Po (-2 : Int32) V I J))))) ∧ (r3 = 0 → Po (-2 : Int32) V I J))))
set_option maxRecDepth 100000 in
set_option maxHeartbeats 4000000 in
theorem n_X9_cover {l : Launch} {D : va_G} {cy : Nat → ClassId} {mc ms : Nat} {b0 : Nat} {a1 : Int32} {a2 : Int32} {a3 : Int32} {a4 : Int32} {V : gV} {I : gI} {J : gL} {Po : Int32 → gV → gI → gL → Prop} (h : wA_X9_cover mc ms b0 a1 a2 a3 a4 V I J Po) : gMet l D cy yX9_cover cX9_cover 6 (some .int) (rA_X9_cover mc ms) V [.ref b0, .int a1, .int a2, .int a3, .int a4] I J (gQi Po) := by
  refine gMet.of (by decide) (Nat.le_of_ble_eq_true rfl) (fun X hX C hR => ?_)
  have C : gC X cX9_cover RX9 (some .int) 6 (rA_X9_cover mc ms) := C
  have hcs : 0 ≤ mc ∧ 0 ≤ ms := ⟨Nat.zero_le _, Nat.zero_le _⟩
  show gJ X V 0 0 0 [(0, .ref b0), (1, .int a1), (2, .int a2), (3, .int a3), (4, .int a4)] [] I J
  unfold wA_X9_cover at h
  refine j_iload_n (pc := 0) C dX9_cover_0 rfl 1 rfl ?_
  refine j_callS (pc := 1) (As := [.int a1]) (st := []) C hX (m_X9_isMode  h) ok_X9_isMode wd_602 wd_603 ⟨Nat.le_of_ble_eq_true rfl, Nat.le_of_ble_eq_true rfl⟩ rfl rfl (Nat.le_of_ble_eq_true rfl) ⟨hcs.1, hcs.2⟩ dX9_cover_1 (fun r V1 I1 J1 hp => ?_)
  obtain ⟨r1, rfl, rfl, rfl, rfl, h⟩ := hp
  show gJ X V (0) (0) 4 _ [.int r1] _ _
  refine j_if_eq (pc := 4) (tgt := 17) C dX9_cover_4 (by decide) (fun q2 => ?_) (fun q2 => ?_)
  · have h := h.1 q2
    refine j_bipush (pc := 17) (v := (-2)) C dX9_cover_17 (by decide) ?_
    exact j_iret (pc := 19) C hR hcs.1 hcs.2 dX9_cover_19 ⟨_, rfl, h⟩
  · have h := h.2 q2
    refine j_iload (pc := 7) C dX9_cover_7 4 rfl ?_
    refine j_iconst (pc := 9) (v := 0) C dX9_cover_9 (by decide) ?_
    refine j_iconst (pc := 10) (v := 1) C dX9_cover_10 (by decide) ?_
    refine j_callS (pc := 11) (As := [.int a4, .int (0 : Int32), .int (1 : Int32)]) (st := []) C hX (m_X9_isBetween  h) ok_X9_isBetween wd_279 wd_280 ⟨Nat.le_of_ble_eq_true rfl, Nat.le_of_ble_eq_true rfl⟩ rfl rfl (Nat.le_of_ble_eq_true rfl) ⟨hcs.1, hcs.2⟩ dX9_cover_11 (fun r V1 I1 J1 hp => ?_)
    obtain ⟨r3, rfl, rfl, rfl, rfl, h⟩ := hp
    show gJ X V (0) (0) 14 _ [.int r3] _ _
    refine j_if_ne (pc := 14) (tgt := 20) C dX9_cover_14 (by decide) (fun q4 => ?_) (fun q4 => ?_)
    · have h := h.1 q4
      refine j_iload_n (pc := 20) C dX9_cover_20 rfl 2 rfl ?_
      refine j_iconst (pc := 21) (v := 0) C dX9_cover_21 (by decide) ?_
      refine j_aload_n (pc := 22) C dX9_cover_22 rfl 0 rfl ?_
      obtain ⟨sl5, b10, hk7, e6, hd8, hn9, h⟩ := h
      refine gJ.eqst (st' := [.ref (V.2.1 0), .int (0 : Int32), .int a2]) (by rw [e6]) ?_
      refine j_getRa (pc := 23) C 0 1 hk7 hd8 hn9 rfl (by decide) inw_X9 wd_251 dX9_cover_23 ?_
      obtain ⟨sl11, hk13, e12, hd14, hn15, h⟩ := h
      refine gJ.eqst (st' := [.ref (V.2.1 20), .int (0 : Int32), .int a2]) (by rw [e12]) ?_
      refine j_getI (pc := 26) C 20 1 hk13 hd14 hn15 rfl (by decide) inw_X4 wd_135 dX9_cover_26 ?_
      refine j_iconst (pc := 29) (v := 1) C dX9_cover_29 (by decide) ?_
      refine j_isub (pc := 30) C dX9_cover_30 ?_
      refine j_callS (pc := 31) (As := [.int a2, .int (0 : Int32), .int ((I 20 1) - (1 : Int32))]) (st := []) C hX (m_X9_isBetween  h) ok_X9_isBetween wd_279 wd_280 ⟨Nat.le_of_ble_eq_true rfl, Nat.le_of_ble_eq_true rfl⟩ rfl rfl (Nat.le_of_ble_eq_true rfl) ⟨hcs.1, hcs.2⟩ dX9_cover_31 (fun r V1 I1 J1 hp => ?_)
      obtain ⟨r16, rfl, rfl, rfl, rfl, h⟩ := hp
      show gJ X V (0) (0) 34 _ [.int r16] _ _
      refine j_if_eq (pc := 34) (tgt := 54) C dX9_cover_34 (by decide) (fun q17 => ?_) (fun q17 => ?_)
      · have h := h.1 q17
        refine j_bipush (pc := 54) (v := (-2)) C dX9_cover_54 (by decide) ?_
        exact j_iret (pc := 56) C hR hcs.1 hcs.2 dX9_cover_56 ⟨_, rfl, h⟩
      · have h := h.2 q17
        refine j_iload_n (pc := 37) C dX9_cover_37 rfl 3 rfl ?_
        refine j_iconst (pc := 38) (v := 0) C dX9_cover_38 (by decide) ?_
        refine j_aload_n (pc := 39) C dX9_cover_39 rfl 0 rfl ?_
        obtain ⟨sl18, b23, hk20, e19, hd21, hn22, h⟩ := h
        refine gJ.eqst (st' := [.ref (V.2.1 0), .int (0 : Int32), .int a3]) (by rw [e19]) ?_
        refine j_getRa (pc := 40) C 0 1 hk20 hd21 hn22 rfl (by decide) inw_X9 wd_251 dX9_cover_40 ?_
        obtain ⟨sl24, hk26, e25, hd27, hn28, h⟩ := h
        refine gJ.eqst (st' := [.ref (V.2.1 20), .int (0 : Int32), .int a3]) (by rw [e25]) ?_
        refine j_getI (pc := 43) C 20 2 hk26 hd27 hn28 rfl (by decide) inw_X4 wd_138 dX9_cover_43 ?_
        refine j_iconst (pc := 46) (v := 1) C dX9_cover_46 (by decide) ?_
        refine j_isub (pc := 47) C dX9_cover_47 ?_
        refine j_callS (pc := 48) (As := [.int a3, .int (0 : Int32), .int ((I 20 2) - (1 : Int32))]) (st := []) C hX (m_X9_isBetween  h) ok_X9_isBetween wd_279 wd_280 ⟨Nat.le_of_ble_eq_true rfl, Nat.le_of_ble_eq_true rfl⟩ rfl rfl (Nat.le_of_ble_eq_true rfl) ⟨hcs.1, hcs.2⟩ dX9_cover_48 (fun r V1 I1 J1 hp => ?_)
        obtain ⟨r29, rfl, rfl, rfl, rfl, h⟩ := hp
        show gJ X V (0) (0) 51 _ [.int r29] _ _
        refine j_if_ne (pc := 51) (tgt := 57) C dX9_cover_51 (by decide) (fun q30 => ?_) (fun q30 => ?_)
        · have h := h.1 q30
          refine j_aload_n (pc := 57) C dX9_cover_57 rfl 0 rfl ?_
          refine j_iload_n (pc := 58) C dX9_cover_58 rfl 1 rfl ?_
          obtain ⟨sl42, m32, m33, hk40, e39, hd41, g34, g35, h⟩ := h
          refine gJ.eqst (st' := [.int a1, .ref (V.2.1 0)]) (by rw [e39]) ?_
          refine j_callV (pc := 59) (As := [.int a1]) (st := []) C hX 0 (gMet.at e39 (n_X9_searchOf h)) hk40 hd41 rfl ok_X9_searchOf wd_605 wd_607 wd_18 ⟨Nat.le_of_ble_eq_true rfl, Nat.le_of_ble_eq_true rfl⟩ rfl rfl (Nat.le_of_ble_eq_true rfl) ⟨g34, g35⟩ dX9_cover_59 (fun r V36 I37 J38 hp => ?_)
          obtain ⟨r31, rfl, h⟩ := hp
          have hcs : _ ∧ _ := ⟨g34, g35⟩
          show gJ X V36 (0 + m32) (0 + m33) 62 _ [.ref r31] _ _
          refine j_astore (pc := 62) (lv' := [(5, .ref r31), (0, .ref b0), (1, .int a1), (2, .int a2), (3, .int a3), (4, .int a4)]) C dX9_cover_62 (by decide) rfl ?_
          refine j_aload (pc := 64) C dX9_cover_64 0 rfl ?_
          refine j_aload_n (pc := 66) C dX9_cover_66 rfl 1 rfl ?_
          obtain ⟨sl43, b48, hk45, e44, hd46, hn47, h⟩ := h
          refine gJ.eqst (st' := [.ref (V36.2.1 0), .ref r31]) (by rw [e44]) ?_
          refine j_getRa (pc := 67) C 0 1 hk45 hd46 hn47 rfl (by decide) inw_X9 wd_251 dX9_cover_67 ?_
          obtain ⟨sl49, hk51, e50, hd52, hn53, h⟩ := h
          refine gJ.eqst (st' := [.ref (V36.2.1 20), .ref r31]) (by rw [e50]) ?_
          refine j_getI (pc := 70) C 20 1 hk51 hd52 hn53 rfl (by decide) inw_X4 wd_135 dX9_cover_70 ?_
          refine j_iload_n (pc := 73) C dX9_cover_73 rfl 4 rfl ?_
          refine j_imul (pc := 74) C dX9_cover_74 ?_
          refine j_iload_n (pc := 75) C dX9_cover_75 rfl 3 rfl ?_
          refine j_iadd (pc := 76) C dX9_cover_76 ?_
          obtain ⟨hJG, hCV, e57, h⟩ := h
          refine gJ.eqst (st' := [.int (((I37 20 1) * a3) + a2), .ref (V36.2.1 94)]) (by rw [e57]) ?_
          refine j_callV (pc := 77) (As := [.int (((I37 20 1) * a3) + a2)]) (st := []) C hX 94 (m_X2_findLeastOn hJG hCV h) (c_94 hCV).1 (c_94 hCV).2 rfl ok_X2_findLeastOn wd_701 wd_702 wd_703 ⟨Nat.le_of_ble_eq_true rfl, Nat.le_of_ble_eq_true rfl⟩ rfl rfl (Nat.le_of_ble_eq_true rfl) ⟨hcs.1, hcs.2⟩ dX9_cover_77 (fun r V1 I55 J56 hp => ?_)
          obtain ⟨r54, rfl, rfl, h⟩ := hp
          show gJ X V36 (0 + m32) (0 + m33) 80 _ [.int r54] _ _
          refine j_if_ne (pc := 80) (tgt := 85) C dX9_cover_80 (by decide) (fun q58 => ?_) (fun q58 => ?_)
          · have h := h.1 q58
            refine j_iload (pc := 85) C dX9_cover_85 5 rfl ?_
            refine j_if_ne (pc := 87) (tgt := 98) C dX9_cover_87 (by decide) (fun q59 => ?_) (fun q59 => ?_)
            · have h := h.1 q59
              refine j_aload (pc := 98) C dX9_cover_98 0 rfl ?_
              obtain ⟨sl60, hk62, e61, hd63, hn64, h⟩ := h
              refine gJ.eqst (st' := [.ref (V36.2.1 94)]) (by rw [e61]) ?_
              refine j_getI (pc := 100) C 94 9 hk62 hd63 hn64 rfl (by decide) inw_X2 wd_626 dX9_cover_100 ?_
              exact j_iret (pc := 103) C hR hcs.1 hcs.2 dX9_cover_103 ⟨_, rfl, h⟩
            · have h := h.2 q59
              refine j_aload (pc := 90) C dX9_cover_90 0 rfl ?_
              obtain ⟨sl65, hk67, e66, hd68, hn69, h⟩ := h
              refine gJ.eqst (st' := [.ref (V36.2.1 94)]) (by rw [e66]) ?_
              refine j_getI (pc := 92) C 94 8 hk67 hd68 hn69 rfl (by decide) inw_X2 wd_624 dX9_cover_92 ?_
              refine j_goto (pc := 95) (tgt := 103) C dX9_cover_95 (by decide) ?_
              exact j_iret (pc := 103) C hR hcs.1 hcs.2 dX9_cover_103 ⟨_, rfl, h⟩
          · have h := h.2 q58
            refine j_iconst (pc := 83) (v := (-1)) C dX9_cover_83 (by decide) ?_
            exact j_iret (pc := 84) C hR hcs.1 hcs.2 dX9_cover_84 ⟨_, rfl, h⟩
        · have h := h.2 q30
          refine j_bipush (pc := 54) (v := (-2)) C dX9_cover_54 (by decide) ?_
          exact j_iret (pc := 56) C hR hcs.1 hcs.2 dX9_cover_56 ⟨_, rfl, h⟩
    · have h := h.2 q4
      refine j_bipush (pc := 17) (v := (-2)) C dX9_cover_17 (by decide) ?_
      exact j_iret (pc := 19) C hR hcs.1 hcs.2 dX9_cover_19 ⟨_, rfl, h⟩
/-! TileRules.fewest(I)I -/
abbrev rA_X9_fewest (mc ms : Nat) : Room := { frames := 48, cells := mc, slots := ms, locals := 1476 }
theorem ok_X9_fewest : gOk yX9_fewest cX9_fewest 2 (some .int) 1 := ⟨wd_712, wd_69, by decide +kernel⟩
set_option maxRecDepth 100000 in
def wA_X9_fewest (mc ms : Nat) (b0 : Nat) (a1 : Int32) (V : gV) (I : gI) (J : gL) (Po : Int32 → gV → gI → gL → Prop) : Prop :=
  wp_X9_isMode a1 (fun r1 => (r1 = 0 → Po (-2 : Int32) V I J) ∧ (¬ r1 = 0 → ∃ (sl14 : List (Nat ⊕ Option Nat)) (m4 m5 : Nat), 0 ∈ V.1 ∧ V.2.1 0 = b0 ∧ V.2.2 0 = .inl (9, sl14) ∧ 0 + m4 ≤ mc ∧ 0 + m5 ≤ ms ∧ wA_X9_searchOf m4 m5  b0 a1 V I J (fun r3 V8 I9 J10 => gModJG V8 ∧ gModCV V8 ∧ V8.2.1 94 = r3 ∧ wp_X2_fewestPlacements I9 J10 (fun r15 J16 => Po r15 V8 I9 J16))))
set_option maxRecDepth 100000 in
set_option maxHeartbeats 4000000 in
theorem n_X9_fewest {l : Launch} {D : va_G} {cy : Nat → ClassId} {mc ms : Nat} {b0 : Nat} {a1 : Int32} {V : gV} {I : gI} {J : gL} {Po : Int32 → gV → gI → gL → Prop} (h : wA_X9_fewest mc ms b0 a1 V I J Po) : gMet l D cy yX9_fewest cX9_fewest 2 (some .int) (rA_X9_fewest mc ms) V [.ref b0, .int a1] I J (gQi Po) := by
  refine gMet.of (by decide) (Nat.le_of_ble_eq_true rfl) (fun X hX C hR => ?_)
  have C : gC X cX9_fewest RX9 (some .int) 2 (rA_X9_fewest mc ms) := C
  have hcs : 0 ≤ mc ∧ 0 ≤ ms := ⟨Nat.zero_le _, Nat.zero_le _⟩
  show gJ X V 0 0 0 [(0, .ref b0), (1, .int a1)] [] I J
  unfold wA_X9_fewest at h
  refine j_iload_n (pc := 0) C dX9_fewest_0 rfl 1 rfl ?_
  refine j_callS (pc := 1) (As := [.int a1]) (st := []) C hX (m_X9_isMode  h) ok_X9_isMode wd_602 wd_603 ⟨Nat.le_of_ble_eq_true rfl, Nat.le_of_ble_eq_true rfl⟩ rfl rfl (Nat.le_of_ble_eq_true rfl) ⟨hcs.1, hcs.2⟩ dX9_fewest_1 (fun r V1 I1 J1 hp => ?_)
  obtain ⟨r1, rfl, rfl, rfl, rfl, h⟩ := hp
  show gJ X V (0) (0) 4 _ [.int r1] _ _
  refine j_if_eq (pc := 4) (tgt := 18) C dX9_fewest_4 (by decide) (fun q2 => ?_) (fun q2 => ?_)
  · have h := h.1 q2
    refine j_bipush (pc := 18) (v := (-2)) C dX9_fewest_18 (by decide) ?_
    exact j_iret (pc := 20) C hR hcs.1 hcs.2 dX9_fewest_20 ⟨_, rfl, h⟩
  · have h := h.2 q2
    refine j_aload_n (pc := 7) C dX9_fewest_7 rfl 0 rfl ?_
    refine j_iload_n (pc := 8) C dX9_fewest_8 rfl 1 rfl ?_
    obtain ⟨sl14, m4, m5, hk12, e11, hd13, g6, g7, h⟩ := h
    refine gJ.eqst (st' := [.int a1, .ref (V.2.1 0)]) (by rw [e11]) ?_
    refine j_callV (pc := 9) (As := [.int a1]) (st := []) C hX 0 (gMet.at e11 (n_X9_searchOf h)) hk12 hd13 rfl ok_X9_searchOf wd_605 wd_607 wd_18 ⟨Nat.le_of_ble_eq_true rfl, Nat.le_of_ble_eq_true rfl⟩ rfl rfl (Nat.le_of_ble_eq_true rfl) ⟨g6, g7⟩ dX9_fewest_9 (fun r V8 I9 J10 hp => ?_)
    obtain ⟨r3, rfl, h⟩ := hp
    have hcs : _ ∧ _ := ⟨g6, g7⟩
    show gJ X V8 (0 + m4) (0 + m5) 12 _ [.ref r3] _ _
    obtain ⟨hJG, hCV, e17, h⟩ := h
    refine gJ.eqst (st' := [.ref (V8.2.1 94)]) (by rw [e17]) ?_
    refine j_callV (pc := 12) (As := []) (st := []) C hX 94 (m_X2_fewestPlacements hJG hCV h) (c_94 hCV).1 (c_94 hCV).2 rfl ok_X2_fewestPlacements wd_713 wd_714 wd_715 ⟨Nat.le_of_ble_eq_true rfl, Nat.le_of_ble_eq_true rfl⟩ rfl rfl (Nat.le_of_ble_eq_true rfl) ⟨hcs.1, hcs.2⟩ dX9_fewest_12 (fun r V1 I1 J16 hp => ?_)
    obtain ⟨r15, rfl, rfl, rfl, h⟩ := hp
    show gJ X V8 (0 + m4) (0 + m5) 15 _ [.int r15] _ _
    refine j_goto (pc := 15) (tgt := 20) C dX9_fewest_15 (by decide) ?_
    exact j_iret (pc := 20) C hR hcs.1 hcs.2 dX9_fewest_20 ⟨_, rfl, h⟩
/-! TileRules.growthOf(I)LTileRules$Growth; -/
abbrev rA_X9_growthOf (mc ms : Nat) : Room := { frames := 2, cells := mc, slots := ms, locals := 61 }
theorem ok_X9_growthOf : gOk yX9_growthOf cX9_growthOf 2 (some (.object "TileRules$Growth")) 1 := ⟨wd_772, wd_69, by decide +kernel⟩
def wA_X9_growthOf_22 (mc ms : Nat)  (Po : Nat → gV → gI → gL → Prop)  (v0 : Nat) (v1 : Int32) (V : gV) (c s : Nat) (I : gI) (J : gL) : Prop :=
  ∃ (sl34 : List (Nat ⊕ Option Nat)) (b39 : Nat), 0 ∈ V.1 ∧ V.2.1 0 = v0 ∧ V.2.2 0 = .inl (9, sl34) ∧ sl34[6]? = some (.inr (some b39)) ∧ gModBL V ∧ gModGR V ∧ V.2.1 99 = b39 ∧ wp_X3_begin v1 I J (fun I40 J41 => ∃ (sl43 : List (Nat ⊕ Option Nat)) (b48 : Nat), 0 ∈ V.1 ∧ V.2.1 0 = v0 ∧ V.2.2 0 = .inl (9, sl43) ∧ sl43[6]? = some (.inr (some b48)) ∧ Po b48 V I40 J41)
set_option maxRecDepth 100000 in
def wA_X9_growthOf (mc ms : Nat) (b0 : Nat) (a1 : Int32) (V : gV) (I : gI) (J : gL) (Po : Nat → gV → gI → gL → Prop) : Prop :=
  ∃ (sl1 : List (Nat ⊕ Option Nat)) (o7 : Option Nat), 0 ∈ V.1 ∧ V.2.1 0 = b0 ∧ V.2.2 0 = .inl (9, sl1) ∧ sl1[6]? = some (.inr o7) ∧ (o7 = none → 99 ∉ V.1 ∧ 0 + 1 ≤ mc ∧ 0 + 6 ≤ ms ∧ ∀ (b12 : Nat) (V11 : gV), V11 = gadd V 99 b12 (.inl (3, [.inr none, .inl 0, .inl 1, .inl 1, .inr none, .inr none])) → ∀ (I13 : gI) (J14 : gL), I13 = guc I 99 (fun _ => 0) → J14 = guc J 99 (fun _ => 0) → ∃ (sl15 : List (Nat ⊕ Option Nat)) (b20 : Nat), 0 ∈ V11.1 ∧ V11.2.1 0 = b0 ∧ V11.2.2 0 = .inl (9, sl15) ∧ sl15[2]? = some (.inr (some b20)) ∧ ∃ m21 m22 : Nat, 0 + 1 + m21 ≤ mc ∧ 0 + 6 + m22 ≤ ms ∧ wA_X3_init m21 m22  b12 b20 V11 I13 J14 (fun V25 I26 J27 => ∃ sl28 : List (Nat ⊕ Option Nat), 0 ∈ V25.1 ∧ V25.2.1 0 = b0 ∧ V25.2.2 0 = .inl (9, sl28) ∧ 6 < sl28.length ∧ ∀ V33 : gV, V33 = gde V25 0 (.inl (9, sl28.set 6 (.inr (some b12)))) → wA_X9_growthOf_22 mc ms Po b0 a1 V33 (0 + 1 + m21) (0 + 6 + m22) I26 J27)) ∧ (∀ b6 : Nat, o7 = some b6 → wA_X9_growthOf_22 mc ms Po b0 a1 V 0 0 I J)
set_option maxRecDepth 100000 in
set_option maxHeartbeats 4000000 in
theorem tA_X9_growthOf_22 {X : gX} {l : Launch} {D : va_G} {cy : Nat → ClassId} {mc ms : Nat} (C : gC X cX9_growthOf RX9 (some (.object "TileRules$Growth")) 2 (rA_X9_growthOf mc ms)) (hX : gIs X l D cy yX9_growthOf.name) {Po : Nat → gV → gI → gL → Prop} (hR : gR X (gQr Po)) {v0 : Nat} {v1 : Int32} {V : gV} {c s : Nat} {I : gI} {J : gL} (hcs : c ≤ mc ∧ s ≤ ms) (h : wA_X9_growthOf_22 mc ms Po v0 v1 V c s I J) : gJ X V c s 22 [(0, .ref v0), (1, .int v1)] [] I J := by
  unfold wA_X9_growthOf_22 at h
  refine j_aload_n (pc := 22) C dX9_growthOf_22 rfl 0 rfl ?_
  obtain ⟨sl34, b39, hk36, e35, hd37, hn38, h⟩ := h
  refine gJ.eqst (st' := [.ref (V.2.1 0)]) (by rw [e35]) ?_
  refine j_getRa (pc := 23) C 0 6 hk36 hd37 hn38 rfl (by decide) inw_X9 wd_256 dX9_growthOf_23 ?_
  refine j_iload_n (pc := 26) C dX9_growthOf_26 rfl 1 rfl ?_
  obtain ⟨hBL, hGR, e42, h⟩ := h
  refine gJ.eqst (st' := [.int v1, .ref (V.2.1 99)]) (by rw [e42]) ?_
  refine j_callV (pc := 27) (As := [.int v1]) (st := []) C hX 99 (m_X3_begin hBL hGR h) (c_99 hGR).1 (c_99 hGR).2 rfl ok_X3_begin wd_798 wd_799 wd_800 ⟨Nat.le_of_ble_eq_true rfl, Nat.le_of_ble_eq_true rfl⟩ rfl rfl (Nat.le_of_ble_eq_true rfl) ⟨hcs.1, hcs.2⟩ dX9_growthOf_27 (fun r V1 I40 J41 hp => ?_)
  obtain ⟨rfl, rfl, h⟩ := hp
  show gJ X V (c) (s) 30 _ [] _ _
  refine j_aload_n (pc := 30) C dX9_growthOf_30 rfl 0 rfl ?_
  obtain ⟨sl43, b48, hk45, e44, hd46, hn47, h⟩ := h
  refine gJ.eqst (st' := [.ref (V.2.1 0)]) (by rw [e44]) ?_
  refine j_getRa (pc := 31) C 0 6 hk45 hd46 hn47 rfl (by decide) inw_X9 wd_256 dX9_growthOf_31 ?_
  exact j_aret (pc := 34) C hR hcs.1 hcs.2 dX9_growthOf_34 ⟨_, rfl, h⟩
set_option maxRecDepth 100000 in
set_option maxHeartbeats 4000000 in
theorem n_X9_growthOf {l : Launch} {D : va_G} {cy : Nat → ClassId} {mc ms : Nat} {b0 : Nat} {a1 : Int32} {V : gV} {I : gI} {J : gL} {Po : Nat → gV → gI → gL → Prop} (h : wA_X9_growthOf mc ms b0 a1 V I J Po) : gMet l D cy yX9_growthOf cX9_growthOf 2 (some (.object "TileRules$Growth")) (rA_X9_growthOf mc ms) V [.ref b0, .int a1] I J (gQr Po) := by
  refine gMet.of (by decide) (Nat.le_of_ble_eq_true rfl) (fun X hX C hR => ?_)
  have C : gC X cX9_growthOf RX9 (some (.object "TileRules$Growth")) 2 (rA_X9_growthOf mc ms) := C
  have hcs : 0 ≤ mc ∧ 0 ≤ ms := ⟨Nat.zero_le _, Nat.zero_le _⟩
  show gJ X V 0 0 0 [(0, .ref b0), (1, .int a1)] [] I J
  unfold wA_X9_growthOf at h
  refine j_aload_n (pc := 0) C dX9_growthOf_0 rfl 0 rfl ?_
  obtain ⟨sl1, o7, hk3, e2, hd4, hn5, h⟩ := h
  refine gJ.eqst (st' := [.ref (V.2.1 0)]) (by rw [e2]) ?_
  rcases o7 with _ | b6
  · have h := h.1 rfl
    refine j_getN (pc := 1) C 0 6 hk3 hd4 hn5 rfl (by decide) inw_X9 wd_256 dX9_growthOf_1 ?_
    refine j_ifnonnullN (pc := 4) C dX9_growthOf_4 ?_
    refine j_aload_n (pc := 7) C dX9_growthOf_7 rfl 0 rfl ?_
    obtain ⟨g8, g9, g10, h⟩ := h
    refine j_new (pc := 8) (ci := 3) (sl := [.inr none, .inl 0, .inl 1, .inl 1, .inr none, .inr none]) C 99 g8 tyX3 tyX3_ok rfl inw_X3 wd_773 wd_774 wd_83 fs_X3 g9 g10 dX9_growthOf_8 (fun b12 => ?_)
    have hcs : _ ∧ _ := ⟨g9, g10⟩
    refine gJ.nmV (fun V11 eV11 => ?_)
    have h := h b12 V11 eV11
    refine gJ.nmI (fun I13 eI13 => ?_)
    refine gJ.nmJ (fun J14 eJ14 => ?_)
    have h := h I13 J14 eI13 eJ14
    refine j_dup (pc := 11) C dX9_growthOf_11 rfl ?_
    refine j_aload_n (pc := 12) C dX9_growthOf_12 rfl 0 rfl ?_
    obtain ⟨sl15, b20, hk17, e16, hd18, hn19, h⟩ := h
    refine gJ.eqst (st' := [.ref (V11.2.1 0), .ref b12, .ref b12, .ref b0]) (by rw [e16]) ?_
    refine j_getRa (pc := 13) C 0 2 hk17 hd18 hn19 rfl (by decide) inw_X9 wd_252 dX9_growthOf_13 ?_
    obtain ⟨m21, m22, g23, g24, h⟩ := h
    refine j_callI (pc := 16) (As := [.ref b20]) (st := [.ref b12, .ref b0]) C hX (n_X3_init h) ok_X3_init wd_775 wd_776 rfl ⟨Nat.le_of_ble_eq_true rfl, Nat.le_of_ble_eq_true rfl⟩ rfl rfl (Nat.le_of_ble_eq_true rfl) ⟨g23, g24⟩ dX9_growthOf_16 (fun r V25 I26 J27 hp => ?_)
    obtain ⟨rfl, h⟩ := hp
    have hcs : _ ∧ _ := ⟨g23, g24⟩
    show gJ X V25 (0 + 1 + m21) (0 + 6 + m22) 19 _ [.ref b12, .ref b0] _ _
    obtain ⟨sl28, hk30, e29, hd31, hn32, h⟩ := h
    refine gJ.eqst (st' := [.ref b12, .ref (V25.2.1 0)]) (by rw [e29]) ?_
    refine j_putR (pc := 19) (ft := (.object "TileRules$Growth")) C tyX9 tyX9_ok nmX9 0 6 hk30 hd31 hn32 rfl (by decide) inw_X9 wd_256 rfl (by decide +kernel) rfl rfl dX9_growthOf_19 ?_
    refine gJ.nmV (fun V33 eV33 => ?_)
    have h := h V33 eV33
    refine gJ.sub [0, 1] rfl ?_
    exact tA_X9_growthOf_22 C hX hR hcs  h
  · have h := h.2 b6 rfl
    refine j_getRa (pc := 1) C 0 6 hk3 hd4 hn5 rfl (by decide) inw_X9 wd_256 dX9_growthOf_1 ?_
    refine j_ifnonnull (pc := 4) (tgt := 22) C dX9_growthOf_4 (by decide) ?_
    refine gJ.sub [0, 1] rfl ?_
    exact tA_X9_growthOf_22 C hX hR hcs  h
/-! TileRules.beside(IIII)I -/
abbrev rA_X9_beside (mc ms : Nat) : Room := { frames := 4, cells := mc, slots := ms, locals := 99 }
theorem ok_X9_beside : gOk yX9_beside cX9_beside 5 (some .int) 4 := ⟨wd_768, wd_69, by decide +kernel⟩
set_option maxRecDepth 100000 in
def wA_X9_beside (mc ms : Nat) (b0 : Nat) (a1 : Int32) (a2 : Int32) (a3 : Int32) (a4 : Int32) (V : gV) (I : gI) (J : gL) (Po : Int32 → gV → gI → gL → Prop) : Prop :=
  ∃ (pr pc pg : Option Nat), gModT pr pc pg V ∧ gModBL V ∧ V.2.1 0 = b0 ∧ wp_X9_isLetter a1 I (fun r1 => (r1 = 0 → Po (-2 : Int32) V I J) ∧ (¬ r1 = 0 → ∃ (pr pc pg : Option Nat), gModT pr pc pg V ∧ gModBL V ∧ V.2.1 0 = b0 ∧ wp_X9_isLetter a2 I (fun r4 => (r4 = 0 → Po (-2 : Int32) V I J) ∧ (¬ r4 = 0 → ∃ (pr pc pg : Option Nat), gModT pr pc pg V ∧ gModBL V ∧ V.2.1 0 = b0 ∧ wp_X9_isLetter a3 I (fun r7 => (r7 = 0 → Po (-2 : Int32) V I J) ∧ (¬ r7 = 0 → wp_X9_isBetween a4 (0 : Int32) (1 : Int32) (fun r10 => (¬ r10 = 0 → ∃ (sl23 : List (Nat ⊕ Option Nat)) (m13 m14 : Nat), 0 ∈ V.1 ∧ V.2.1 0 = b0 ∧ V.2.2 0 = .inl (9, sl23) ∧ 0 + m13 ≤ mc ∧ 0 + m14 ≤ ms ∧ wA_X9_growthOf m13 m14  b0 a1 V I J (fun r12 V17 I18 J19 => gModBL V17 ∧ gModGR V17 ∧ V17.2.1 99 = r12 ∧ wp_X3_firstBeside a2 a3 a4 I18 J19 (fun r24 I25 J26 => Po r24 V17 I25 J26))) ∧ (r10 = 0 → Po (-2 : Int32) V I J))))))))
set_option maxRecDepth 100000 in
set_option maxHeartbeats 4000000 in
theorem n_X9_beside {l : Launch} {D : va_G} {cy : Nat → ClassId} {mc ms : Nat} {b0 : Nat} {a1 : Int32} {a2 : Int32} {a3 : Int32} {a4 : Int32} {V : gV} {I : gI} {J : gL} {Po : Int32 → gV → gI → gL → Prop} (h : wA_X9_beside mc ms b0 a1 a2 a3 a4 V I J Po) : gMet l D cy yX9_beside cX9_beside 5 (some .int) (rA_X9_beside mc ms) V [.ref b0, .int a1, .int a2, .int a3, .int a4] I J (gQi Po) := by
  refine gMet.of (by decide) (Nat.le_of_ble_eq_true rfl) (fun X hX C hR => ?_)
  have C : gC X cX9_beside RX9 (some .int) 5 (rA_X9_beside mc ms) := C
  have hcs : 0 ≤ mc ∧ 0 ≤ ms := ⟨Nat.zero_le _, Nat.zero_le _⟩
  show gJ X V 0 0 0 [(0, .ref b0), (1, .int a1), (2, .int a2), (3, .int a3), (4, .int a4)] [] I J
  unfold wA_X9_beside at h
  refine j_aload_n (pc := 0) C dX9_beside_0 rfl 0 rfl ?_
  refine j_iload_n (pc := 1) C dX9_beside_1 rfl 1 rfl ?_
  obtain ⟨pr, pc, pg, hT, hBL, e2, h⟩ := h
  refine gJ.eqst (st' := [.int a1, .ref (V.2.1 0)]) (by rw [e2]) ?_
  refine j_callV (pc := 2) (As := [.int a1]) (st := []) C hX 0 (m_X9_isLetter hT hBL h) (c_0 hT).1 (c_0 hT).2 rfl ok_X9_isLetter wd_730 wd_732 wd_25 ⟨Nat.le_of_ble_eq_true rfl, Nat.le_of_ble_eq_true rfl⟩ rfl rfl (Nat.le_of_ble_eq_true rfl) ⟨hcs.1, hcs.2⟩ dX9_beside_2 (fun r V1 I1 J1 hp => ?_)
  obtain ⟨r1, rfl, rfl, rfl, rfl, h⟩ := hp
  show gJ X V (0) (0) 5 _ [.int r1] _ _
  refine j_if_eq (pc := 5) (tgt := 34) C dX9_beside_5 (by decide) (fun q3 => ?_) (fun q3 => ?_)
  · have h := h.1 q3
    refine j_bipush (pc := 34) (v := (-2)) C dX9_beside_34 (by decide) ?_
    exact j_iret (pc := 36) C hR hcs.1 hcs.2 dX9_beside_36 ⟨_, rfl, h⟩
  · have h := h.2 q3
    refine j_aload_n (pc := 8) C dX9_beside_8 rfl 0 rfl ?_
    refine j_iload_n (pc := 9) C dX9_beside_9 rfl 2 rfl ?_
    obtain ⟨pr, pc, pg, hT, hBL, e5, h⟩ := h
    refine gJ.eqst (st' := [.int a2, .ref (V.2.1 0)]) (by rw [e5]) ?_
    refine j_callV (pc := 10) (As := [.int a2]) (st := []) C hX 0 (m_X9_isLetter hT hBL h) (c_0 hT).1 (c_0 hT).2 rfl ok_X9_isLetter wd_730 wd_732 wd_25 ⟨Nat.le_of_ble_eq_true rfl, Nat.le_of_ble_eq_true rfl⟩ rfl rfl (Nat.le_of_ble_eq_true rfl) ⟨hcs.1, hcs.2⟩ dX9_beside_10 (fun r V1 I1 J1 hp => ?_)
    obtain ⟨r4, rfl, rfl, rfl, rfl, h⟩ := hp
    show gJ X V (0) (0) 13 _ [.int r4] _ _
    refine j_if_eq (pc := 13) (tgt := 34) C dX9_beside_13 (by decide) (fun q6 => ?_) (fun q6 => ?_)
    · have h := h.1 q6
      refine j_bipush (pc := 34) (v := (-2)) C dX9_beside_34 (by decide) ?_
      exact j_iret (pc := 36) C hR hcs.1 hcs.2 dX9_beside_36 ⟨_, rfl, h⟩
    · have h := h.2 q6
      refine j_aload_n (pc := 16) C dX9_beside_16 rfl 0 rfl ?_
      refine j_iload_n (pc := 17) C dX9_beside_17 rfl 3 rfl ?_
      obtain ⟨pr, pc, pg, hT, hBL, e8, h⟩ := h
      refine gJ.eqst (st' := [.int a3, .ref (V.2.1 0)]) (by rw [e8]) ?_
      refine j_callV (pc := 18) (As := [.int a3]) (st := []) C hX 0 (m_X9_isLetter hT hBL h) (c_0 hT).1 (c_0 hT).2 rfl ok_X9_isLetter wd_730 wd_732 wd_25 ⟨Nat.le_of_ble_eq_true rfl, Nat.le_of_ble_eq_true rfl⟩ rfl rfl (Nat.le_of_ble_eq_true rfl) ⟨hcs.1, hcs.2⟩ dX9_beside_18 (fun r V1 I1 J1 hp => ?_)
      obtain ⟨r7, rfl, rfl, rfl, rfl, h⟩ := hp
      show gJ X V (0) (0) 21 _ [.int r7] _ _
      refine j_if_eq (pc := 21) (tgt := 34) C dX9_beside_21 (by decide) (fun q9 => ?_) (fun q9 => ?_)
      · have h := h.1 q9
        refine j_bipush (pc := 34) (v := (-2)) C dX9_beside_34 (by decide) ?_
        exact j_iret (pc := 36) C hR hcs.1 hcs.2 dX9_beside_36 ⟨_, rfl, h⟩
      · have h := h.2 q9
        refine j_iload (pc := 24) C dX9_beside_24 4 rfl ?_
        refine j_iconst (pc := 26) (v := 0) C dX9_beside_26 (by decide) ?_
        refine j_iconst (pc := 27) (v := 1) C dX9_beside_27 (by decide) ?_
        refine j_callS (pc := 28) (As := [.int a4, .int (0 : Int32), .int (1 : Int32)]) (st := []) C hX (m_X9_isBetween  h) ok_X9_isBetween wd_279 wd_280 ⟨Nat.le_of_ble_eq_true rfl, Nat.le_of_ble_eq_true rfl⟩ rfl rfl (Nat.le_of_ble_eq_true rfl) ⟨hcs.1, hcs.2⟩ dX9_beside_28 (fun r V1 I1 J1 hp => ?_)
        obtain ⟨r10, rfl, rfl, rfl, rfl, h⟩ := hp
        show gJ X V (0) (0) 31 _ [.int r10] _ _
        refine j_if_ne (pc := 31) (tgt := 37) C dX9_beside_31 (by decide) (fun q11 => ?_) (fun q11 => ?_)
        · have h := h.1 q11
          refine j_aload_n (pc := 37) C dX9_beside_37 rfl 0 rfl ?_
          refine j_iload_n (pc := 38) C dX9_beside_38 rfl 1 rfl ?_
          obtain ⟨sl23, m13, m14, hk21, e20, hd22, g15, g16, h⟩ := h
          refine gJ.eqst (st' := [.int a1, .ref (V.2.1 0)]) (by rw [e20]) ?_
          refine j_callV (pc := 39) (As := [.int a1]) (st := []) C hX 0 (gMet.at e20 (n_X9_growthOf h)) hk21 hd22 rfl ok_X9_growthOf wd_769 wd_771 wd_26 ⟨Nat.le_of_ble_eq_true rfl, Nat.le_of_ble_eq_true rfl⟩ rfl rfl (Nat.le_of_ble_eq_true rfl) ⟨g15, g16⟩ dX9_beside_39 (fun r V17 I18 J19 hp => ?_)
          obtain ⟨r12, rfl, h⟩ := hp
          have hcs : _ ∧ _ := ⟨g15, g16⟩
          show gJ X V17 (0 + m13) (0 + m14) 42 _ [.ref r12] _ _
          refine j_iload_n (pc := 42) C dX9_beside_42 rfl 2 rfl ?_
          refine j_iload_n (pc := 43) C dX9_beside_43 rfl 3 rfl ?_
          refine j_iload (pc := 44) C dX9_beside_44 4 rfl ?_
          obtain ⟨hBL, hGR, e27, h⟩ := h
          refine gJ.eqst (st' := [.int a4, .int a3, .int a2, .ref (V17.2.1 99)]) (by rw [e27]) ?_
          refine j_callV (pc := 46) (As := [.int a2, .int a3, .int a4]) (st := []) C hX 99 (m_X3_firstBeside hBL hGR h) (c_99 hGR).1 (c_99 hGR).2 rfl ok_X3_firstBeside wd_803 wd_804 wd_805 ⟨Nat.le_of_ble_eq_true rfl, Nat.le_of_ble_eq_true rfl⟩ rfl rfl (Nat.le_of_ble_eq_true rfl) ⟨hcs.1, hcs.2⟩ dX9_beside_46 (fun r V1 I25 J26 hp => ?_)
          obtain ⟨r24, rfl, rfl, h⟩ := hp
          show gJ X V17 (0 + m13) (0 + m14) 49 _ [.int r24] _ _
          exact j_iret (pc := 49) C hR hcs.1 hcs.2 dX9_beside_49 ⟨_, rfl, h⟩
        · have h := h.2 q11
          refine j_bipush (pc := 34) (v := (-2)) C dX9_beside_34 (by decide) ?_
          exact j_iret (pc := 36) C hR hcs.1 hcs.2 dX9_beside_36 ⟨_, rfl, h⟩
/-! TileRules.squares(II)I -/
abbrev rA_X9_squares (mc ms : Nat) : Room := { frames := 4, cells := mc, slots := ms, locals := 125 }
theorem ok_X9_squares : gOk yX9_squares cX9_squares 3 (some .int) 2 := ⟨wd_846, wd_69, by decide +kernel⟩
set_option maxRecDepth 100000 in
def wA_X9_squares (mc ms : Nat) (b0 : Nat) (a1 : Int32) (a2 : Int32) (V : gV) (I : gI) (J : gL) (Po : Int32 → gV → gI → gL → Prop) : Prop :=
  ∃ (pr pc pg : Option Nat), gModT pr pc pg V ∧ gModBL V ∧ V.2.1 0 = b0 ∧ wp_X9_isLetter a1 I (fun r1 => (r1 = 0 → Po (-2 : Int32) V I J) ∧ (¬ r1 = 0 → wp_X9_isBetween a2 (0 : Int32) (5 : Int32) (fun r4 => (¬ r4 = 0 → ∃ (sl17 : List (Nat ⊕ Option Nat)) (m7 m8 : Nat), 0 ∈ V.1 ∧ V.2.1 0 = b0 ∧ V.2.2 0 = .inl (9, sl17) ∧ 0 + m7 ≤ mc ∧ 0 + m8 ≤ ms ∧ wA_X9_growthOf m7 m8  b0 a1 V I J (fun r6 V11 I12 J13 => gModBL V11 ∧ gModGR V11 ∧ V11.2.1 99 = r6 ∧ wp_X3_countSquares a2 I12 J13 (fun r18 I19 J20 => Po r18 V11 I19 J20))) ∧ (r4 = 0 → Po (-2 : Int32) V I J))))
set_option maxRecDepth 100000 in
set_option maxHeartbeats 4000000 in
theorem n_X9_squares {l : Launch} {D : va_G} {cy : Nat → ClassId} {mc ms : Nat} {b0 : Nat} {a1 : Int32} {a2 : Int32} {V : gV} {I : gI} {J : gL} {Po : Int32 → gV → gI → gL → Prop} (h : wA_X9_squares mc ms b0 a1 a2 V I J Po) : gMet l D cy yX9_squares cX9_squares 3 (some .int) (rA_X9_squares mc ms) V [.ref b0, .int a1, .int a2] I J (gQi Po) := by
  refine gMet.of (by decide) (Nat.le_of_ble_eq_true rfl) (fun X hX C hR => ?_)
  have C : gC X cX9_squares RX9 (some .int) 3 (rA_X9_squares mc ms) := C
  have hcs : 0 ≤ mc ∧ 0 ≤ ms := ⟨Nat.zero_le _, Nat.zero_le _⟩
  show gJ X V 0 0 0 [(0, .ref b0), (1, .int a1), (2, .int a2)] [] I J
  unfold wA_X9_squares at h
  refine j_aload_n (pc := 0) C dX9_squares_0 rfl 0 rfl ?_
  refine j_iload_n (pc := 1) C dX9_squares_1 rfl 1 rfl ?_
  obtain ⟨pr, pc, pg, hT, hBL, e2, h⟩ := h
  refine gJ.eqst (st' := [.int a1, .ref (V.2.1 0)]) (by rw [e2]) ?_
  refine j_callV (pc := 2) (As := [.int a1]) (st := []) C hX 0 (m_X9_isLetter hT hBL h) (c_0 hT).1 (c_0 hT).2 rfl ok_X9_isLetter wd_730 wd_732 wd_25 ⟨Nat.le_of_ble_eq_true rfl, Nat.le_of_ble_eq_true rfl⟩ rfl rfl (Nat.le_of_ble_eq_true rfl) ⟨hcs.1, hcs.2⟩ dX9_squares_2 (fun r V1 I1 J1 hp => ?_)
  obtain ⟨r1, rfl, rfl, rfl, rfl, h⟩ := hp
  show gJ X V (0) (0) 5 _ [.int r1] _ _
  refine j_if_eq (pc := 5) (tgt := 17) C dX9_squares_5 (by decide) (fun q3 => ?_) (fun q3 => ?_)
  · have h := h.1 q3
    refine j_bipush (pc := 17) (v := (-2)) C dX9_squares_17 (by decide) ?_
    exact j_iret (pc := 19) C hR hcs.1 hcs.2 dX9_squares_19 ⟨_, rfl, h⟩
  · have h := h.2 q3
    refine j_iload_n (pc := 8) C dX9_squares_8 rfl 2 rfl ?_
    refine j_iconst (pc := 9) (v := 0) C dX9_squares_9 (by decide) ?_
    refine j_iconst (pc := 10) (v := 5) C dX9_squares_10 (by decide) ?_
    refine j_callS (pc := 11) (As := [.int a2, .int (0 : Int32), .int (5 : Int32)]) (st := []) C hX (m_X9_isBetween  h) ok_X9_isBetween wd_279 wd_280 ⟨Nat.le_of_ble_eq_true rfl, Nat.le_of_ble_eq_true rfl⟩ rfl rfl (Nat.le_of_ble_eq_true rfl) ⟨hcs.1, hcs.2⟩ dX9_squares_11 (fun r V1 I1 J1 hp => ?_)
    obtain ⟨r4, rfl, rfl, rfl, rfl, h⟩ := hp
    show gJ X V (0) (0) 14 _ [.int r4] _ _
    refine j_if_ne (pc := 14) (tgt := 20) C dX9_squares_14 (by decide) (fun q5 => ?_) (fun q5 => ?_)
    · have h := h.1 q5
      refine j_aload_n (pc := 20) C dX9_squares_20 rfl 0 rfl ?_
      refine j_iload_n (pc := 21) C dX9_squares_21 rfl 1 rfl ?_
      obtain ⟨sl17, m7, m8, hk15, e14, hd16, g9, g10, h⟩ := h
      refine gJ.eqst (st' := [.int a1, .ref (V.2.1 0)]) (by rw [e14]) ?_
      refine j_callV (pc := 22) (As := [.int a1]) (st := []) C hX 0 (gMet.at e14 (n_X9_growthOf h)) hk15 hd16 rfl ok_X9_growthOf wd_769 wd_771 wd_26 ⟨Nat.le_of_ble_eq_true rfl, Nat.le_of_ble_eq_true rfl⟩ rfl rfl (Nat.le_of_ble_eq_true rfl) ⟨g9, g10⟩ dX9_squares_22 (fun r V11 I12 J13 hp => ?_)
      obtain ⟨r6, rfl, h⟩ := hp
      have hcs : _ ∧ _ := ⟨g9, g10⟩
      show gJ X V11 (0 + m7) (0 + m8) 25 _ [.ref r6] _ _
      refine j_iload_n (pc := 25) C dX9_squares_25 rfl 2 rfl ?_
      obtain ⟨hBL, hGR, e21, h⟩ := h
      refine gJ.eqst (st' := [.int a2, .ref (V11.2.1 99)]) (by rw [e21]) ?_
      refine j_callV (pc := 26) (As := [.int a2]) (st := []) C hX 99 (m_X3_countSquares hBL hGR h) (c_99 hGR).1 (c_99 hGR).2 rfl ok_X3_countSquares wd_847 wd_848 wd_849 ⟨Nat.le_of_ble_eq_true rfl, Nat.le_of_ble_eq_true rfl⟩ rfl rfl (Nat.le_of_ble_eq_true rfl) ⟨hcs.1, hcs.2⟩ dX9_squares_26 (fun r V1 I19 J20 hp => ?_)
      obtain ⟨r18, rfl, rfl, h⟩ := hp
      show gJ X V11 (0 + m7) (0 + m8) 29 _ [.int r18] _ _
      exact j_iret (pc := 29) C hR hcs.1 hcs.2 dX9_squares_29 ⟨_, rfl, h⟩
    · have h := h.2 q5
      refine j_bipush (pc := 17) (v := (-2)) C dX9_squares_17 (by decide) ?_
      exact j_iret (pc := 19) C hR hcs.1 hcs.2 dX9_squares_19 ⟨_, rfl, h⟩
/-! TileRulesModel.<init>()V -/
abbrev rA_X10_init (mc ms : Nat) : Room := { frames := 1, cells := mc, slots := ms, locals := 40 }
theorem ok_X10_init : gOk yX10_init cX10_init 1 none 0 := ⟨wd_962, wd_74, by decide +kernel⟩
set_option maxRecDepth 100000 in
def wA_X10_init (mc ms : Nat) (b0 : Nat) (V : gV) (I : gI) (J : gL) (Po : gV → gI → gL → Prop) : Prop :=
  ∃ N2 : Nat, 201 ∉ V.1 ∧ ¬ (32 : Int32) < 0 ∧ ((32 : Int32)).toNatClampNeg = N2 ∧ N2 * 4 ≤ 536870912 ∧ 0 + 1 ≤ mc ∧ 0 + N2 ≤ ms ∧ ∀ (b10 : Nat) (V9 : gV), V9 = gadd V 201 b10 (.inr (0, N2, gno)) → ∀ I11 : gI, I11 = guc I 201 (fun _ => 0) → ∃ sl12 : List (Nat ⊕ Option Nat), 200 ∈ V9.1 ∧ V9.2.1 200 = b0 ∧ V9.2.2 200 = .inl (10, sl12) ∧ 1 < sl12.length ∧ ∀ V17 : gV, V17 = gde V9 200 (.inl (10, sl12.set 1 (.inr (some b10)))) → ∃ N19 : Nat, 202 ∉ V17.1 ∧ ¬ (4096 : Int32) < 0 ∧ ((4096 : Int32)).toNatClampNeg = N19 ∧ N19 * 4 ≤ 536870912 ∧ 0 + 1 + 1 ≤ mc ∧ 0 + N2 + N19 ≤ ms ∧ ∀ (b27 : Nat) (V26 : gV), V26 = gadd V17 202 b27 (.inr (0, N19, gno)) → ∀ I28 : gI, I28 = guc I11 202 (fun _ => 0) → ∃ sl29 : List (Nat ⊕ Option Nat), 200 ∈ V26.1 ∧ V26.2.1 200 = b0 ∧ V26.2.2 200 = .inl (10, sl29) ∧ 2 < sl29.length ∧ ∀ V34 : gV, V34 = gde V26 200 (.inl (10, sl29.set 2 (.inr (some b27)))) → ∃ N36 : Nat, 203 ∉ V34.1 ∧ ¬ (4096 : Int32) < 0 ∧ ((4096 : Int32)).toNatClampNeg = N36 ∧ N36 * 4 ≤ 536870912 ∧ 0 + 1 + 1 + 1 ≤ mc ∧ 0 + N2 + N19 + N36 ≤ ms ∧ ∀ (b44 : Nat) (V43 : gV), V43 = gadd V34 203 b44 (.inr (0, N36, gno)) → ∀ I45 : gI, I45 = guc I28 203 (fun _ => 0) → ∃ sl46 : List (Nat ⊕ Option Nat), 200 ∈ V43.1 ∧ V43.2.1 200 = b0 ∧ V43.2.2 200 = .inl (10, sl46) ∧ 3 < sl46.length ∧ ∀ V51 : gV, V51 = gde V43 200 (.inl (10, sl46.set 3 (.inr (some b44)))) → ∃ N53 : Nat, 204 ∉ V51.1 ∧ ¬ (4096 : Int32) < 0 ∧ ((4096 : Int32)).toNatClampNeg = N53 ∧ N53 * 4 ≤ 536870912 ∧ 0 + 1 + 1 + 1 + 1 ≤ mc ∧ 0 + N2 + N19 + N36 + N53 ≤ ms ∧ ∀ (b61 : Nat) (V60 : gV), V60 = gadd V51 204 b61 (.inr (0, N53, gno)) → ∀ I62 : gI, I62 = guc I45 204 (fun _ => 0) → ∃ sl63 : List (Nat ⊕ Option Nat), 200 ∈ V60.1 ∧ V60.2.1 200 = b0 ∧ V60.2.2 200 = .inl (10, sl63) ∧ 4 < sl63.length ∧ ∀ V68 : gV, V68 = gde V60 200 (.inl (10, sl63.set 4 (.inr (some b61)))) → ∃ N70 : Nat, 205 ∉ V68.1 ∧ ¬ (4 : Int32) < 0 ∧ ((4 : Int32)).toNatClampNeg = N70 ∧ N70 * 4 ≤ 536870912 ∧ 0 + 1 + 1 + 1 + 1 + 1 ≤ mc ∧ 0 + N2 + N19 + N36 + N53 + N70 ≤ ms ∧ ∀ (b78 : Nat) (V77 : gV), V77 = gadd V68 205 b78 (.inr (0, N70, gno)) → ∀ I79 : gI, I79 = guc I62 205 (fun _ => 0) → ∃ sl80 : List (Nat ⊕ Option Nat), 200 ∈ V77.1 ∧ V77.2.1 200 = b0 ∧ V77.2.2 200 = .inl (10, sl80) ∧ 6 < sl80.length ∧ ∀ V85 : gV, V85 = gde V77 200 (.inl (10, sl80.set 6 (.inr (some b78)))) → ∃ N87 : Nat, 206 ∉ V85.1 ∧ ¬ (50000 : Int32) < 0 ∧ ((50000 : Int32)).toNatClampNeg = N87 ∧ N87 * 8 ≤ 536870912 ∧ 0 + 1 + 1 + 1 + 1 + 1 + 1 ≤ mc ∧ 0 + N2 + N19 + N36 + N53 + N70 + N87 ≤ ms ∧ ∀ (b95 : Nat) (V94 : gV), V94 = gadd V85 206 b95 (.inr (1, N87, gno)) → ∀ J96 : gL, J96 = guc J 206 (fun _ => 0) → ∃ sl97 : List (Nat ⊕ Option Nat), 200 ∈ V94.1 ∧ V94.2.1 200 = b0 ∧ V94.2.2 200 = .inl (10, sl97) ∧ 7 < sl97.length ∧ ∀ V102 : gV, V102 = gde V94 200 (.inl (10, sl97.set 7 (.inr (some b95)))) → ∃ N104 : Nat, 207 ∉ V102.1 ∧ ¬ (10000 : Int32) < 0 ∧ ((10000 : Int32)).toNatClampNeg = N104 ∧ N104 * 1 ≤ 536870912 ∧ 0 + 1 + 1 + 1 + 1 + 1 + 1 + 1 ≤ mc ∧ 0 + N2 + N19 + N36 + N53 + N70 + N87 + N104 ≤ ms ∧ ∀ (b112 : Nat) (V111 : gV), V111 = gadd V102 207 b112 (.inr (3, N104, gno)) → ∀ I113 : gI, I113 = guc I79 207 (fun _ => 0) → ∃ sl114 : List (Nat ⊕ Option Nat), 200 ∈ V111.1 ∧ V111.2.1 200 = b0 ∧ V111.2.2 200 = .inl (10, sl114) ∧ 8 < sl114.length ∧ ∀ V119 : gV, V119 = gde V111 200 (.inl (10, sl114.set 8 (.inr (some b112)))) → ∃ N121 : Nat, 208 ∉ V119.1 ∧ ¬ (10000 : Int32) < 0 ∧ ((10000 : Int32)).toNatClampNeg = N121 ∧ N121 * 8 ≤ 536870912 ∧ 0 + 1 + 1 + 1 + 1 + 1 + 1 + 1 + 1 ≤ mc ∧ 0 + N2 + N19 + N36 + N53 + N70 + N87 + N104 + N121 ≤ ms ∧ ∀ (b129 : Nat) (V128 : gV), V128 = gadd V119 208 b129 (.inr (1, N121, gno)) → ∀ J130 : gL, J130 = guc J96 208 (fun _ => 0) → ∃ sl131 : List (Nat ⊕ Option Nat), 200 ∈ V128.1 ∧ V128.2.1 200 = b0 ∧ V128.2.2 200 = .inl (10, sl131) ∧ 9 < sl131.length ∧ ∀ V136 : gV, V136 = gde V128 200 (.inl (10, sl131.set 9 (.inr (some b129)))) → ∃ N138 : Nat, 209 ∉ V136.1 ∧ ¬ (10000 : Int32) < 0 ∧ ((10000 : Int32)).toNatClampNeg = N138 ∧ N138 * 8 ≤ 536870912 ∧ 0 + 1 + 1 + 1 + 1 + 1 + 1 + 1 + 1 + 1 ≤ mc ∧ 0 + N2 + N19 + N36 + N53 + N70 + N87 + N104 + N121 + N138 ≤ ms ∧ ∀ (b146 : Nat) (V145 : gV), V145 = gadd V136 209 b146 (.inr (1, N138, gno)) → ∀ J147 : gL, J147 = guc J130 209 (fun _ => 0) → ∃ sl148 : List (Nat ⊕ Option Nat), 200 ∈ V145.1 ∧ V145.2.1 200 = b0 ∧ V145.2.2 200 = .inl (10, sl148) ∧ 10 < sl148.length ∧ ∀ V153 : gV, V153 = gde V145 200 (.inl (10, sl148.set 10 (.inr (some b146)))) → ∃ N155 : Nat, 210 ∉ V153.1 ∧ ¬ (6 : Int32) < 0 ∧ ((6 : Int32)).toNatClampNeg = N155 ∧ N155 * 4 ≤ 536870912 ∧ 0 + 1 + 1 + 1 + 1 + 1 + 1 + 1 + 1 + 1 + 1 ≤ mc ∧ 0 + N2 + N19 + N36 + N53 + N70 + N87 + N104 + N121 + N138 + N155 ≤ ms ∧ ∀ (b163 : Nat) (V162 : gV), V162 = gadd V153 210 b163 (.inr (0, N155, gno)) → ∀ I164 : gI, I164 = guc I113 210 (fun _ => 0) → ∃ sl165 : List (Nat ⊕ Option Nat), 200 ∈ V162.1 ∧ V162.2.1 200 = b0 ∧ V162.2.2 200 = .inl (10, sl165) ∧ 12 < sl165.length ∧ ∀ V170 : gV, V170 = gde V162 200 (.inl (10, sl165.set 12 (.inr (some b163)))) → ∃ N172 : Nat, 211 ∉ V170.1 ∧ ¬ (1200 : Int32) < 0 ∧ ((1200 : Int32)).toNatClampNeg = N172 ∧ N172 * 4 ≤ 536870912 ∧ 0 + 1 + 1 + 1 + 1 + 1 + 1 + 1 + 1 + 1 + 1 + 1 ≤ mc ∧ 0 + N2 + N19 + N36 + N53 + N70 + N87 + N104 + N121 + N138 + N155 + N172 ≤ ms ∧ ∀ (b180 : Nat) (V179 : gV), V179 = gadd V170 211 b180 (.inr (0, N172, gno)) → ∀ I181 : gI, I181 = guc I164 211 (fun _ => 0) → ∃ sl182 : List (Nat ⊕ Option Nat), 200 ∈ V179.1 ∧ V179.2.1 200 = b0 ∧ V179.2.2 200 = .inl (10, sl182) ∧ 18 < sl182.length ∧ ∀ V187 : gV, V187 = gde V179 200 (.inl (10, sl182.set 18 (.inr (some b180)))) → ∃ N189 : Nat, 212 ∉ V187.1 ∧ ¬ (7 : Int32) < 0 ∧ ((7 : Int32)).toNatClampNeg = N189 ∧ N189 * 4 ≤ 536870912 ∧ 0 + 1 + 1 + 1 + 1 + 1 + 1 + 1 + 1 + 1 + 1 + 1 + 1 ≤ mc ∧ 0 + N2 + N19 + N36 + N53 + N70 + N87 + N104 + N121 + N138 + N155 + N172 + N189 ≤ ms ∧ ∀ (b197 : Nat) (V196 : gV), V196 = gadd V187 212 b197 (.inr (0, N189, gno)) → ∀ I198 : gI, I198 = guc I181 212 (fun _ => 0) → ∃ sl199 : List (Nat ⊕ Option Nat), 200 ∈ V196.1 ∧ V196.2.1 200 = b0 ∧ V196.2.2 200 = .inl (10, sl199) ∧ 19 < sl199.length ∧ ∀ V204 : gV, V204 = gde V196 200 (.inl (10, sl199.set 19 (.inr (some b197)))) → ∃ N206 : Nat, 213 ∉ V204.1 ∧ ¬ (1200 : Int32) < 0 ∧ ((1200 : Int32)).toNatClampNeg = N206 ∧ N206 * 4 ≤ 536870912 ∧ 0 + 1 + 1 + 1 + 1 + 1 + 1 + 1 + 1 + 1 + 1 + 1 + 1 + 1 ≤ mc ∧ 0 + N2 + N19 + N36 + N53 + N70 + N87 + N104 + N121 + N138 + N155 + N172 + N189 + N206 ≤ ms ∧ ∀ (b214 : Nat) (V213 : gV), V213 = gadd V204 213 b214 (.inr (0, N206, gno)) → ∀ I215 : gI, I215 = guc I198 213 (fun _ => 0) → ∃ sl216 : List (Nat ⊕ Option Nat), 200 ∈ V213.1 ∧ V213.2.1 200 = b0 ∧ V213.2.2 200 = .inl (10, sl216) ∧ 20 < sl216.length ∧ ∀ V221 : gV, V221 = gde V213 200 (.inl (10, sl216.set 20 (.inr (some b214)))) → ∃ N223 : Nat, 214 ∉ V221.1 ∧ ¬ (1200 : Int32) < 0 ∧ ((1200 : Int32)).toNatClampNeg = N223 ∧ N223 * 4 ≤ 536870912 ∧ 0 + 1 + 1 + 1 + 1 + 1 + 1 + 1 + 1 + 1 + 1 + 1 + 1 + 1 + 1 ≤ mc ∧ 0 + N2 + N19 + N36 + N53 + N70 + N87 + N104 + N121 + N138 + N155 + N172 + N189 + N206 + N223 ≤ ms ∧ ∀ (b231 : Nat) (V230 : gV), V230 = gadd V221 214 b231 (.inr (0, N223, gno)) → ∀ I232 : gI, I232 = guc I215 214 (fun _ => 0) → ∃ sl233 : List (Nat ⊕ Option Nat), 200 ∈ V230.1 ∧ V230.2.1 200 = b0 ∧ V230.2.2 200 = .inl (10, sl233) ∧ 21 < sl233.length ∧ ∀ V238 : gV, V238 = gde V230 200 (.inl (10, sl233.set 21 (.inr (some b231)))) → ∃ N240 : Nat, 215 ∉ V238.1 ∧ ¬ (22 : Int32) < 0 ∧ ((22 : Int32)).toNatClampNeg = N240 ∧ N240 * 4 ≤ 536870912 ∧ 0 + 1 + 1 + 1 + 1 + 1 + 1 + 1 + 1 + 1 + 1 + 1 + 1 + 1 + 1 + 1 ≤ mc ∧ 0 + N2 + N19 + N36 + N53 + N70 + N87 + N104 + N121 + N138 + N155 + N172 + N189 + N206 + N223 + N240 ≤ ms ∧ ∀ (b248 : Nat) (V247 : gV), V247 = gadd V238 215 b248 (.inr (0, N240, gno)) → ∀ I249 : gI, I249 = guc I232 215 (fun _ => 0) → ∃ sl250 : List (Nat ⊕ Option Nat), 200 ∈ V247.1 ∧ V247.2.1 200 = b0 ∧ V247.2.2 200 = .inl (10, sl250) ∧ 22 < sl250.length ∧ ∀ V255 : gV, V255 = gde V247 200 (.inl (10, sl250.set 22 (.inr (some b248)))) → ∃ N257 : Nat, 216 ∉ V255.1 ∧ ¬ (1048576 : Int32) < 0 ∧ ((1048576 : Int32)).toNatClampNeg = N257 ∧ N257 * 8 ≤ 536870912 ∧ 0 + 1 + 1 + 1 + 1 + 1 + 1 + 1 + 1 + 1 + 1 + 1 + 1 + 1 + 1 + 1 + 1 ≤ mc ∧ 0 + N2 + N19 + N36 + N53 + N70 + N87 + N104 + N121 + N138 + N155 + N172 + N189 + N206 + N223 + N240 + N257 ≤ ms ∧ ∀ (b265 : Nat) (V264 : gV), V264 = gadd V255 216 b265 (.inr (1, N257, gno)) → ∀ J266 : gL, J266 = guc J147 216 (fun _ => 0) → ∃ sl267 : List (Nat ⊕ Option Nat), 200 ∈ V264.1 ∧ V264.2.1 200 = b0 ∧ V264.2.2 200 = .inl (10, sl267) ∧ 23 < sl267.length ∧ ∀ V272 : gV, V272 = gde V264 200 (.inl (10, sl267.set 23 (.inr (some b265)))) → ∃ N274 : Nat, 217 ∉ V272.1 ∧ ¬ (1048576 : Int32) < 0 ∧ ((1048576 : Int32)).toNatClampNeg = N274 ∧ N274 * 1 ≤ 536870912 ∧ 0 + 1 + 1 + 1 + 1 + 1 + 1 + 1 + 1 + 1 + 1 + 1 + 1 + 1 + 1 + 1 + 1 + 1 ≤ mc ∧ 0 + N2 + N19 + N36 + N53 + N70 + N87 + N104 + N121 + N138 + N155 + N172 + N189 + N206 + N223 + N240 + N257 + N274 ≤ ms ∧ ∀ (b282 : Nat) (V281 : gV), V281 = gadd V272 217 b282 (.inr (2, N274, gno)) → ∀ I283 : gI, I283 = guc I249 217 (fun _ => 0) → ∃ sl284 : List (Nat ⊕ Option Nat), 200 ∈ V281.1 ∧ V281.2.1 200 = b0 ∧ V281.2.2 200 = .inl (10, sl284) ∧ 24 < sl284.length ∧ ∀ V289 : gV, V289 = gde V281 200 (.inl (10, sl284.set 24 (.inr (some b282)))) → ∃ N291 : Nat, 218 ∉ V289.1 ∧ ¬ (1048576 : Int32) < 0 ∧ ((1048576 : Int32)).toNatClampNeg = N291 ∧ N291 * 1 ≤ 536870912 ∧ 0 + 1 + 1 + 1 + 1 + 1 + 1 + 1 + 1 + 1 + 1 + 1 + 1 + 1 + 1 + 1 + 1 + 1 + 1 ≤ mc ∧ 0 + N2 + N19 + N36 + N53 + N70 + N87 + N104 + N121 + N138 + N155 + N172 + N189 + N206 + N223 + N240 + N257 + N274 + N291 ≤ ms ∧ ∀ (b299 : Nat) (V298 : gV), V298 = gadd V289 218 b299 (.inr (3, N291, gno)) → ∀ I300 : gI, I300 = guc I283 218 (fun _ => 0) → ∃ sl301 : List (Nat ⊕ Option Nat), 200 ∈ V298.1 ∧ V298.2.1 200 = b0 ∧ V298.2.2 200 = .inl (10, sl301) ∧ 25 < sl301.length ∧ ∀ V306 : gV, V306 = gde V298 200 (.inl (10, sl301.set 25 (.inr (some b299)))) → ∃ N308 : Nat, 219 ∉ V306.1 ∧ ¬ (8 : Int32) < 0 ∧ ((8 : Int32)).toNatClampNeg = N308 ∧ N308 * 4 ≤ 536870912 ∧ 0 + 1 + 1 + 1 + 1 + 1 + 1 + 1 + 1 + 1 + 1 + 1 + 1 + 1 + 1 + 1 + 1 + 1 + 1 + 1 ≤ mc ∧ 0 + N2 + N19 + N36 + N53 + N70 + N87 + N104 + N121 + N138 + N155 + N172 + N189 + N206 + N223 + N240 + N257 + N274 + N291 + N308 ≤ ms ∧ ∀ (b316 : Nat) (V315 : gV), V315 = gadd V306 219 b316 (.inr (0, N308, gno)) → ∀ I317 : gI, I317 = guc I300 219 (fun _ => 0) → ∃ sl318 : List (Nat ⊕ Option Nat), 200 ∈ V315.1 ∧ V315.2.1 200 = b0 ∧ V315.2.2 200 = .inl (10, sl318) ∧ 26 < sl318.length ∧ ∀ V323 : gV, V323 = gde V315 200 (.inl (10, sl318.set 26 (.inr (some b316)))) → ∃ N325 : Nat, 220 ∉ V323.1 ∧ ¬ (8 : Int32) < 0 ∧ ((8 : Int32)).toNatClampNeg = N325 ∧ N325 * 4 ≤ 536870912 ∧ 0 + 1 + 1 + 1 + 1 + 1 + 1 + 1 + 1 + 1 + 1 + 1 + 1 + 1 + 1 + 1 + 1 + 1 + 1 + 1 + 1 ≤ mc ∧ 0 + N2 + N19 + N36 + N53 + N70 + N87 + N104 + N121 + N138 + N155 + N172 + N189 + N206 + N223 + N240 + N257 + N274 + N291 + N308 + N325 ≤ ms ∧ ∀ (b333 : Nat) (V332 : gV), V332 = gadd V323 220 b333 (.inr (0, N325, gno)) → ∀ I334 : gI, I334 = guc I317 220 (fun _ => 0) → ∃ sl335 : List (Nat ⊕ Option Nat), 200 ∈ V332.1 ∧ V332.2.1 200 = b0 ∧ V332.2.2 200 = .inl (10, sl335) ∧ 27 < sl335.length ∧ ∀ V340 : gV, V340 = gde V332 200 (.inl (10, sl335.set 27 (.inr (some b333)))) → ∃ N342 : Nat, 221 ∉ V340.1 ∧ ¬ (8 : Int32) < 0 ∧ ((8 : Int32)).toNatClampNeg = N342 ∧ N342 * 4 ≤ 536870912 ∧ 0 + 1 + 1 + 1 + 1 + 1 + 1 + 1 + 1 + 1 + 1 + 1 + 1 + 1 + 1 + 1 + 1 + 1 + 1 + 1 + 1 + 1 ≤ mc ∧ 0 + N2 + N19 + N36 + N53 + N70 + N87 + N104 + N121 + N138 + N155 + N172 + N189 + N206 + N223 + N240 + N257 + N274 + N291 + N308 + N325 + N342 ≤ ms ∧ ∀ (b350 : Nat) (V349 : gV), V349 = gadd V340 221 b350 (.inr (0, N342, gno)) → ∀ I351 : gI, I351 = guc I334 221 (fun _ => 0) → ∃ sl352 : List (Nat ⊕ Option Nat), 200 ∈ V349.1 ∧ V349.2.1 200 = b0 ∧ V349.2.2 200 = .inl (10, sl352) ∧ 28 < sl352.length ∧ ∀ V357 : gV, V357 = gde V349 200 (.inl (10, sl352.set 28 (.inr (some b350)))) → ∃ N359 : Nat, 222 ∉ V357.1 ∧ ¬ (54 : Int32) < 0 ∧ ((54 : Int32)).toNatClampNeg = N359 ∧ N359 * 4 ≤ 536870912 ∧ 0 + 1 + 1 + 1 + 1 + 1 + 1 + 1 + 1 + 1 + 1 + 1 + 1 + 1 + 1 + 1 + 1 + 1 + 1 + 1 + 1 + 1 + 1 ≤ mc ∧ 0 + N2 + N19 + N36 + N53 + N70 + N87 + N104 + N121 + N138 + N155 + N172 + N189 + N206 + N223 + N240 + N257 + N274 + N291 + N308 + N325 + N342 + N359 ≤ ms ∧ ∀ (b367 : Nat) (V366 : gV), V366 = gadd V357 222 b367 (.inr (0, N359, gno)) → ∀ I368 : gI, I368 = guc I351 222 (fun _ => 0) → ∃ sl369 : List (Nat ⊕ Option Nat), 200 ∈ V366.1 ∧ V366.2.1 200 = b0 ∧ V366.2.2 200 = .inl (10, sl369) ∧ 33 < sl369.length ∧ ∀ V374 : gV, V374 = gde V366 200 (.inl (10, sl369.set 33 (.inr (some b367)))) → ∃ N376 : Nat, 223 ∉ V374.1 ∧ ¬ (6 : Int32) < 0 ∧ ((6 : Int32)).toNatClampNeg = N376 ∧ N376 * 8 ≤ 536870912 ∧ 0 + 1 + 1 + 1 + 1 + 1 + 1 + 1 + 1 + 1 + 1 + 1 + 1 + 1 + 1 + 1 + 1 + 1 + 1 + 1 + 1 + 1 + 1 + 1 ≤ mc ∧ 0 + N2 + N19 + N36 + N53 + N70 + N87 + N104 + N121 + N138 + N155 + N172 + N189 + N206 + N223 + N240 + N257 + N274 + N291 + N308 + N325 + N342 + N359 + N376 ≤ ms ∧ ∀ (b384 : Nat) (V383 : gV), V383 = gadd V374 223 b384 (.inr (1, N376, gno)) → ∀ J385 : gL, J385 = guc J266 223 (fun _ => 0) → ∃ sl386 : List (Nat ⊕ Option Nat), 200 ∈ V383.1 ∧ V383.2.1 200 = b0 ∧ V383.2.2 200 = .inl (10, sl386) ∧ 34 < sl386.length ∧ ∀ V391 : gV, V391 = gde V383 200 (.inl (10, sl386.set 34 (.inr (some b384)))) → ∃ N393 : Nat, 224 ∉ V391.1 ∧ ¬ (6 : Int32) < 0 ∧ ((6 : Int32)).toNatClampNeg = N393 ∧ N393 * 8 ≤ 536870912 ∧ 0 + 1 + 1 + 1 + 1 + 1 + 1 + 1 + 1 + 1 + 1 + 1 + 1 + 1 + 1 + 1 + 1 + 1 + 1 + 1 + 1 + 1 + 1 + 1 + 1 ≤ mc ∧ 0 + N2 + N19 + N36 + N53 + N70 + N87 + N104 + N121 + N138 + N155 + N172 + N189 + N206 + N223 + N240 + N257 + N274 + N291 + N308 + N325 + N342 + N359 + N376 + N393 ≤ ms ∧ ∀ (b401 : Nat) (V400 : gV), V400 = gadd V391 224 b401 (.inr (1, N393, gno)) → ∀ J402 : gL, J402 = guc J385 224 (fun _ => 0) → ∃ sl403 : List (Nat ⊕ Option Nat), 200 ∈ V400.1 ∧ V400.2.1 200 = b0 ∧ V400.2.2 200 = .inl (10, sl403) ∧ 35 < sl403.length ∧ ∀ V408 : gV, V408 = gde V400 200 (.inl (10, sl403.set 35 (.inr (some b401)))) → ∃ N410 : Nat, 225 ∉ V408.1 ∧ ¬ (78 : Int32) < 0 ∧ ((78 : Int32)).toNatClampNeg = N410 ∧ N410 * 4 ≤ 536870912 ∧ 0 + 1 + 1 + 1 + 1 + 1 + 1 + 1 + 1 + 1 + 1 + 1 + 1 + 1 + 1 + 1 + 1 + 1 + 1 + 1 + 1 + 1 + 1 + 1 + 1 + 1 ≤ mc ∧ 0 + N2 + N19 + N36 + N53 + N70 + N87 + N104 + N121 + N138 + N155 + N172 + N189 + N206 + N223 + N240 + N257 + N274 + N291 + N308 + N325 + N342 + N359 + N376 + N393 + N410 ≤ ms ∧ ∀ (b418 : Nat) (V417 : gV), V417 = gadd V408 225 b418 (.inr (0, N410, gno)) → ∀ I419 : gI, I419 = guc I368 225 (fun _ => 0) → ∃ sl420 : List (Nat ⊕ Option Nat), 200 ∈ V417.1 ∧ V417.2.1 200 = b0 ∧ V417.2.2 200 = .inl (10, sl420) ∧ 36 < sl420.length ∧ ∀ V425 : gV, V425 = gde V417 200 (.inl (10, sl420.set 36 (.inr (some b418)))) → ∃ N427 : Nat, 226 ∉ V425.1 ∧ ¬ (6 : Int32) < 0 ∧ ((6 : Int32)).toNatClampNeg = N427 ∧ N427 * 4 ≤ 536870912 ∧ 0 + 1 + 1 + 1 + 1 + 1 + 1 + 1 + 1 + 1 + 1 + 1 + 1 + 1 + 1 + 1 + 1 + 1 + 1 + 1 + 1 + 1 + 1 + 1 + 1 + 1 + 1 ≤ mc ∧ 0 + N2 + N19 + N36 + N53 + N70 + N87 + N104 + N121 + N138 + N155 + N172 + N189 + N206 + N223 + N240 + N257 + N274 + N291 + N308 + N325 + N342 + N359 + N376 + N393 + N410 + N427 ≤ ms ∧ ∀ (b435 : Nat) (V434 : gV), V434 = gadd V425 226 b435 (.inr (0, N427, gno)) → ∀ I436 : gI, I436 = guc I419 226 (fun _ => 0) → ∃ sl437 : List (Nat ⊕ Option Nat), 200 ∈ V434.1 ∧ V434.2.1 200 = b0 ∧ V434.2.2 200 = .inl (10, sl437) ∧ 37 < sl437.length ∧ ∀ V442 : gV, V442 = gde V434 200 (.inl (10, sl437.set 37 (.inr (some b435)))) → ∃ N444 : Nat, 227 ∉ V442.1 ∧ ¬ (6 : Int32) < 0 ∧ ((6 : Int32)).toNatClampNeg = N444 ∧ N444 * 4 ≤ 536870912 ∧ 0 + 1 + 1 + 1 + 1 + 1 + 1 + 1 + 1 + 1 + 1 + 1 + 1 + 1 + 1 + 1 + 1 + 1 + 1 + 1 + 1 + 1 + 1 + 1 + 1 + 1 + 1 + 1 ≤ mc ∧ 0 + N2 + N19 + N36 + N53 + N70 + N87 + N104 + N121 + N138 + N155 + N172 + N189 + N206 + N223 + N240 + N257 + N274 + N291 + N308 + N325 + N342 + N359 + N376 + N393 + N410 + N427 + N444 ≤ ms ∧ ∀ (b452 : Nat) (V451 : gV), V451 = gadd V442 227 b452 (.inr (0, N444, gno)) → ∀ I453 : gI, I453 = guc I436 227 (fun _ => 0) → ∃ sl454 : List (Nat ⊕ Option Nat), 200 ∈ V451.1 ∧ V451.2.1 200 = b0 ∧ V451.2.2 200 = .inl (10, sl454) ∧ 38 < sl454.length ∧ ∀ V459 : gV, V459 = gde V451 200 (.inl (10, sl454.set 38 (.inr (some b452)))) → ∃ N461 : Nat, 228 ∉ V459.1 ∧ ¬ (1296 : Int32) < 0 ∧ ((1296 : Int32)).toNatClampNeg = N461 ∧ N461 * 1 ≤ 536870912 ∧ 0 + 1 + 1 + 1 + 1 + 1 + 1 + 1 + 1 + 1 + 1 + 1 + 1 + 1 + 1 + 1 + 1 + 1 + 1 + 1 + 1 + 1 + 1 + 1 + 1 + 1 + 1 + 1 + 1 ≤ mc ∧ 0 + N2 + N19 + N36 + N53 + N70 + N87 + N104 + N121 + N138 + N155 + N172 + N189 + N206 + N223 + N240 + N257 + N274 + N291 + N308 + N325 + N342 + N359 + N376 + N393 + N410 + N427 + N444 + N461 ≤ ms ∧ ∀ (b469 : Nat) (V468 : gV), V468 = gadd V459 228 b469 (.inr (3, N461, gno)) → ∀ I470 : gI, I470 = guc I453 228 (fun _ => 0) → ∃ sl471 : List (Nat ⊕ Option Nat), 200 ∈ V468.1 ∧ V468.2.1 200 = b0 ∧ V468.2.2 200 = .inl (10, sl471) ∧ 39 < sl471.length ∧ ∀ V476 : gV, V476 = gde V468 200 (.inl (10, sl471.set 39 (.inr (some b469)))) → ∃ N478 : Nat, 229 ∉ V476.1 ∧ ¬ (6 : Int32) < 0 ∧ ((6 : Int32)).toNatClampNeg = N478 ∧ N478 * 4 ≤ 536870912 ∧ 0 + 1 + 1 + 1 + 1 + 1 + 1 + 1 + 1 + 1 + 1 + 1 + 1 + 1 + 1 + 1 + 1 + 1 + 1 + 1 + 1 + 1 + 1 + 1 + 1 + 1 + 1 + 1 + 1 + 1 ≤ mc ∧ 0 + N2 + N19 + N36 + N53 + N70 + N87 + N104 + N121 + N138 + N155 + N172 + N189 + N206 + N223 + N240 + N257 + N274 + N291 + N308 + N325 + N342 + N359 + N376 + N393 + N410 + N427 + N444 + N461 + N478 ≤ ms ∧ ∀ (b486 : Nat) (V485 : gV), V485 = gadd V476 229 b486 (.inr (0, N478, gno)) → ∀ I487 : gI, I487 = guc I470 229 (fun _ => 0) → ∃ sl488 : List (Nat ⊕ Option Nat), 200 ∈ V485.1 ∧ V485.2.1 200 = b0 ∧ V485.2.2 200 = .inl (10, sl488) ∧ 42 < sl488.length ∧ ∀ V493 : gV, V493 = gde V485 200 (.inl (10, sl488.set 42 (.inr (some b486)))) → ∃ N495 : Nat, 230 ∉ V493.1 ∧ ¬ (20 : Int32) < 0 ∧ ((20 : Int32)).toNatClampNeg = N495 ∧ N495 * 4 ≤ 536870912 ∧ 0 + 1 + 1 + 1 + 1 + 1 + 1 + 1 + 1 + 1 + 1 + 1 + 1 + 1 + 1 + 1 + 1 + 1 + 1 + 1 + 1 + 1 + 1 + 1 + 1 + 1 + 1 + 1 + 1 + 1 + 1 ≤ mc ∧ 0 + N2 + N19 + N36 + N53 + N70 + N87 + N104 + N121 + N138 + N155 + N172 + N189 + N206 + N223 + N240 + N257 + N274 + N291 + N308 + N325 + N342 + N359 + N376 + N393 + N410 + N427 + N444 + N461 + N478 + N495 ≤ ms ∧ ∀ (b503 : Nat) (V502 : gV), V502 = gadd V493 230 b503 (.inr (0, N495, gno)) → ∀ I504 : gI, I504 = guc I487 230 (fun _ => 0) → ∃ sl505 : List (Nat ⊕ Option Nat), 200 ∈ V502.1 ∧ V502.2.1 200 = b0 ∧ V502.2.2 200 = .inl (10, sl505) ∧ 43 < sl505.length ∧ ∀ V510 : gV, V510 = gde V502 200 (.inl (10, sl505.set 43 (.inr (some b503)))) → ∃ sl511 : List (Nat ⊕ Option Nat), 200 ∈ V510.1 ∧ V510.2.1 200 = b0 ∧ V510.2.2 200 = .inl (10, sl511) ∧ sl511[13]? = some (.inl 0) ∧ ∀ I516 : gI, I516 = gup I504 200 13 (1 : Int32) → ∃ sl517 : List (Nat ⊕ Option Nat), 200 ∈ V510.1 ∧ V510.2.1 200 = b0 ∧ V510.2.2 200 = .inl (10, sl517) ∧ sl517[14]? = some (.inl 0) ∧ ∀ I522 : gI, I522 = gup I516 200 14 (1 : Int32) → ∃ sl523 : List (Nat ⊕ Option Nat), 200 ∈ V510.1 ∧ V510.2.1 200 = b0 ∧ V510.2.2 200 = .inl (10, sl523) ∧ sl523[16]? = some (.inl 0) ∧ ∀ I528 : gI, I528 = gup I522 200 16 (1 : Int32) → ∃ sl529 : List (Nat ⊕ Option Nat), 200 ∈ V510.1 ∧ V510.2.1 200 = b0 ∧ V510.2.2 200 = .inl (10, sl529) ∧ sl529[17]? = some (.inl 0) ∧ ∀ I534 : gI, I534 = gup I528 200 17 (1 : Int32) → ∃ sl535 : List (Nat ⊕ Option Nat), 200 ∈ V510.1 ∧ V510.2.1 200 = b0 ∧ V510.2.2 200 = .inl (10, sl535) ∧ sl535[31]? = some (.inl 0) ∧ ∀ I540 : gI, I540 = gup I534 200 31 (1 : Int32) → ∃ sl541 : List (Nat ⊕ Option Nat), 200 ∈ V510.1 ∧ V510.2.1 200 = b0 ∧ V510.2.2 200 = .inl (10, sl541) ∧ sl541[32]? = some (.inl 0) ∧ ∀ I546 : gI, I546 = gup I540 200 32 (2 : Int32) → ∃ sl547 : List (Nat ⊕ Option Nat), 200 ∈ V510.1 ∧ V510.2.1 200 = b0 ∧ V510.2.2 200 = .inl (10, sl547) ∧ sl547[40]? = some (.inl 0) ∧ ∀ I552 : gI, I552 = gup I546 200 40 (1 : Int32) → Po V510 I552 J402
set_option maxRecDepth 100000 in
set_option maxHeartbeats 4000000 in
theorem n_X10_init {l : Launch} {D : va_G} {cy : Nat → ClassId} {mc ms : Nat} {b0 : Nat} {V : gV} {I : gI} {J : gL} {Po : gV → gI → gL → Prop} (h : wA_X10_init mc ms b0 V I J Po) : gMet l D cy yX10_init cX10_init 1 none (rA_X10_init mc ms) V [.ref b0] I J (gQv Po) := by
  refine gMet.of (by decide) (Nat.le_of_ble_eq_true rfl) (fun X hX C hR => ?_)
  have C : gC X cX10_init RX10 none 1 (rA_X10_init mc ms) := C
  have hcs : 0 ≤ mc ∧ 0 ≤ ms := ⟨Nat.zero_le _, Nat.zero_le _⟩
  show gJ X V 0 0 0 [(0, .ref b0)] [] I J
  unfold wA_X10_init at h
  refine j_aload_n (pc := 0) C dX10_init_0 rfl 0 rfl ?_
  refine j_objInit (pc := 1) (st := []) C wd_963 wd_91 wd_92 (Nat.le_of_ble_eq_true rfl) (Nat.le_of_ble_eq_true rfl) dX10_init_1 ?_
  refine j_aload_n (pc := 4) C dX10_init_4 rfl 0 rfl ?_
  refine j_bipush (pc := 5) (v := 32) C dX10_init_5 (by decide) ?_
  obtain ⟨N2, g3, g4, g5, g6, g7, g8, h⟩ := h
  refine j_newI (pc := 7) C 201 g3 g4 g5 g6 g7 g8 wd_121 dX10_init_7 (fun b10 => ?_)
  have hcs : _ ∧ _ := ⟨g7, g8⟩
  refine gJ.nmV (fun V9 eV9 => ?_)
  have h := h b10 V9 eV9
  refine gJ.nmI (fun I11 eI11 => ?_)
  have h := h I11 eI11
  obtain ⟨sl12, hk14, e13, hd15, hn16, h⟩ := h
  refine gJ.eqst (st' := [.ref b10, .ref (V9.2.1 200)]) (by rw [e13]) ?_
  refine j_putF (pc := 9) (ft := (.array .int)) C tyX10 tyX10_ok nmX10 200 1 hX rfl hk14 hd15 hn16 rfl (by decide) inw_X10 wd_967 rfl (by decide +kernel) rfl rfl dX10_init_9 ?_
  refine gJ.nmV (fun V17 eV17 => ?_)
  have h := h V17 eV17
  refine j_aload_n (pc := 12) C dX10_init_12 rfl 0 rfl ?_
  refine j_sipush (pc := 13) (v := 4096) C dX10_init_13 (by decide) ?_
  obtain ⟨N19, g20, g21, g22, g23, g24, g25, h⟩ := h
  refine j_newI (pc := 16) C 202 g20 g21 g22 g23 g24 g25 wd_121 dX10_init_16 (fun b27 => ?_)
  have hcs : _ ∧ _ := ⟨g24, g25⟩
  refine gJ.nmV (fun V26 eV26 => ?_)
  have h := h b27 V26 eV26
  refine gJ.nmI (fun I28 eI28 => ?_)
  have h := h I28 eI28
  obtain ⟨sl29, hk31, e30, hd32, hn33, h⟩ := h
  refine gJ.eqst (st' := [.ref b27, .ref (V26.2.1 200)]) (by rw [e30]) ?_
  refine j_putF (pc := 18) (ft := (.array .int)) C tyX10 tyX10_ok nmX10 200 2 hX rfl hk31 hd32 hn33 rfl (by decide) inw_X10 wd_968 rfl (by decide +kernel) rfl rfl dX10_init_18 ?_
  refine gJ.nmV (fun V34 eV34 => ?_)
  have h := h V34 eV34
  refine j_aload_n (pc := 21) C dX10_init_21 rfl 0 rfl ?_
  refine j_sipush (pc := 22) (v := 4096) C dX10_init_22 (by decide) ?_
  obtain ⟨N36, g37, g38, g39, g40, g41, g42, h⟩ := h
  refine j_newI (pc := 25) C 203 g37 g38 g39 g40 g41 g42 wd_121 dX10_init_25 (fun b44 => ?_)
  have hcs : _ ∧ _ := ⟨g41, g42⟩
  refine gJ.nmV (fun V43 eV43 => ?_)
  have h := h b44 V43 eV43
  refine gJ.nmI (fun I45 eI45 => ?_)
  have h := h I45 eI45
  obtain ⟨sl46, hk48, e47, hd49, hn50, h⟩ := h
  refine gJ.eqst (st' := [.ref b44, .ref (V43.2.1 200)]) (by rw [e47]) ?_
  refine j_putF (pc := 27) (ft := (.array .int)) C tyX10 tyX10_ok nmX10 200 3 hX rfl hk48 hd49 hn50 rfl (by decide) inw_X10 wd_969 rfl (by decide +kernel) rfl rfl dX10_init_27 ?_
  refine gJ.nmV (fun V51 eV51 => ?_)
  have h := h V51 eV51
  refine j_aload_n (pc := 30) C dX10_init_30 rfl 0 rfl ?_
  refine j_sipush (pc := 31) (v := 4096) C dX10_init_31 (by decide) ?_
  obtain ⟨N53, g54, g55, g56, g57, g58, g59, h⟩ := h
  refine j_newI (pc := 34) C 204 g54 g55 g56 g57 g58 g59 wd_121 dX10_init_34 (fun b61 => ?_)
  have hcs : _ ∧ _ := ⟨g58, g59⟩
  refine gJ.nmV (fun V60 eV60 => ?_)
  have h := h b61 V60 eV60
  refine gJ.nmI (fun I62 eI62 => ?_)
  have h := h I62 eI62
  obtain ⟨sl63, hk65, e64, hd66, hn67, h⟩ := h
  refine gJ.eqst (st' := [.ref b61, .ref (V60.2.1 200)]) (by rw [e64]) ?_
  refine j_putF (pc := 36) (ft := (.array .int)) C tyX10 tyX10_ok nmX10 200 4 hX rfl hk65 hd66 hn67 rfl (by decide) inw_X10 wd_970 rfl (by decide +kernel) rfl rfl dX10_init_36 ?_
  refine gJ.nmV (fun V68 eV68 => ?_)
  have h := h V68 eV68
  refine j_aload_n (pc := 39) C dX10_init_39 rfl 0 rfl ?_
  refine j_iconst (pc := 40) (v := 4) C dX10_init_40 (by decide) ?_
  obtain ⟨N70, g71, g72, g73, g74, g75, g76, h⟩ := h
  refine j_newI (pc := 41) C 205 g71 g72 g73 g74 g75 g76 wd_121 dX10_init_41 (fun b78 => ?_)
  have hcs : _ ∧ _ := ⟨g75, g76⟩
  refine gJ.nmV (fun V77 eV77 => ?_)
  have h := h b78 V77 eV77
  refine gJ.nmI (fun I79 eI79 => ?_)
  have h := h I79 eI79
  obtain ⟨sl80, hk82, e81, hd83, hn84, h⟩ := h
  refine gJ.eqst (st' := [.ref b78, .ref (V77.2.1 200)]) (by rw [e81]) ?_
  refine j_putF (pc := 43) (ft := (.array .int)) C tyX10 tyX10_ok nmX10 200 6 hX rfl hk82 hd83 hn84 rfl (by decide) inw_X10 wd_972 rfl (by decide +kernel) rfl rfl dX10_init_43 ?_
  refine gJ.nmV (fun V85 eV85 => ?_)
  have h := h V85 eV85
  refine j_aload_n (pc := 46) C dX10_init_46 rfl 0 rfl ?_
  refine j_ldc (pc := 47) (v := 50000) C dX10_init_47 wd_964 ?_
  obtain ⟨N87, g88, g89, g90, g91, g92, g93, h⟩ := h
  refine j_newL (pc := 49) C 206 g88 g89 g90 g91 g92 g93 wd_211 dX10_init_49 (fun b95 => ?_)
  have hcs : _ ∧ _ := ⟨g92, g93⟩
  refine gJ.nmV (fun V94 eV94 => ?_)
  have h := h b95 V94 eV94
  refine gJ.nmJ (fun J96 eJ96 => ?_)
  have h := h J96 eJ96
  obtain ⟨sl97, hk99, e98, hd100, hn101, h⟩ := h
  refine gJ.eqst (st' := [.ref b95, .ref (V94.2.1 200)]) (by rw [e98]) ?_
  refine j_putF (pc := 51) (ft := (.array .long)) C tyX10 tyX10_ok nmX10 200 7 hX rfl hk99 hd100 hn101 rfl (by decide) inw_X10 wd_973 rfl (by decide +kernel) rfl rfl dX10_init_51 ?_
  refine gJ.nmV (fun V102 eV102 => ?_)
  have h := h V102 eV102
  refine j_aload_n (pc := 54) C dX10_init_54 rfl 0 rfl ?_
  refine j_sipush (pc := 55) (v := 10000) C dX10_init_55 (by decide) ?_
  obtain ⟨N104, g105, g106, g107, g108, g109, g110, h⟩ := h
  refine j_newZ (pc := 58) C 207 g105 g106 g107 g108 g109 g110 wd_1102 dX10_init_58 (fun b112 => ?_)
  have hcs : _ ∧ _ := ⟨g109, g110⟩
  refine gJ.nmV (fun V111 eV111 => ?_)
  have h := h b112 V111 eV111
  refine gJ.nmI (fun I113 eI113 => ?_)
  have h := h I113 eI113
  obtain ⟨sl114, hk116, e115, hd117, hn118, h⟩ := h
  refine gJ.eqst (st' := [.ref b112, .ref (V111.2.1 200)]) (by rw [e115]) ?_
  refine j_putF (pc := 60) (ft := (.array .boolean)) C tyX10 tyX10_ok nmX10 200 8 hX rfl hk116 hd117 hn118 rfl (by decide) inw_X10 wd_974 rfl (by decide +kernel) rfl rfl dX10_init_60 ?_
  refine gJ.nmV (fun V119 eV119 => ?_)
  have h := h V119 eV119
  refine j_aload_n (pc := 63) C dX10_init_63 rfl 0 rfl ?_
  refine j_sipush (pc := 64) (v := 10000) C dX10_init_64 (by decide) ?_
  obtain ⟨N121, g122, g123, g124, g125, g126, g127, h⟩ := h
  refine j_newL (pc := 67) C 208 g122 g123 g124 g125 g126 g127 wd_211 dX10_init_67 (fun b129 => ?_)
  have hcs : _ ∧ _ := ⟨g126, g127⟩
  refine gJ.nmV (fun V128 eV128 => ?_)
  have h := h b129 V128 eV128
  refine gJ.nmJ (fun J130 eJ130 => ?_)
  have h := h J130 eJ130
  obtain ⟨sl131, hk133, e132, hd134, hn135, h⟩ := h
  refine gJ.eqst (st' := [.ref b129, .ref (V128.2.1 200)]) (by rw [e132]) ?_
  refine j_putF (pc := 69) (ft := (.array .long)) C tyX10 tyX10_ok nmX10 200 9 hX rfl hk133 hd134 hn135 rfl (by decide) inw_X10 wd_975 rfl (by decide +kernel) rfl rfl dX10_init_69 ?_
  refine gJ.nmV (fun V136 eV136 => ?_)
  have h := h V136 eV136
  refine j_aload_n (pc := 72) C dX10_init_72 rfl 0 rfl ?_
  refine j_sipush (pc := 73) (v := 10000) C dX10_init_73 (by decide) ?_
  obtain ⟨N138, g139, g140, g141, g142, g143, g144, h⟩ := h
  refine j_newL (pc := 76) C 209 g139 g140 g141 g142 g143 g144 wd_211 dX10_init_76 (fun b146 => ?_)
  have hcs : _ ∧ _ := ⟨g143, g144⟩
  refine gJ.nmV (fun V145 eV145 => ?_)
  have h := h b146 V145 eV145
  refine gJ.nmJ (fun J147 eJ147 => ?_)
  have h := h J147 eJ147
  obtain ⟨sl148, hk150, e149, hd151, hn152, h⟩ := h
  refine gJ.eqst (st' := [.ref b146, .ref (V145.2.1 200)]) (by rw [e149]) ?_
  refine j_putF (pc := 78) (ft := (.array .long)) C tyX10 tyX10_ok nmX10 200 10 hX rfl hk150 hd151 hn152 rfl (by decide) inw_X10 wd_976 rfl (by decide +kernel) rfl rfl dX10_init_78 ?_
  refine gJ.nmV (fun V153 eV153 => ?_)
  have h := h V153 eV153
  refine j_aload_n (pc := 81) C dX10_init_81 rfl 0 rfl ?_
  refine j_bipush (pc := 82) (v := 6) C dX10_init_82 (by decide) ?_
  obtain ⟨N155, g156, g157, g158, g159, g160, g161, h⟩ := h
  refine j_newI (pc := 84) C 210 g156 g157 g158 g159 g160 g161 wd_121 dX10_init_84 (fun b163 => ?_)
  have hcs : _ ∧ _ := ⟨g160, g161⟩
  refine gJ.nmV (fun V162 eV162 => ?_)
  have h := h b163 V162 eV162
  refine gJ.nmI (fun I164 eI164 => ?_)
  have h := h I164 eI164
  obtain ⟨sl165, hk167, e166, hd168, hn169, h⟩ := h
  refine gJ.eqst (st' := [.ref b163, .ref (V162.2.1 200)]) (by rw [e166]) ?_
  refine j_putF (pc := 86) (ft := (.array .int)) C tyX10 tyX10_ok nmX10 200 12 hX rfl hk167 hd168 hn169 rfl (by decide) inw_X10 wd_978 rfl (by decide +kernel) rfl rfl dX10_init_86 ?_
  refine gJ.nmV (fun V170 eV170 => ?_)
  have h := h V170 eV170
  refine j_aload_n (pc := 89) C dX10_init_89 rfl 0 rfl ?_
  refine j_sipush (pc := 90) (v := 1200) C dX10_init_90 (by decide) ?_
  obtain ⟨N172, g173, g174, g175, g176, g177, g178, h⟩ := h
  refine j_newI (pc := 93) C 211 g173 g174 g175 g176 g177 g178 wd_121 dX10_init_93 (fun b180 => ?_)
  have hcs : _ ∧ _ := ⟨g177, g178⟩
  refine gJ.nmV (fun V179 eV179 => ?_)
  have h := h b180 V179 eV179
  refine gJ.nmI (fun I181 eI181 => ?_)
  have h := h I181 eI181
  obtain ⟨sl182, hk184, e183, hd185, hn186, h⟩ := h
  refine gJ.eqst (st' := [.ref b180, .ref (V179.2.1 200)]) (by rw [e183]) ?_
  refine j_putF (pc := 95) (ft := (.array .int)) C tyX10 tyX10_ok nmX10 200 18 hX rfl hk184 hd185 hn186 rfl (by decide) inw_X10 wd_984 rfl (by decide +kernel) rfl rfl dX10_init_95 ?_
  refine gJ.nmV (fun V187 eV187 => ?_)
  have h := h V187 eV187
  refine j_aload_n (pc := 98) C dX10_init_98 rfl 0 rfl ?_
  refine j_bipush (pc := 99) (v := 7) C dX10_init_99 (by decide) ?_
  obtain ⟨N189, g190, g191, g192, g193, g194, g195, h⟩ := h
  refine j_newI (pc := 101) C 212 g190 g191 g192 g193 g194 g195 wd_121 dX10_init_101 (fun b197 => ?_)
  have hcs : _ ∧ _ := ⟨g194, g195⟩
  refine gJ.nmV (fun V196 eV196 => ?_)
  have h := h b197 V196 eV196
  refine gJ.nmI (fun I198 eI198 => ?_)
  have h := h I198 eI198
  obtain ⟨sl199, hk201, e200, hd202, hn203, h⟩ := h
  refine gJ.eqst (st' := [.ref b197, .ref (V196.2.1 200)]) (by rw [e200]) ?_
  refine j_putF (pc := 103) (ft := (.array .int)) C tyX10 tyX10_ok nmX10 200 19 hX rfl hk201 hd202 hn203 rfl (by decide) inw_X10 wd_985 rfl (by decide +kernel) rfl rfl dX10_init_103 ?_
  refine gJ.nmV (fun V204 eV204 => ?_)
  have h := h V204 eV204
  refine j_aload_n (pc := 106) C dX10_init_106 rfl 0 rfl ?_
  refine j_sipush (pc := 107) (v := 1200) C dX10_init_107 (by decide) ?_
  obtain ⟨N206, g207, g208, g209, g210, g211, g212, h⟩ := h
  refine j_newI (pc := 110) C 213 g207 g208 g209 g210 g211 g212 wd_121 dX10_init_110 (fun b214 => ?_)
  have hcs : _ ∧ _ := ⟨g211, g212⟩
  refine gJ.nmV (fun V213 eV213 => ?_)
  have h := h b214 V213 eV213
  refine gJ.nmI (fun I215 eI215 => ?_)
  have h := h I215 eI215
  obtain ⟨sl216, hk218, e217, hd219, hn220, h⟩ := h
  refine gJ.eqst (st' := [.ref b214, .ref (V213.2.1 200)]) (by rw [e217]) ?_
  refine j_putF (pc := 112) (ft := (.array .int)) C tyX10 tyX10_ok nmX10 200 20 hX rfl hk218 hd219 hn220 rfl (by decide) inw_X10 wd_986 rfl (by decide +kernel) rfl rfl dX10_init_112 ?_
  refine gJ.nmV (fun V221 eV221 => ?_)
  have h := h V221 eV221
  refine j_aload_n (pc := 115) C dX10_init_115 rfl 0 rfl ?_
  refine j_sipush (pc := 116) (v := 1200) C dX10_init_116 (by decide) ?_
  obtain ⟨N223, g224, g225, g226, g227, g228, g229, h⟩ := h
  refine j_newI (pc := 119) C 214 g224 g225 g226 g227 g228 g229 wd_121 dX10_init_119 (fun b231 => ?_)
  have hcs : _ ∧ _ := ⟨g228, g229⟩
  refine gJ.nmV (fun V230 eV230 => ?_)
  have h := h b231 V230 eV230
  refine gJ.nmI (fun I232 eI232 => ?_)
  have h := h I232 eI232
  obtain ⟨sl233, hk235, e234, hd236, hn237, h⟩ := h
  refine gJ.eqst (st' := [.ref b231, .ref (V230.2.1 200)]) (by rw [e234]) ?_
  refine j_putF (pc := 121) (ft := (.array .int)) C tyX10 tyX10_ok nmX10 200 21 hX rfl hk235 hd236 hn237 rfl (by decide) inw_X10 wd_987 rfl (by decide +kernel) rfl rfl dX10_init_121 ?_
  refine gJ.nmV (fun V238 eV238 => ?_)
  have h := h V238 eV238
  refine j_aload_n (pc := 124) C dX10_init_124 rfl 0 rfl ?_
  refine j_bipush (pc := 125) (v := 22) C dX10_init_125 (by decide) ?_
  obtain ⟨N240, g241, g242, g243, g244, g245, g246, h⟩ := h
  refine j_newI (pc := 127) C 215 g241 g242 g243 g244 g245 g246 wd_121 dX10_init_127 (fun b248 => ?_)
  have hcs : _ ∧ _ := ⟨g245, g246⟩
  refine gJ.nmV (fun V247 eV247 => ?_)
  have h := h b248 V247 eV247
  refine gJ.nmI (fun I249 eI249 => ?_)
  have h := h I249 eI249
  obtain ⟨sl250, hk252, e251, hd253, hn254, h⟩ := h
  refine gJ.eqst (st' := [.ref b248, .ref (V247.2.1 200)]) (by rw [e251]) ?_
  refine j_putF (pc := 129) (ft := (.array .int)) C tyX10 tyX10_ok nmX10 200 22 hX rfl hk252 hd253 hn254 rfl (by decide) inw_X10 wd_988 rfl (by decide +kernel) rfl rfl dX10_init_129 ?_
  refine gJ.nmV (fun V255 eV255 => ?_)
  have h := h V255 eV255
  refine j_aload_n (pc := 132) C dX10_init_132 rfl 0 rfl ?_
  refine j_ldc (pc := 133) (v := 1048576) C dX10_init_133 wd_965 ?_
  obtain ⟨N257, g258, g259, g260, g261, g262, g263, h⟩ := h
  refine j_newL (pc := 135) C 216 g258 g259 g260 g261 g262 g263 wd_211 dX10_init_135 (fun b265 => ?_)
  have hcs : _ ∧ _ := ⟨g262, g263⟩
  refine gJ.nmV (fun V264 eV264 => ?_)
  have h := h b265 V264 eV264
  refine gJ.nmJ (fun J266 eJ266 => ?_)
  have h := h J266 eJ266
  obtain ⟨sl267, hk269, e268, hd270, hn271, h⟩ := h
  refine gJ.eqst (st' := [.ref b265, .ref (V264.2.1 200)]) (by rw [e268]) ?_
  refine j_putF (pc := 137) (ft := (.array .long)) C tyX10 tyX10_ok nmX10 200 23 hX rfl hk269 hd270 hn271 rfl (by decide) inw_X10 wd_989 rfl (by decide +kernel) rfl rfl dX10_init_137 ?_
  refine gJ.nmV (fun V272 eV272 => ?_)
  have h := h V272 eV272
  refine j_aload_n (pc := 140) C dX10_init_140 rfl 0 rfl ?_
  refine j_ldc (pc := 141) (v := 1048576) C dX10_init_141 wd_965 ?_
  obtain ⟨N274, g275, g276, g277, g278, g279, g280, h⟩ := h
  refine j_newB (pc := 143) C 217 g275 g276 g277 g278 g279 g280 wd_1103 dX10_init_143 (fun b282 => ?_)
  have hcs : _ ∧ _ := ⟨g279, g280⟩
  refine gJ.nmV (fun V281 eV281 => ?_)
  have h := h b282 V281 eV281
  refine gJ.nmI (fun I283 eI283 => ?_)
  have h := h I283 eI283
  obtain ⟨sl284, hk286, e285, hd287, hn288, h⟩ := h
  refine gJ.eqst (st' := [.ref b282, .ref (V281.2.1 200)]) (by rw [e285]) ?_
  refine j_putF (pc := 145) (ft := (.array .byte)) C tyX10 tyX10_ok nmX10 200 24 hX rfl hk286 hd287 hn288 rfl (by decide) inw_X10 wd_990 rfl (by decide +kernel) rfl rfl dX10_init_145 ?_
  refine gJ.nmV (fun V289 eV289 => ?_)
  have h := h V289 eV289
  refine j_aload_n (pc := 148) C dX10_init_148 rfl 0 rfl ?_
  refine j_ldc (pc := 149) (v := 1048576) C dX10_init_149 wd_965 ?_
  obtain ⟨N291, g292, g293, g294, g295, g296, g297, h⟩ := h
  refine j_newZ (pc := 151) C 218 g292 g293 g294 g295 g296 g297 wd_1102 dX10_init_151 (fun b299 => ?_)
  have hcs : _ ∧ _ := ⟨g296, g297⟩
  refine gJ.nmV (fun V298 eV298 => ?_)
  have h := h b299 V298 eV298
  refine gJ.nmI (fun I300 eI300 => ?_)
  have h := h I300 eI300
  obtain ⟨sl301, hk303, e302, hd304, hn305, h⟩ := h
  refine gJ.eqst (st' := [.ref b299, .ref (V298.2.1 200)]) (by rw [e302]) ?_
  refine j_putF (pc := 153) (ft := (.array .boolean)) C tyX10 tyX10_ok nmX10 200 25 hX rfl hk303 hd304 hn305 rfl (by decide) inw_X10 wd_991 rfl (by decide +kernel) rfl rfl dX10_init_153 ?_
  refine gJ.nmV (fun V306 eV306 => ?_)
  have h := h V306 eV306
  refine j_aload_n (pc := 156) C dX10_init_156 rfl 0 rfl ?_
  refine j_bipush (pc := 157) (v := 8) C dX10_init_157 (by decide) ?_
  obtain ⟨N308, g309, g310, g311, g312, g313, g314, h⟩ := h
  refine j_newI (pc := 159) C 219 g309 g310 g311 g312 g313 g314 wd_121 dX10_init_159 (fun b316 => ?_)
  have hcs : _ ∧ _ := ⟨g313, g314⟩
  refine gJ.nmV (fun V315 eV315 => ?_)
  have h := h b316 V315 eV315
  refine gJ.nmI (fun I317 eI317 => ?_)
  have h := h I317 eI317
  obtain ⟨sl318, hk320, e319, hd321, hn322, h⟩ := h
  refine gJ.eqst (st' := [.ref b316, .ref (V315.2.1 200)]) (by rw [e319]) ?_
  refine j_putF (pc := 161) (ft := (.array .int)) C tyX10 tyX10_ok nmX10 200 26 hX rfl hk320 hd321 hn322 rfl (by decide) inw_X10 wd_992 rfl (by decide +kernel) rfl rfl dX10_init_161 ?_
  refine gJ.nmV (fun V323 eV323 => ?_)
  have h := h V323 eV323
  refine j_aload_n (pc := 164) C dX10_init_164 rfl 0 rfl ?_
  refine j_bipush (pc := 165) (v := 8) C dX10_init_165 (by decide) ?_
  obtain ⟨N325, g326, g327, g328, g329, g330, g331, h⟩ := h
  refine j_newI (pc := 167) C 220 g326 g327 g328 g329 g330 g331 wd_121 dX10_init_167 (fun b333 => ?_)
  have hcs : _ ∧ _ := ⟨g330, g331⟩
  refine gJ.nmV (fun V332 eV332 => ?_)
  have h := h b333 V332 eV332
  refine gJ.nmI (fun I334 eI334 => ?_)
  have h := h I334 eI334
  obtain ⟨sl335, hk337, e336, hd338, hn339, h⟩ := h
  refine gJ.eqst (st' := [.ref b333, .ref (V332.2.1 200)]) (by rw [e336]) ?_
  refine j_putF (pc := 169) (ft := (.array .int)) C tyX10 tyX10_ok nmX10 200 27 hX rfl hk337 hd338 hn339 rfl (by decide) inw_X10 wd_993 rfl (by decide +kernel) rfl rfl dX10_init_169 ?_
  refine gJ.nmV (fun V340 eV340 => ?_)
  have h := h V340 eV340
  refine j_aload_n (pc := 172) C dX10_init_172 rfl 0 rfl ?_
  refine j_bipush (pc := 173) (v := 8) C dX10_init_173 (by decide) ?_
  obtain ⟨N342, g343, g344, g345, g346, g347, g348, h⟩ := h
  refine j_newI (pc := 175) C 221 g343 g344 g345 g346 g347 g348 wd_121 dX10_init_175 (fun b350 => ?_)
  have hcs : _ ∧ _ := ⟨g347, g348⟩
  refine gJ.nmV (fun V349 eV349 => ?_)
  have h := h b350 V349 eV349
  refine gJ.nmI (fun I351 eI351 => ?_)
  have h := h I351 eI351
  obtain ⟨sl352, hk354, e353, hd355, hn356, h⟩ := h
  refine gJ.eqst (st' := [.ref b350, .ref (V349.2.1 200)]) (by rw [e353]) ?_
  refine j_putF (pc := 177) (ft := (.array .int)) C tyX10 tyX10_ok nmX10 200 28 hX rfl hk354 hd355 hn356 rfl (by decide) inw_X10 wd_994 rfl (by decide +kernel) rfl rfl dX10_init_177 ?_
  refine gJ.nmV (fun V357 eV357 => ?_)
  have h := h V357 eV357
  refine j_aload_n (pc := 180) C dX10_init_180 rfl 0 rfl ?_
  refine j_bipush (pc := 181) (v := 54) C dX10_init_181 (by decide) ?_
  obtain ⟨N359, g360, g361, g362, g363, g364, g365, h⟩ := h
  refine j_newI (pc := 183) C 222 g360 g361 g362 g363 g364 g365 wd_121 dX10_init_183 (fun b367 => ?_)
  have hcs : _ ∧ _ := ⟨g364, g365⟩
  refine gJ.nmV (fun V366 eV366 => ?_)
  have h := h b367 V366 eV366
  refine gJ.nmI (fun I368 eI368 => ?_)
  have h := h I368 eI368
  obtain ⟨sl369, hk371, e370, hd372, hn373, h⟩ := h
  refine gJ.eqst (st' := [.ref b367, .ref (V366.2.1 200)]) (by rw [e370]) ?_
  refine j_putF (pc := 185) (ft := (.array .int)) C tyX10 tyX10_ok nmX10 200 33 hX rfl hk371 hd372 hn373 rfl (by decide) inw_X10 wd_999 rfl (by decide +kernel) rfl rfl dX10_init_185 ?_
  refine gJ.nmV (fun V374 eV374 => ?_)
  have h := h V374 eV374
  refine j_aload_n (pc := 188) C dX10_init_188 rfl 0 rfl ?_
  refine j_bipush (pc := 189) (v := 6) C dX10_init_189 (by decide) ?_
  obtain ⟨N376, g377, g378, g379, g380, g381, g382, h⟩ := h
  refine j_newL (pc := 191) C 223 g377 g378 g379 g380 g381 g382 wd_211 dX10_init_191 (fun b384 => ?_)
  have hcs : _ ∧ _ := ⟨g381, g382⟩
  refine gJ.nmV (fun V383 eV383 => ?_)
  have h := h b384 V383 eV383
  refine gJ.nmJ (fun J385 eJ385 => ?_)
  have h := h J385 eJ385
  obtain ⟨sl386, hk388, e387, hd389, hn390, h⟩ := h
  refine gJ.eqst (st' := [.ref b384, .ref (V383.2.1 200)]) (by rw [e387]) ?_
  refine j_putF (pc := 193) (ft := (.array .long)) C tyX10 tyX10_ok nmX10 200 34 hX rfl hk388 hd389 hn390 rfl (by decide) inw_X10 wd_1000 rfl (by decide +kernel) rfl rfl dX10_init_193 ?_
  refine gJ.nmV (fun V391 eV391 => ?_)
  have h := h V391 eV391
  refine j_aload_n (pc := 196) C dX10_init_196 rfl 0 rfl ?_
  refine j_bipush (pc := 197) (v := 6) C dX10_init_197 (by decide) ?_
  obtain ⟨N393, g394, g395, g396, g397, g398, g399, h⟩ := h
  refine j_newL (pc := 199) C 224 g394 g395 g396 g397 g398 g399 wd_211 dX10_init_199 (fun b401 => ?_)
  have hcs : _ ∧ _ := ⟨g398, g399⟩
  refine gJ.nmV (fun V400 eV400 => ?_)
  have h := h b401 V400 eV400
  refine gJ.nmJ (fun J402 eJ402 => ?_)
  have h := h J402 eJ402
  obtain ⟨sl403, hk405, e404, hd406, hn407, h⟩ := h
  refine gJ.eqst (st' := [.ref b401, .ref (V400.2.1 200)]) (by rw [e404]) ?_
  refine j_putF (pc := 201) (ft := (.array .long)) C tyX10 tyX10_ok nmX10 200 35 hX rfl hk405 hd406 hn407 rfl (by decide) inw_X10 wd_1001 rfl (by decide +kernel) rfl rfl dX10_init_201 ?_
  refine gJ.nmV (fun V408 eV408 => ?_)
  have h := h V408 eV408
  refine j_aload_n (pc := 204) C dX10_init_204 rfl 0 rfl ?_
  refine j_bipush (pc := 205) (v := 78) C dX10_init_205 (by decide) ?_
  obtain ⟨N410, g411, g412, g413, g414, g415, g416, h⟩ := h
  refine j_newI (pc := 207) C 225 g411 g412 g413 g414 g415 g416 wd_121 dX10_init_207 (fun b418 => ?_)
  have hcs : _ ∧ _ := ⟨g415, g416⟩
  refine gJ.nmV (fun V417 eV417 => ?_)
  have h := h b418 V417 eV417
  refine gJ.nmI (fun I419 eI419 => ?_)
  have h := h I419 eI419
  obtain ⟨sl420, hk422, e421, hd423, hn424, h⟩ := h
  refine gJ.eqst (st' := [.ref b418, .ref (V417.2.1 200)]) (by rw [e421]) ?_
  refine j_putF (pc := 209) (ft := (.array .int)) C tyX10 tyX10_ok nmX10 200 36 hX rfl hk422 hd423 hn424 rfl (by decide) inw_X10 wd_1002 rfl (by decide +kernel) rfl rfl dX10_init_209 ?_
  refine gJ.nmV (fun V425 eV425 => ?_)
  have h := h V425 eV425
  refine j_aload_n (pc := 212) C dX10_init_212 rfl 0 rfl ?_
  refine j_bipush (pc := 213) (v := 6) C dX10_init_213 (by decide) ?_
  obtain ⟨N427, g428, g429, g430, g431, g432, g433, h⟩ := h
  refine j_newI (pc := 215) C 226 g428 g429 g430 g431 g432 g433 wd_121 dX10_init_215 (fun b435 => ?_)
  have hcs : _ ∧ _ := ⟨g432, g433⟩
  refine gJ.nmV (fun V434 eV434 => ?_)
  have h := h b435 V434 eV434
  refine gJ.nmI (fun I436 eI436 => ?_)
  have h := h I436 eI436
  obtain ⟨sl437, hk439, e438, hd440, hn441, h⟩ := h
  refine gJ.eqst (st' := [.ref b435, .ref (V434.2.1 200)]) (by rw [e438]) ?_
  refine j_putF (pc := 217) (ft := (.array .int)) C tyX10 tyX10_ok nmX10 200 37 hX rfl hk439 hd440 hn441 rfl (by decide) inw_X10 wd_1003 rfl (by decide +kernel) rfl rfl dX10_init_217 ?_
  refine gJ.nmV (fun V442 eV442 => ?_)
  have h := h V442 eV442
  refine j_aload_n (pc := 220) C dX10_init_220 rfl 0 rfl ?_
  refine j_bipush (pc := 221) (v := 6) C dX10_init_221 (by decide) ?_
  obtain ⟨N444, g445, g446, g447, g448, g449, g450, h⟩ := h
  refine j_newI (pc := 223) C 227 g445 g446 g447 g448 g449 g450 wd_121 dX10_init_223 (fun b452 => ?_)
  have hcs : _ ∧ _ := ⟨g449, g450⟩
  refine gJ.nmV (fun V451 eV451 => ?_)
  have h := h b452 V451 eV451
  refine gJ.nmI (fun I453 eI453 => ?_)
  have h := h I453 eI453
  obtain ⟨sl454, hk456, e455, hd457, hn458, h⟩ := h
  refine gJ.eqst (st' := [.ref b452, .ref (V451.2.1 200)]) (by rw [e455]) ?_
  refine j_putF (pc := 225) (ft := (.array .int)) C tyX10 tyX10_ok nmX10 200 38 hX rfl hk456 hd457 hn458 rfl (by decide) inw_X10 wd_1004 rfl (by decide +kernel) rfl rfl dX10_init_225 ?_
  refine gJ.nmV (fun V459 eV459 => ?_)
  have h := h V459 eV459
  refine j_aload_n (pc := 228) C dX10_init_228 rfl 0 rfl ?_
  refine j_sipush (pc := 229) (v := 1296) C dX10_init_229 (by decide) ?_
  obtain ⟨N461, g462, g463, g464, g465, g466, g467, h⟩ := h
  refine j_newZ (pc := 232) C 228 g462 g463 g464 g465 g466 g467 wd_1102 dX10_init_232 (fun b469 => ?_)
  have hcs : _ ∧ _ := ⟨g466, g467⟩
  refine gJ.nmV (fun V468 eV468 => ?_)
  have h := h b469 V468 eV468
  refine gJ.nmI (fun I470 eI470 => ?_)
  have h := h I470 eI470
  obtain ⟨sl471, hk473, e472, hd474, hn475, h⟩ := h
  refine gJ.eqst (st' := [.ref b469, .ref (V468.2.1 200)]) (by rw [e472]) ?_
  refine j_putF (pc := 234) (ft := (.array .boolean)) C tyX10 tyX10_ok nmX10 200 39 hX rfl hk473 hd474 hn475 rfl (by decide) inw_X10 wd_1005 rfl (by decide +kernel) rfl rfl dX10_init_234 ?_
  refine gJ.nmV (fun V476 eV476 => ?_)
  have h := h V476 eV476
  refine j_aload_n (pc := 237) C dX10_init_237 rfl 0 rfl ?_
  refine j_bipush (pc := 238) (v := 6) C dX10_init_238 (by decide) ?_
  obtain ⟨N478, g479, g480, g481, g482, g483, g484, h⟩ := h
  refine j_newI (pc := 240) C 229 g479 g480 g481 g482 g483 g484 wd_121 dX10_init_240 (fun b486 => ?_)
  have hcs : _ ∧ _ := ⟨g483, g484⟩
  refine gJ.nmV (fun V485 eV485 => ?_)
  have h := h b486 V485 eV485
  refine gJ.nmI (fun I487 eI487 => ?_)
  have h := h I487 eI487
  obtain ⟨sl488, hk490, e489, hd491, hn492, h⟩ := h
  refine gJ.eqst (st' := [.ref b486, .ref (V485.2.1 200)]) (by rw [e489]) ?_
  refine j_putF (pc := 242) (ft := (.array .int)) C tyX10 tyX10_ok nmX10 200 42 hX rfl hk490 hd491 hn492 rfl (by decide) inw_X10 wd_1008 rfl (by decide +kernel) rfl rfl dX10_init_242 ?_
  refine gJ.nmV (fun V493 eV493 => ?_)
  have h := h V493 eV493
  refine j_aload_n (pc := 245) C dX10_init_245 rfl 0 rfl ?_
  refine j_bipush (pc := 246) (v := 20) C dX10_init_246 (by decide) ?_
  obtain ⟨N495, g496, g497, g498, g499, g500, g501, h⟩ := h
  refine j_newI (pc := 248) C 230 g496 g497 g498 g499 g500 g501 wd_121 dX10_init_248 (fun b503 => ?_)
  have hcs : _ ∧ _ := ⟨g500, g501⟩
  refine gJ.nmV (fun V502 eV502 => ?_)
  have h := h b503 V502 eV502
  refine gJ.nmI (fun I504 eI504 => ?_)
  have h := h I504 eI504
  obtain ⟨sl505, hk507, e506, hd508, hn509, h⟩ := h
  refine gJ.eqst (st' := [.ref b503, .ref (V502.2.1 200)]) (by rw [e506]) ?_
  refine j_putF (pc := 250) (ft := (.array .int)) C tyX10 tyX10_ok nmX10 200 43 hX rfl hk507 hd508 hn509 rfl (by decide) inw_X10 wd_1009 rfl (by decide +kernel) rfl rfl dX10_init_250 ?_
  refine gJ.nmV (fun V510 eV510 => ?_)
  have h := h V510 eV510
  refine j_aload_n (pc := 253) C dX10_init_253 rfl 0 rfl ?_
  refine j_iconst (pc := 254) (v := 1) C dX10_init_254 (by decide) ?_
  obtain ⟨sl511, hk513, e512, hd514, hn515, h⟩ := h
  refine gJ.eqst (st' := [.int (1 : Int32), .ref (V510.2.1 200)]) (by rw [e512]) ?_
  refine j_putI (pc := 255) (ft := .int) C tyX10 tyX10_ok nmX10 200 13 hk513 hd514 hn515 rfl (by decide) inw_X10 wd_979 rfl (by decide +kernel) rfl rfl dX10_init_255 ?_
  refine gJ.nmI (fun I516 eI516 => ?_)
  have h := h I516 eI516
  refine j_aload_n (pc := 258) C dX10_init_258 rfl 0 rfl ?_
  refine j_iconst (pc := 259) (v := 1) C dX10_init_259 (by decide) ?_
  obtain ⟨sl517, hk519, e518, hd520, hn521, h⟩ := h
  refine gJ.eqst (st' := [.int (1 : Int32), .ref (V510.2.1 200)]) (by rw [e518]) ?_
  refine j_putI (pc := 260) (ft := .int) C tyX10 tyX10_ok nmX10 200 14 hk519 hd520 hn521 rfl (by decide) inw_X10 wd_980 rfl (by decide +kernel) rfl rfl dX10_init_260 ?_
  refine gJ.nmI (fun I522 eI522 => ?_)
  have h := h I522 eI522
  refine j_aload_n (pc := 263) C dX10_init_263 rfl 0 rfl ?_
  refine j_iconst (pc := 264) (v := 1) C dX10_init_264 (by decide) ?_
  obtain ⟨sl523, hk525, e524, hd526, hn527, h⟩ := h
  refine gJ.eqst (st' := [.int (1 : Int32), .ref (V510.2.1 200)]) (by rw [e524]) ?_
  refine j_putI (pc := 265) (ft := .boolean) C tyX10 tyX10_ok nmX10 200 16 hk525 hd526 hn527 rfl (by decide) inw_X10 wd_982 rfl (by decide +kernel) rfl rfl dX10_init_265 ?_
  refine gJ.nmI (fun I528 eI528 => ?_)
  have h := h I528 eI528
  refine j_aload_n (pc := 268) C dX10_init_268 rfl 0 rfl ?_
  refine j_iconst (pc := 269) (v := 1) C dX10_init_269 (by decide) ?_
  obtain ⟨sl529, hk531, e530, hd532, hn533, h⟩ := h
  refine gJ.eqst (st' := [.int (1 : Int32), .ref (V510.2.1 200)]) (by rw [e530]) ?_
  refine j_putI (pc := 270) (ft := .boolean) C tyX10 tyX10_ok nmX10 200 17 hk531 hd532 hn533 rfl (by decide) inw_X10 wd_983 rfl (by decide +kernel) rfl rfl dX10_init_270 ?_
  refine gJ.nmI (fun I534 eI534 => ?_)
  have h := h I534 eI534
  refine j_aload_n (pc := 273) C dX10_init_273 rfl 0 rfl ?_
  refine j_iconst (pc := 274) (v := 1) C dX10_init_274 (by decide) ?_
  obtain ⟨sl535, hk537, e536, hd538, hn539, h⟩ := h
  refine gJ.eqst (st' := [.int (1 : Int32), .ref (V510.2.1 200)]) (by rw [e536]) ?_
  refine j_putI (pc := 275) (ft := .int) C tyX10 tyX10_ok nmX10 200 31 hk537 hd538 hn539 rfl (by decide) inw_X10 wd_997 rfl (by decide +kernel) rfl rfl dX10_init_275 ?_
  refine gJ.nmI (fun I540 eI540 => ?_)
  have h := h I540 eI540
  refine j_aload_n (pc := 278) C dX10_init_278 rfl 0 rfl ?_
  refine j_iconst (pc := 279) (v := 2) C dX10_init_279 (by decide) ?_
  obtain ⟨sl541, hk543, e542, hd544, hn545, h⟩ := h
  refine gJ.eqst (st' := [.int (2 : Int32), .ref (V510.2.1 200)]) (by rw [e542]) ?_
  refine j_putI (pc := 280) (ft := .int) C tyX10 tyX10_ok nmX10 200 32 hk543 hd544 hn545 rfl (by decide) inw_X10 wd_998 rfl (by decide +kernel) rfl rfl dX10_init_280 ?_
  refine gJ.nmI (fun I546 eI546 => ?_)
  have h := h I546 eI546
  refine j_aload_n (pc := 283) C dX10_init_283 rfl 0 rfl ?_
  refine j_iconst (pc := 284) (v := 1) C dX10_init_284 (by decide) ?_
  obtain ⟨sl547, hk549, e548, hd550, hn551, h⟩ := h
  refine gJ.eqst (st' := [.int (1 : Int32), .ref (V510.2.1 200)]) (by rw [e548]) ?_
  refine j_putI (pc := 285) (ft := .int) C tyX10 tyX10_ok nmX10 200 40 hk549 hd550 hn551 rfl (by decide) inw_X10 wd_1006 rfl (by decide +kernel) rfl rfl dX10_init_285 ?_
  refine gJ.nmI (fun I552 eI552 => ?_)
  have h := h I552 eI552
  exact j_vret (pc := 288) C hR hcs.1 hcs.2 dX10_init_288 ⟨rfl, h⟩
