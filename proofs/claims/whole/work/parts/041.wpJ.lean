/-! java/util/Arrays.fill([II)V -/
abbrev rm_J7_fill_53178 : Room := { frames := 0, cells := 0, slots := 0, locals := 0 }
theorem ok_J7_fill_53178 : gOk yJ7_fill_53178 cJ7_fill_53178 4 none 2 := ⟨wd_407, wd_78, by decide +kernel⟩
def w_J7_fill_53178_5b (k len : Nat) (Po : gI → Prop) (K5 : Int32 → gI → Prop) (v1 : Int32) (v2 : Int32) (v3 : Int32) (I : gI) : Prop :=
  (v3 ≤ v2 → Po I) ∧ (¬ v3 ≤ v2 → vp_in v2 len ∧ ∀ I4 : gI, I4 = gup I k (v2).toNatClampNeg v1 → ∀ n5 : Int32, n5 = v2 + 1 → K5 n5 I4)
def w_J7_fill_53178_5 (k len : Nat) (Po : gI → Prop)  (v1 : Int32) (v2 : Int32) (v3 : Int32) (I : gI) : Prop :=
  ∃ (Inv : Int32 → gI → Prop) (mu : Int32 → gI → Nat), Inv v2 I ∧ ∀ (v2 : Int32) (I : gI), Inv v2 I → w_J7_fill_53178_5b k len Po  (fun u2 I1 => Inv u2 I1 ∧ mu u2 I1 < mu v2 I) v1 v2 v3 I
def wp_J7_fill_53178 (k len : Nat) (a1 : Int32) (I : gI) (Po : gI → Prop) : Prop :=
  ∀ n1 : Int32, n1 = (Int32.ofNat len) → w_J7_fill_53178_5 k len Po a1 (0 : Int32) n1 I
set_option maxRecDepth 100000 in
set_option maxHeartbeats 4000000 in
theorem t_J7_fill_53178_5b {X : gX} {l : Launch} {D : va_G} {cy : Nat → ClassId} {nm : String} {V : gV} {k len : Nat} (hk : k ∈ V.1) (hkd : V.2.2 k = .inr (0, len, gno)) (C : gC X cJ7_fill_53178 RJ7 none 4 rm_J7_fill_53178) (hX : gIs X l D cy nm) {I : gI} {J : gL} {Po : gI → Prop} (hR : gR X (gPv V (fun I' J' => J = J' ∧ Po I'))) {v1 : Int32} {v2 : Int32} {v3 : Int32} {K5 : Int32 → gI → Prop} (hK5 : ∀ (y2 : Int32) (I1 : gI), K5 y2 I1 → gJ X V 0 0 5 [(0, .ref (V.2.1 k)), (1, .int v1), (2, .int y2), (3, .int v3)] [] I1 J) (h : w_J7_fill_53178_5b k len Po K5 v1 v2 v3 I) : gJ X V 0 0 5 [(0, .ref (V.2.1 k)), (1, .int v1), (2, .int v2), (3, .int v3)] [] I J := by
  unfold w_J7_fill_53178_5b at h
  refine j_iload_n (pc := 5) C dJ7_fill_53178_5 rfl 2 rfl ?_
  refine j_iload_n (pc := 6) C dJ7_fill_53178_6 rfl 3 rfl ?_
  refine j_icmp_ge (pc := 7) (tgt := 20) C dJ7_fill_53178_7 (by decide) (fun c2 => ?_) (fun c2 => ?_)
  · have h := h.1 c2
    exact j_vret (pc := 20) C hR (Nat.zero_le _) (Nat.zero_le _) dJ7_fill_53178_20 ⟨rfl, rfl, rfl, h⟩
  · have h := h.2 c2
    refine j_aload_n (pc := 10) C dJ7_fill_53178_10 rfl 0 rfl ?_
    refine j_iload_n (pc := 11) C dJ7_fill_53178_11 rfl 2 rfl ?_
    refine j_iload_n (pc := 12) C dJ7_fill_53178_12 rfl 1 rfl ?_
    obtain ⟨g3, h⟩ := h
    refine j_iast (pc := 13) C k hk hkd g3 dJ7_fill_53178_13 ?_
    refine gJ.nmI (fun I4 eI4 => ?_)
    have h := h I4 eI4
    obtain ⟨n5, en5⟩ : ∃ z : Int32, z = v2 + 1 := ⟨_, rfl⟩
    have h := h n5 en5
    refine j_iinc (pc := 14) (v := n5) (lv' := [(2, .int n5), (0, .ref (V.2.1 k)), (1, .int v1), (3, .int v3)]) C dJ7_fill_53178_14 2 rfl (by rw [en5]; rfl) (by decide) rfl ?_
    refine j_goto (pc := 17) (tgt := 5) C dJ7_fill_53178_17 (by decide) ?_
    refine gJ.sub [1, 2, 0, 3] rfl ?_
    exact hK5 _ _ h
set_option maxRecDepth 100000 in
set_option maxHeartbeats 4000000 in
theorem t_J7_fill_53178_5 {X : gX} {l : Launch} {D : va_G} {cy : Nat → ClassId} {nm : String} {V : gV} {k len : Nat} (hk : k ∈ V.1) (hkd : V.2.2 k = .inr (0, len, gno)) (C : gC X cJ7_fill_53178 RJ7 none 4 rm_J7_fill_53178) (hX : gIs X l D cy nm) {I : gI} {J : gL} {Po : gI → Prop} (hR : gR X (gPv V (fun I' J' => J = J' ∧ Po I'))) {v1 : Int32} {v2 : Int32} {v3 : Int32} (h : w_J7_fill_53178_5 k len Po v1 v2 v3 I) : gJ X V 0 0 5 [(0, .ref (V.2.1 k)), (1, .int v1), (2, .int v2), (3, .int v3)] [] I J := by
  unfold w_J7_fill_53178_5 at h
  obtain ⟨Inv, mu, h0, hs⟩ := h
  have key : ∀ (n : Nat) (v2 : Int32) (I : gI), Inv v2 I → mu v2 I < n → gJ X V 0 0 5 [(0, .ref (V.2.1 k)), (1, .int v1), (2, .int v2), (3, .int v3)] [] I J := by
    intro n
    induction n with
    | zero => intro v2 I hi hn; exact absurd hn (Nat.not_lt_zero _)
    | succ n ih =>
      intro v2 I hi hn
      exact t_J7_fill_53178_5b hk hkd C hX hR   (fun u2 I1 hk => ih u2 I1 hk.1 (Nat.lt_of_lt_of_le hk.2 (Nat.le_of_lt_succ hn))) (hs v2 I hi)
  exact key _ v2 I h0 (Nat.lt_succ_self _)
set_option maxRecDepth 100000 in
set_option maxHeartbeats 4000000 in
theorem m_J7_fill_53178 {l : Launch} {D : va_G} {cy : Nat → ClassId} {V : gV} {k len : Nat} (hk : k ∈ V.1) (hkd : V.2.2 k = .inr (0, len, gno)) {a1 : Int32} {I : gI} {J : gL} {Po : gI → Prop} (h : wp_J7_fill_53178 k len a1 I Po) : gMet l D cy yJ7_fill_53178 cJ7_fill_53178 4 none rm_J7_fill_53178 V [.ref (V.2.1 k), .int a1] I J (gPv V (fun I' J' => J = J' ∧ Po I')) := by
  refine gMet.of (by decide) (Nat.le_of_ble_eq_true rfl) (fun X hX C hR => ?_)
  have C : gC X cJ7_fill_53178 RJ7 none 4 rm_J7_fill_53178 := C
  show gJ X V 0 0 0 [(0, .ref (V.2.1 k)), (1, .int a1)] [] I J
  unfold wp_J7_fill_53178 at h
  refine j_iconst (pc := 0) (v := 0) C dJ7_fill_53178_0 (by decide) ?_
  refine j_istore_n (pc := 1) (lv' := [(2, .int (0 : Int32)), (0, .ref (V.2.1 k)), (1, .int a1)]) C dJ7_fill_53178_1 rfl (by decide) rfl ?_
  refine j_aload_n (pc := 2) C dJ7_fill_53178_2 rfl 1 rfl ?_
  refine j_alen (pc := 3) (v := Int32.ofNat len) C k hk hkd (by decide) rfl dJ7_fill_53178_3 ?_
  refine gJ.topi (fun n1 en1 => ?_)
  have h := h n1 en1
  refine j_istore_n (pc := 4) (lv' := [(3, .int n1), (2, .int (0 : Int32)), (0, .ref (V.2.1 k)), (1, .int a1)]) C dJ7_fill_53178_4 rfl (by decide) rfl ?_
  refine gJ.sub [2, 3, 1, 0] rfl ?_
  exact t_J7_fill_53178_5 hk hkd C hX hR   h
/-! TileRules.power(II)I -/
abbrev rm_X9_power : Room := { frames := 0, cells := 0, slots := 0, locals := 0 }
theorem ok_X9_power : gOk yX9_power cX9_power 4 (some .int) 2 := ⟨wd_308, wd_69, by decide +kernel⟩
def w_X9_power_4b  (Po : Int32 → Prop) (K4 : Int32 → Int32 → Prop) (v0 : Int32) (v1 : Int32) (v2 : Int32) (v3 : Int32) : Prop :=
  (v1 ≤ v3 → Po v2) ∧ (¬ v1 ≤ v3 → ∀ n2 : Int32, n2 = (v2 * v0) → ∀ n3 : Int32, n3 = v3 + 1 → K4 n2 n3)
def w_X9_power_4  (Po : Int32 → Prop)  (v0 : Int32) (v1 : Int32) (v2 : Int32) (v3 : Int32) : Prop :=
  ∃ (Inv : Int32 → Int32 → Prop) (mu : Int32 → Int32 → Nat), Inv v2 v3 ∧ ∀ (v2 : Int32) (v3 : Int32), Inv v2 v3 → w_X9_power_4b  Po  (fun u2 u3 => Inv u2 u3 ∧ mu u2 u3 < mu v2 v3) v0 v1 v2 v3
def wp_X9_power (a0 : Int32) (a1 : Int32) (Po : Int32 → Prop) : Prop :=
  w_X9_power_4 Po a0 a1 (1 : Int32) (0 : Int32)
set_option maxRecDepth 100000 in
set_option maxHeartbeats 4000000 in
theorem t_X9_power_4b {X : gX} {l : Launch} {D : va_G} {cy : Nat → ClassId} {nm : String} {V : gV} (C : gC X cX9_power RX9 (some .int) 4 rm_X9_power) (hX : gIs X l D cy nm) {I : gI} {J : gL} {Po : Int32 → Prop} (hR : gR X (gPi V (fun x I' J' => I = I' ∧ J = J' ∧ Po x))) {v0 : Int32} {v1 : Int32} {v2 : Int32} {v3 : Int32} {K4 : Int32 → Int32 → Prop} (hK4 : ∀ (y2 : Int32) (y3 : Int32), K4 y2 y3 → gJ X V 0 0 4 [(0, .int v0), (1, .int v1), (2, .int y2), (3, .int y3)] [] I J) (h : w_X9_power_4b Po K4 v0 v1 v2 v3) : gJ X V 0 0 4 [(0, .int v0), (1, .int v1), (2, .int v2), (3, .int v3)] [] I J := by
  unfold w_X9_power_4b at h
  refine j_iload_n (pc := 4) C dX9_power_4 rfl 3 rfl ?_
  refine j_iload_n (pc := 5) C dX9_power_5 rfl 1 rfl ?_
  refine j_icmp_ge (pc := 6) (tgt := 19) C dX9_power_6 (by decide) (fun c1 => ?_) (fun c1 => ?_)
  · have h := h.1 c1
    refine j_iload_n (pc := 19) C dX9_power_19 rfl 2 rfl ?_
    exact j_iret (pc := 20) C hR (Nat.zero_le _) (Nat.zero_le _) dX9_power_20 ⟨_, rfl, rfl, rfl, rfl, h⟩
  · have h := h.2 c1
    refine j_iload_n (pc := 9) C dX9_power_9 rfl 2 rfl ?_
    refine j_iload_n (pc := 10) C dX9_power_10 rfl 0 rfl ?_
    refine j_imul (pc := 11) C dX9_power_11 ?_
    refine gJ.topi (fun n2 en2 => ?_)
    have h := h n2 en2
    refine j_istore_n (pc := 12) (lv' := [(2, .int n2), (0, .int v0), (1, .int v1), (3, .int v3)]) C dX9_power_12 rfl (by decide) rfl ?_
    obtain ⟨n3, en3⟩ : ∃ z : Int32, z = v3 + 1 := ⟨_, rfl⟩
    have h := h n3 en3
    refine j_iinc (pc := 13) (v := n3) (lv' := [(3, .int n3), (2, .int n2), (0, .int v0), (1, .int v1)]) C dX9_power_13 3 rfl (by rw [en3]; rfl) (by decide) rfl ?_
    refine j_goto (pc := 16) (tgt := 4) C dX9_power_16 (by decide) ?_
    refine gJ.sub [2, 3, 1, 0] rfl ?_
    exact hK4 _ _ h
set_option maxRecDepth 100000 in
set_option maxHeartbeats 4000000 in
theorem t_X9_power_4 {X : gX} {l : Launch} {D : va_G} {cy : Nat → ClassId} {nm : String} {V : gV} (C : gC X cX9_power RX9 (some .int) 4 rm_X9_power) (hX : gIs X l D cy nm) {I : gI} {J : gL} {Po : Int32 → Prop} (hR : gR X (gPi V (fun x I' J' => I = I' ∧ J = J' ∧ Po x))) {v0 : Int32} {v1 : Int32} {v2 : Int32} {v3 : Int32} (h : w_X9_power_4 Po v0 v1 v2 v3) : gJ X V 0 0 4 [(0, .int v0), (1, .int v1), (2, .int v2), (3, .int v3)] [] I J := by
  unfold w_X9_power_4 at h
  obtain ⟨Inv, mu, h0, hs⟩ := h
  have key : ∀ (n : Nat) (v2 : Int32) (v3 : Int32), Inv v2 v3 → mu v2 v3 < n → gJ X V 0 0 4 [(0, .int v0), (1, .int v1), (2, .int v2), (3, .int v3)] [] I J := by
    intro n
    induction n with
    | zero => intro v2 v3 hi hn; exact absurd hn (Nat.not_lt_zero _)
    | succ n ih =>
      intro v2 v3 hi hn
      exact t_X9_power_4b  C hX hR   (fun u2 u3 hk => ih u2 u3 hk.1 (Nat.lt_of_lt_of_le hk.2 (Nat.le_of_lt_succ hn))) (hs v2 v3 hi)
  exact key _ v2 v3 h0 (Nat.lt_succ_self _)
set_option maxRecDepth 100000 in
set_option maxHeartbeats 4000000 in
theorem m_X9_power {l : Launch} {D : va_G} {cy : Nat → ClassId} {V : gV} {a0 : Int32} {a1 : Int32} {I : gI} {J : gL} {Po : Int32 → Prop} (h : wp_X9_power a0 a1 Po) : gMet l D cy yX9_power cX9_power 4 (some .int) rm_X9_power V [.int a0, .int a1] I J (gPi V (fun x I' J' => I = I' ∧ J = J' ∧ Po x)) := by
  refine gMet.of (by decide) (Nat.le_of_ble_eq_true rfl) (fun X hX C hR => ?_)
  have C : gC X cX9_power RX9 (some .int) 4 rm_X9_power := C
  show gJ X V 0 0 0 [(0, .int a0), (1, .int a1)] [] I J
  unfold wp_X9_power at h
  refine j_iconst (pc := 0) (v := 1) C dX9_power_0 (by decide) ?_
  refine j_istore_n (pc := 1) (lv' := [(2, .int (1 : Int32)), (0, .int a0), (1, .int a1)]) C dX9_power_1 rfl (by decide) rfl ?_
  refine j_iconst (pc := 2) (v := 0) C dX9_power_2 (by decide) ?_
  refine j_istore_n (pc := 3) (lv' := [(3, .int (0 : Int32)), (2, .int (1 : Int32)), (0, .int a0), (1, .int a1)]) C dX9_power_3 rfl (by decide) rfl ?_
  refine gJ.sub [2, 3, 1, 0] rfl ?_
  exact t_X9_power_4  C hX hR   h
/-! java/util/Arrays.fill([JJ)V -/
abbrev rm_J7_fill_d0a16 : Room := { frames := 0, cells := 0, slots := 0, locals := 0 }
theorem ok_J7_fill_d0a16 : gOk yJ7_fill_d0a16 cJ7_fill_d0a16 5 none 2 := ⟨wd_761, wd_78, by decide +kernel⟩
def w_J7_fill_d0a16_6b (k len : Nat) (Po : gL → Prop) (K6 : Int32 → gL → Prop) (v1 : Int64) (v3 : Int32) (v4 : Int32) (J : gL) : Prop :=
  (v4 ≤ v3 → Po J) ∧ (¬ v4 ≤ v3 → vp_in v3 len ∧ ∀ J4 : gL, J4 = gup J k (v3).toNatClampNeg v1 → ∀ n5 : Int32, n5 = v3 + 1 → K6 n5 J4)
def w_J7_fill_d0a16_6 (k len : Nat) (Po : gL → Prop)  (v1 : Int64) (v3 : Int32) (v4 : Int32) (J : gL) : Prop :=
  ∃ (Inv : Int32 → gL → Prop) (mu : Int32 → gL → Nat), Inv v3 J ∧ ∀ (v3 : Int32) (J : gL), Inv v3 J → w_J7_fill_d0a16_6b k len Po  (fun u3 J1 => Inv u3 J1 ∧ mu u3 J1 < mu v3 J) v1 v3 v4 J
def wp_J7_fill_d0a16 (k len : Nat) (a1 : Int64) (J : gL) (Po : gL → Prop) : Prop :=
  ∀ n1 : Int32, n1 = (Int32.ofNat len) → w_J7_fill_d0a16_6 k len Po a1 (0 : Int32) n1 J
set_option maxRecDepth 100000 in
set_option maxHeartbeats 4000000 in
theorem t_J7_fill_d0a16_6b {X : gX} {l : Launch} {D : va_G} {cy : Nat → ClassId} {nm : String} {V : gV} {k len : Nat} (hk : k ∈ V.1) (hkd : V.2.2 k = .inr (1, len, gno)) (C : gC X cJ7_fill_d0a16 RJ7 none 5 rm_J7_fill_d0a16) (hX : gIs X l D cy nm) {I : gI} {J : gL} {Po : gL → Prop} (hR : gR X (gPv V (fun I' J' => I = I' ∧ Po J'))) {v1 : Int64} {v3 : Int32} {v4 : Int32} {K6 : Int32 → gL → Prop} (hK6 : ∀ (y3 : Int32) (J1 : gL), K6 y3 J1 → gJ X V 0 0 6 [(0, .ref (V.2.1 k)), (1, .long v1), (3, .int y3), (4, .int v4)] [] I J1) (h : w_J7_fill_d0a16_6b k len Po K6 v1 v3 v4 J) : gJ X V 0 0 6 [(0, .ref (V.2.1 k)), (1, .long v1), (3, .int v3), (4, .int v4)] [] I J := by
  unfold w_J7_fill_d0a16_6b at h
  refine j_iload_n (pc := 6) C dJ7_fill_d0a16_6 rfl 2 rfl ?_
  refine j_iload (pc := 7) C dJ7_fill_d0a16_7 3 rfl ?_
  refine j_icmp_ge (pc := 9) (tgt := 22) C dJ7_fill_d0a16_9 (by decide) (fun c2 => ?_) (fun c2 => ?_)
  · have h := h.1 c2
    exact j_vret (pc := 22) C hR (Nat.zero_le _) (Nat.zero_le _) dJ7_fill_d0a16_22 ⟨rfl, rfl, rfl, h⟩
  · have h := h.2 c2
    refine j_aload_n (pc := 12) C dJ7_fill_d0a16_12 rfl 0 rfl ?_
    refine j_iload_n (pc := 13) C dJ7_fill_d0a16_13 rfl 2 rfl ?_
    refine j_lload_n (pc := 14) C dJ7_fill_d0a16_14 rfl 1 rfl ?_
    obtain ⟨g3, h⟩ := h
    refine j_last (pc := 15) C k hk hkd g3 dJ7_fill_d0a16_15 ?_
    refine gJ.nmJ (fun J4 eJ4 => ?_)
    have h := h J4 eJ4
    obtain ⟨n5, en5⟩ : ∃ z : Int32, z = v3 + 1 := ⟨_, rfl⟩
    have h := h n5 en5
    refine j_iinc (pc := 16) (v := n5) (lv' := [(3, .int n5), (0, .ref (V.2.1 k)), (1, .long v1), (4, .int v4)]) C dJ7_fill_d0a16_16 2 rfl (by rw [en5]; rfl) (by decide) rfl ?_
    refine j_goto (pc := 19) (tgt := 6) C dJ7_fill_d0a16_19 (by decide) ?_
    refine gJ.sub [1, 2, 0, 3] rfl ?_
    exact hK6 _ _ h
set_option maxRecDepth 100000 in
set_option maxHeartbeats 4000000 in
theorem t_J7_fill_d0a16_6 {X : gX} {l : Launch} {D : va_G} {cy : Nat → ClassId} {nm : String} {V : gV} {k len : Nat} (hk : k ∈ V.1) (hkd : V.2.2 k = .inr (1, len, gno)) (C : gC X cJ7_fill_d0a16 RJ7 none 5 rm_J7_fill_d0a16) (hX : gIs X l D cy nm) {I : gI} {J : gL} {Po : gL → Prop} (hR : gR X (gPv V (fun I' J' => I = I' ∧ Po J'))) {v1 : Int64} {v3 : Int32} {v4 : Int32} (h : w_J7_fill_d0a16_6 k len Po v1 v3 v4 J) : gJ X V 0 0 6 [(0, .ref (V.2.1 k)), (1, .long v1), (3, .int v3), (4, .int v4)] [] I J := by
  unfold w_J7_fill_d0a16_6 at h
  obtain ⟨Inv, mu, h0, hs⟩ := h
  have key : ∀ (n : Nat) (v3 : Int32) (J : gL), Inv v3 J → mu v3 J < n → gJ X V 0 0 6 [(0, .ref (V.2.1 k)), (1, .long v1), (3, .int v3), (4, .int v4)] [] I J := by
    intro n
    induction n with
    | zero => intro v3 J hi hn; exact absurd hn (Nat.not_lt_zero _)
    | succ n ih =>
      intro v3 J hi hn
      exact t_J7_fill_d0a16_6b hk hkd C hX hR   (fun u3 J1 hk => ih u3 J1 hk.1 (Nat.lt_of_lt_of_le hk.2 (Nat.le_of_lt_succ hn))) (hs v3 J hi)
  exact key _ v3 J h0 (Nat.lt_succ_self _)
set_option maxRecDepth 100000 in
set_option maxHeartbeats 4000000 in
theorem m_J7_fill_d0a16 {l : Launch} {D : va_G} {cy : Nat → ClassId} {V : gV} {k len : Nat} (hk : k ∈ V.1) (hkd : V.2.2 k = .inr (1, len, gno)) {a1 : Int64} {I : gI} {J : gL} {Po : gL → Prop} (h : wp_J7_fill_d0a16 k len a1 J Po) : gMet l D cy yJ7_fill_d0a16 cJ7_fill_d0a16 5 none rm_J7_fill_d0a16 V [.ref (V.2.1 k), .long a1] I J (gPv V (fun I' J' => I = I' ∧ Po J')) := by
  refine gMet.of (by decide) (Nat.le_of_ble_eq_true rfl) (fun X hX C hR => ?_)
  have C : gC X cJ7_fill_d0a16 RJ7 none 5 rm_J7_fill_d0a16 := C
  show gJ X V 0 0 0 [(0, .ref (V.2.1 k)), (1, .long a1)] [] I J
  unfold wp_J7_fill_d0a16 at h
  refine j_iconst (pc := 0) (v := 0) C dJ7_fill_d0a16_0 (by decide) ?_
  refine j_istore_n (pc := 1) (lv' := [(3, .int (0 : Int32)), (0, .ref (V.2.1 k)), (1, .long a1)]) C dJ7_fill_d0a16_1 rfl (by decide) rfl ?_
  refine j_aload_n (pc := 2) C dJ7_fill_d0a16_2 rfl 1 rfl ?_
  refine j_alen (pc := 3) (v := Int32.ofNat len) C k hk hkd (by decide) rfl dJ7_fill_d0a16_3 ?_
  refine gJ.topi (fun n1 en1 => ?_)
  have h := h n1 en1
  refine j_istore (pc := 4) (lv' := [(4, .int n1), (3, .int (0 : Int32)), (0, .ref (V.2.1 k)), (1, .long a1)]) C dJ7_fill_d0a16_4 (by decide) rfl ?_
  refine gJ.sub [2, 3, 1, 0] rfl ?_
  exact t_J7_fill_d0a16_6 hk hkd C hX hR   h
/-! java/lang/Integer.compare(II)I -/
abbrev rm_J6_compare_7cf53 : Room := { frames := 0, cells := 0, slots := 0, locals := 0 }
theorem ok_J6_compare_7cf53 : gOk yJ6_compare_7cf53 cJ6_compare_7cf53 2 (some .int) 2 := ⟨wd_936, wd_80, by decide +kernel⟩
def wp_J6_compare_7cf53 (a0 : Int32) (a1 : Int32) (Po : Int32 → Prop) : Prop :=
  (a1 ≤ a0 → (¬ a0 = a1 → Po (1 : Int32)) ∧ (a0 = a1 → Po (0 : Int32))) ∧ (¬ a1 ≤ a0 → Po (-1 : Int32))
set_option maxRecDepth 100000 in
set_option maxHeartbeats 4000000 in
theorem m_J6_compare_7cf53 {l : Launch} {D : va_G} {cy : Nat → ClassId} {V : gV} {a0 : Int32} {a1 : Int32} {I : gI} {J : gL} {Po : Int32 → Prop} (h : wp_J6_compare_7cf53 a0 a1 Po) : gMet l D cy yJ6_compare_7cf53 cJ6_compare_7cf53 2 (some .int) rm_J6_compare_7cf53 V [.int a0, .int a1] I J (gPi V (fun x I' J' => I = I' ∧ J = J' ∧ Po x)) := by
  refine gMet.of (by decide) (Nat.le_of_ble_eq_true rfl) (fun X hX C hR => ?_)
  have C : gC X cJ6_compare_7cf53 RJ6 (some .int) 2 rm_J6_compare_7cf53 := C
  show gJ X V 0 0 0 [(0, .int a0), (1, .int a1)] [] I J
  unfold wp_J6_compare_7cf53 at h
  refine j_iload_n (pc := 0) C dJ6_compare_7cf53_0 rfl 0 rfl ?_
  refine j_iload_n (pc := 1) C dJ6_compare_7cf53_1 rfl 1 rfl ?_
  refine j_icmp_ge (pc := 2) (tgt := 9) C dJ6_compare_7cf53_2 (by decide) (fun c1 => ?_) (fun c1 => ?_)
  · have h := h.1 c1
    refine j_iload_n (pc := 9) C dJ6_compare_7cf53_9 rfl 0 rfl ?_
    refine j_iload_n (pc := 10) C dJ6_compare_7cf53_10 rfl 1 rfl ?_
    refine j_icmp_ne (pc := 11) (tgt := 18) C dJ6_compare_7cf53_11 (by decide) (fun c2 => ?_) (fun c2 => ?_)
    · have h := h.1 c2
      refine j_iconst (pc := 18) (v := 1) C dJ6_compare_7cf53_18 (by decide) ?_
      exact j_iret (pc := 19) C hR (Nat.zero_le _) (Nat.zero_le _) dJ6_compare_7cf53_19 ⟨_, rfl, rfl, rfl, rfl, h⟩
    · have h := h.2 c2
      refine j_iconst (pc := 14) (v := 0) C dJ6_compare_7cf53_14 (by decide) ?_
      refine j_goto (pc := 15) (tgt := 19) C dJ6_compare_7cf53_15 (by decide) ?_
      exact j_iret (pc := 19) C hR (Nat.zero_le _) (Nat.zero_le _) dJ6_compare_7cf53_19 ⟨_, rfl, rfl, rfl, rfl, h⟩
  · have h := h.2 c1
    refine j_iconst (pc := 5) (v := (-1)) C dJ6_compare_7cf53_5 (by decide) ?_
    refine j_goto (pc := 6) (tgt := 19) C dJ6_compare_7cf53_6 (by decide) ?_
    exact j_iret (pc := 19) C hR (Nat.zero_le _) (Nat.zero_le _) dJ6_compare_7cf53_19 ⟨_, rfl, rfl, rfl, rfl, h⟩
/-! java/lang/Integer.numberOfTrailingZeros(I)I -/
abbrev rm_J6_numberOfTrailingZeros_0f7a4 : Room := { frames := 0, cells := 0, slots := 0, locals := 0 }
theorem ok_J6_numberOfTrailingZeros_0f7a4 : gOk yJ6_numberOfTrailingZeros_0f7a4 cJ6_numberOfTrailingZeros_0f7a4 2 (some .int) 1 := ⟨wd_596, wd_80, by decide +kernel⟩
def w_J6_numberOfTrailingZeros_0f7a4_74  (Po : Int32 → Prop)  (v0 : Int32) (v1 : Int32) : Prop :=
  Po (v1 + ((v0).toUInt32 >>> (((1 : Int32)).toUInt32 &&& Int32.toUInt32 31)).toInt32)
def w_J6_numberOfTrailingZeros_0f7a4_62  (Po : Int32 → Prop)  (v0 : Int32) (v1 : Int32) : Prop :=
  (v0 ≤ (4 : Int32) → w_J6_numberOfTrailingZeros_0f7a4_74 Po v0 v1) ∧ (¬ v0 ≤ (4 : Int32) → ∀ n7 : Int32, n7 = v1 + 2 → ∀ n8 : Int32, n8 = ((v0).toUInt32 >>> (((2 : Int32)).toUInt32 &&& Int32.toUInt32 31)).toInt32 → w_J6_numberOfTrailingZeros_0f7a4_74 Po n8 n7)
def w_J6_numberOfTrailingZeros_0f7a4_49  (Po : Int32 → Prop)  (v0 : Int32) (v1 : Int32) : Prop :=
  (v0 ≤ (16 : Int32) → w_J6_numberOfTrailingZeros_0f7a4_62 Po v0 v1) ∧ (¬ v0 ≤ (16 : Int32) → ∀ n9 : Int32, n9 = v1 + 4 → ∀ n10 : Int32, n10 = ((v0).toUInt32 >>> (((4 : Int32)).toUInt32 &&& Int32.toUInt32 31)).toInt32 → w_J6_numberOfTrailingZeros_0f7a4_62 Po n10 n9)
def w_J6_numberOfTrailingZeros_0f7a4_34  (Po : Int32 → Prop)  (v0 : Int32) (v1 : Int32) : Prop :=
  (v0 ≤ (256 : Int32) → w_J6_numberOfTrailingZeros_0f7a4_49 Po v0 v1) ∧ (¬ v0 ≤ (256 : Int32) → ∀ n11 : Int32, n11 = v1 + 8 → ∀ n12 : Int32, n12 = ((v0).toUInt32 >>> (((8 : Int32)).toUInt32 &&& Int32.toUInt32 31)).toInt32 → w_J6_numberOfTrailingZeros_0f7a4_49 Po n12 n11)
def wp_J6_numberOfTrailingZeros_0f7a4 (a0 : Int32) (Po : Int32 → Prop) : Prop :=
  ∀ n1 : Int32, n1 = ((a0 ^^^ (-1 : Int32)) &&& (a0 - (1 : Int32))) → (0 < n1 → (n1 ≤ (65536 : Int32) → w_J6_numberOfTrailingZeros_0f7a4_34 Po n1 (1 : Int32)) ∧ (¬ n1 ≤ (65536 : Int32) → ∀ n13 : Int32, n13 = (1 : Int32) + 16 → ∀ n14 : Int32, n14 = ((n1).toUInt32 >>> (((16 : Int32)).toUInt32 &&& Int32.toUInt32 31)).toInt32 → w_J6_numberOfTrailingZeros_0f7a4_34 Po n14 n13)) ∧ (¬ 0 < n1 → Po (n1 &&& (32 : Int32)))
set_option maxRecDepth 100000 in
set_option maxHeartbeats 4000000 in
theorem t_J6_numberOfTrailingZeros_0f7a4_74 {X : gX} {l : Launch} {D : va_G} {cy : Nat → ClassId} {nm : String} {V : gV} (C : gC X cJ6_numberOfTrailingZeros_0f7a4 RJ6 (some .int) 2 rm_J6_numberOfTrailingZeros_0f7a4) (hX : gIs X l D cy nm) {I : gI} {J : gL} {Po : Int32 → Prop} (hR : gR X (gPi V (fun x I' J' => I = I' ∧ J = J' ∧ Po x))) {v0 : Int32} {v1 : Int32} (h : w_J6_numberOfTrailingZeros_0f7a4_74 Po v0 v1) : gJ X V 0 0 74 [(0, .int v0), (1, .int v1)] [] I J := by
  unfold w_J6_numberOfTrailingZeros_0f7a4_74 at h
  refine j_iload_n (pc := 74) C dJ6_numberOfTrailingZeros_0f7a4_74 rfl 1 rfl ?_
  refine j_iload_n (pc := 75) C dJ6_numberOfTrailingZeros_0f7a4_75 rfl 0 rfl ?_
  refine j_iconst (pc := 76) (v := 1) C dJ6_numberOfTrailingZeros_0f7a4_76 (by decide) ?_
  refine j_iushr (pc := 77) C dJ6_numberOfTrailingZeros_0f7a4_77 ?_
  refine j_iadd (pc := 78) C dJ6_numberOfTrailingZeros_0f7a4_78 ?_
  exact j_iret (pc := 79) C hR (Nat.zero_le _) (Nat.zero_le _) dJ6_numberOfTrailingZeros_0f7a4_79 ⟨_, rfl, rfl, rfl, rfl, h⟩
set_option maxRecDepth 100000 in
set_option maxHeartbeats 4000000 in
theorem t_J6_numberOfTrailingZeros_0f7a4_62 {X : gX} {l : Launch} {D : va_G} {cy : Nat → ClassId} {nm : String} {V : gV} (C : gC X cJ6_numberOfTrailingZeros_0f7a4 RJ6 (some .int) 2 rm_J6_numberOfTrailingZeros_0f7a4) (hX : gIs X l D cy nm) {I : gI} {J : gL} {Po : Int32 → Prop} (hR : gR X (gPi V (fun x I' J' => I = I' ∧ J = J' ∧ Po x))) {v0 : Int32} {v1 : Int32} (h : w_J6_numberOfTrailingZeros_0f7a4_62 Po v0 v1) : gJ X V 0 0 62 [(0, .int v0), (1, .int v1)] [] I J := by
  unfold w_J6_numberOfTrailingZeros_0f7a4_62 at h
  refine j_iload_n (pc := 62) C dJ6_numberOfTrailingZeros_0f7a4_62 rfl 0 rfl ?_
  refine j_iconst (pc := 63) (v := 4) C dJ6_numberOfTrailingZeros_0f7a4_63 (by decide) ?_
  refine j_icmp_le (pc := 64) (tgt := 74) C dJ6_numberOfTrailingZeros_0f7a4_64 (by decide) (fun c6 => ?_) (fun c6 => ?_)
  · have h := h.1 c6
    refine gJ.sub [0, 1] rfl ?_
    exact t_J6_numberOfTrailingZeros_0f7a4_74  C hX hR   h
  · have h := h.2 c6
    obtain ⟨n7, en7⟩ : ∃ z : Int32, z = v1 + 2 := ⟨_, rfl⟩
    have h := h n7 en7
    refine j_iinc (pc := 67) (v := n7) (lv' := [(1, .int n7), (0, .int v0)]) C dJ6_numberOfTrailingZeros_0f7a4_67 1 rfl (by rw [en7]; rfl) (by decide) rfl ?_
    refine j_iload_n (pc := 70) C dJ6_numberOfTrailingZeros_0f7a4_70 rfl 1 rfl ?_
    refine j_iconst (pc := 71) (v := 2) C dJ6_numberOfTrailingZeros_0f7a4_71 (by decide) ?_
    refine j_iushr (pc := 72) C dJ6_numberOfTrailingZeros_0f7a4_72 ?_
    refine gJ.topi (fun n8 en8 => ?_)
    have h := h n8 en8
    refine j_istore_n (pc := 73) (lv' := [(0, .int n8), (1, .int n7)]) C dJ6_numberOfTrailingZeros_0f7a4_73 rfl (by decide) rfl ?_
    refine gJ.sub [0, 1] rfl ?_
    exact t_J6_numberOfTrailingZeros_0f7a4_74  C hX hR   h
set_option maxRecDepth 100000 in
set_option maxHeartbeats 4000000 in
theorem t_J6_numberOfTrailingZeros_0f7a4_49 {X : gX} {l : Launch} {D : va_G} {cy : Nat → ClassId} {nm : String} {V : gV} (C : gC X cJ6_numberOfTrailingZeros_0f7a4 RJ6 (some .int) 2 rm_J6_numberOfTrailingZeros_0f7a4) (hX : gIs X l D cy nm) {I : gI} {J : gL} {Po : Int32 → Prop} (hR : gR X (gPi V (fun x I' J' => I = I' ∧ J = J' ∧ Po x))) {v0 : Int32} {v1 : Int32} (h : w_J6_numberOfTrailingZeros_0f7a4_49 Po v0 v1) : gJ X V 0 0 49 [(0, .int v0), (1, .int v1)] [] I J := by
  unfold w_J6_numberOfTrailingZeros_0f7a4_49 at h
  refine j_iload_n (pc := 49) C dJ6_numberOfTrailingZeros_0f7a4_49 rfl 0 rfl ?_
  refine j_bipush (pc := 50) (v := 16) C dJ6_numberOfTrailingZeros_0f7a4_50 (by decide) ?_
  refine j_icmp_le (pc := 52) (tgt := 62) C dJ6_numberOfTrailingZeros_0f7a4_52 (by decide) (fun c5 => ?_) (fun c5 => ?_)
  · have h := h.1 c5
    refine gJ.sub [0, 1] rfl ?_
    exact t_J6_numberOfTrailingZeros_0f7a4_62  C hX hR   h
  · have h := h.2 c5
    obtain ⟨n9, en9⟩ : ∃ z : Int32, z = v1 + 4 := ⟨_, rfl⟩
    have h := h n9 en9
    refine j_iinc (pc := 55) (v := n9) (lv' := [(1, .int n9), (0, .int v0)]) C dJ6_numberOfTrailingZeros_0f7a4_55 1 rfl (by rw [en9]; rfl) (by decide) rfl ?_
    refine j_iload_n (pc := 58) C dJ6_numberOfTrailingZeros_0f7a4_58 rfl 1 rfl ?_
    refine j_iconst (pc := 59) (v := 4) C dJ6_numberOfTrailingZeros_0f7a4_59 (by decide) ?_
    refine j_iushr (pc := 60) C dJ6_numberOfTrailingZeros_0f7a4_60 ?_
    refine gJ.topi (fun n10 en10 => ?_)
    have h := h n10 en10
    refine j_istore_n (pc := 61) (lv' := [(0, .int n10), (1, .int n9)]) C dJ6_numberOfTrailingZeros_0f7a4_61 rfl (by decide) rfl ?_
    refine gJ.sub [0, 1] rfl ?_
    exact t_J6_numberOfTrailingZeros_0f7a4_62  C hX hR   h
set_option maxRecDepth 100000 in
set_option maxHeartbeats 4000000 in
theorem t_J6_numberOfTrailingZeros_0f7a4_34 {X : gX} {l : Launch} {D : va_G} {cy : Nat → ClassId} {nm : String} {V : gV} (C : gC X cJ6_numberOfTrailingZeros_0f7a4 RJ6 (some .int) 2 rm_J6_numberOfTrailingZeros_0f7a4) (hX : gIs X l D cy nm) {I : gI} {J : gL} {Po : Int32 → Prop} (hR : gR X (gPi V (fun x I' J' => I = I' ∧ J = J' ∧ Po x))) {v0 : Int32} {v1 : Int32} (h : w_J6_numberOfTrailingZeros_0f7a4_34 Po v0 v1) : gJ X V 0 0 34 [(0, .int v0), (1, .int v1)] [] I J := by
  unfold w_J6_numberOfTrailingZeros_0f7a4_34 at h
  refine j_iload_n (pc := 34) C dJ6_numberOfTrailingZeros_0f7a4_34 rfl 0 rfl ?_
  refine j_sipush (pc := 35) (v := 256) C dJ6_numberOfTrailingZeros_0f7a4_35 (by decide) ?_
  refine j_icmp_le (pc := 38) (tgt := 49) C dJ6_numberOfTrailingZeros_0f7a4_38 (by decide) (fun c4 => ?_) (fun c4 => ?_)
  · have h := h.1 c4
    refine gJ.sub [0, 1] rfl ?_
    exact t_J6_numberOfTrailingZeros_0f7a4_49  C hX hR   h
  · have h := h.2 c4
    obtain ⟨n11, en11⟩ : ∃ z : Int32, z = v1 + 8 := ⟨_, rfl⟩
    have h := h n11 en11
    refine j_iinc (pc := 41) (v := n11) (lv' := [(1, .int n11), (0, .int v0)]) C dJ6_numberOfTrailingZeros_0f7a4_41 1 rfl (by rw [en11]; rfl) (by decide) rfl ?_
    refine j_iload_n (pc := 44) C dJ6_numberOfTrailingZeros_0f7a4_44 rfl 1 rfl ?_
    refine j_bipush (pc := 45) (v := 8) C dJ6_numberOfTrailingZeros_0f7a4_45 (by decide) ?_
    refine j_iushr (pc := 47) C dJ6_numberOfTrailingZeros_0f7a4_47 ?_
    refine gJ.topi (fun n12 en12 => ?_)
    have h := h n12 en12
    refine j_istore_n (pc := 48) (lv' := [(0, .int n12), (1, .int n11)]) C dJ6_numberOfTrailingZeros_0f7a4_48 rfl (by decide) rfl ?_
    refine gJ.sub [0, 1] rfl ?_
    exact t_J6_numberOfTrailingZeros_0f7a4_49  C hX hR   h
set_option maxRecDepth 100000 in
set_option maxHeartbeats 4000000 in
theorem m_J6_numberOfTrailingZeros_0f7a4 {l : Launch} {D : va_G} {cy : Nat → ClassId} {V : gV} {a0 : Int32} {I : gI} {J : gL} {Po : Int32 → Prop} (h : wp_J6_numberOfTrailingZeros_0f7a4 a0 Po) : gMet l D cy yJ6_numberOfTrailingZeros_0f7a4 cJ6_numberOfTrailingZeros_0f7a4 2 (some .int) rm_J6_numberOfTrailingZeros_0f7a4 V [.int a0] I J (gPi V (fun x I' J' => I = I' ∧ J = J' ∧ Po x)) := by
  refine gMet.of (by decide) (Nat.le_of_ble_eq_true rfl) (fun X hX C hR => ?_)
  have C : gC X cJ6_numberOfTrailingZeros_0f7a4 RJ6 (some .int) 2 rm_J6_numberOfTrailingZeros_0f7a4 := C
  show gJ X V 0 0 0 [(0, .int a0)] [] I J
  unfold wp_J6_numberOfTrailingZeros_0f7a4 at h
  refine j_iload_n (pc := 0) C dJ6_numberOfTrailingZeros_0f7a4_0 rfl 0 rfl ?_
  refine j_iconst (pc := 1) (v := (-1)) C dJ6_numberOfTrailingZeros_0f7a4_1 (by decide) ?_
  refine j_ixor (pc := 2) C dJ6_numberOfTrailingZeros_0f7a4_2 ?_
  refine j_iload_n (pc := 3) C dJ6_numberOfTrailingZeros_0f7a4_3 rfl 0 rfl ?_
  refine j_iconst (pc := 4) (v := 1) C dJ6_numberOfTrailingZeros_0f7a4_4 (by decide) ?_
  refine j_isub (pc := 5) C dJ6_numberOfTrailingZeros_0f7a4_5 ?_
  refine j_iand (pc := 6) C dJ6_numberOfTrailingZeros_0f7a4_6 ?_
  refine gJ.topi (fun n1 en1 => ?_)
  have h := h n1 en1
  refine j_istore_n (pc := 7) (lv' := [(0, .int n1)]) C dJ6_numberOfTrailingZeros_0f7a4_7 rfl (by decide) rfl ?_
  refine j_iload_n (pc := 8) C dJ6_numberOfTrailingZeros_0f7a4_8 rfl 0 rfl ?_
  refine j_if_gt (pc := 9) (tgt := 17) C dJ6_numberOfTrailingZeros_0f7a4_9 (by decide) (fun c2 => ?_) (fun c2 => ?_)
  · have h := h.1 c2
    refine j_iconst (pc := 17) (v := 1) C dJ6_numberOfTrailingZeros_0f7a4_17 (by decide) ?_
    refine j_istore_n (pc := 18) (lv' := [(1, .int (1 : Int32)), (0, .int n1)]) C dJ6_numberOfTrailingZeros_0f7a4_18 rfl (by decide) rfl ?_
    refine j_iload_n (pc := 19) C dJ6_numberOfTrailingZeros_0f7a4_19 rfl 1 rfl ?_
    refine j_ldcw (pc := 20) (v := 65536) C dJ6_numberOfTrailingZeros_0f7a4_20 wd_597 ?_
    refine j_icmp_le (pc := 23) (tgt := 34) C dJ6_numberOfTrailingZeros_0f7a4_23 (by decide) (fun c3 => ?_) (fun c3 => ?_)
    · have h := h.1 c3
      refine gJ.sub [1, 0] rfl ?_
      exact t_J6_numberOfTrailingZeros_0f7a4_34  C hX hR   h
    · have h := h.2 c3
      obtain ⟨n13, en13⟩ : ∃ z : Int32, z = (1 : Int32) + 16 := ⟨_, rfl⟩
      have h := h n13 en13
      refine j_iinc (pc := 26) (v := n13) (lv' := [(1, .int n13), (0, .int n1)]) C dJ6_numberOfTrailingZeros_0f7a4_26 0 rfl (by rw [en13]; rfl) (by decide) rfl ?_
      refine j_iload_n (pc := 29) C dJ6_numberOfTrailingZeros_0f7a4_29 rfl 1 rfl ?_
      refine j_bipush (pc := 30) (v := 16) C dJ6_numberOfTrailingZeros_0f7a4_30 (by decide) ?_
      refine j_iushr (pc := 32) C dJ6_numberOfTrailingZeros_0f7a4_32 ?_
      refine gJ.topi (fun n14 en14 => ?_)
      have h := h n14 en14
      refine j_istore_n (pc := 33) (lv' := [(0, .int n14), (1, .int n13)]) C dJ6_numberOfTrailingZeros_0f7a4_33 rfl (by decide) rfl ?_
      refine gJ.sub [0, 1] rfl ?_
      exact t_J6_numberOfTrailingZeros_0f7a4_34  C hX hR   h
  · have h := h.2 c2
    refine j_iload_n (pc := 12) C dJ6_numberOfTrailingZeros_0f7a4_12 rfl 0 rfl ?_
    refine j_bipush (pc := 13) (v := 32) C dJ6_numberOfTrailingZeros_0f7a4_13 (by decide) ?_
    refine j_iand (pc := 15) C dJ6_numberOfTrailingZeros_0f7a4_15 ?_
    exact j_iret (pc := 16) C hR (Nat.zero_le _) (Nat.zero_le _) dJ6_numberOfTrailingZeros_0f7a4_16 ⟨_, rfl, rfl, rfl, rfl, h⟩
/-! java/lang/Integer.bitCount(I)I -/
abbrev rm_J6_bitCount_0f7a4 : Room := { frames := 0, cells := 0, slots := 0, locals := 0 }
theorem ok_J6_bitCount_0f7a4 : gOk yJ6_bitCount_0f7a4 cJ6_bitCount_0f7a4 1 (some .int) 1 := ⟨wd_516, wd_80, by decide +kernel⟩
def wp_J6_bitCount_0f7a4 (a0 : Int32) (Po : Int32 → Prop) : Prop :=
  ∀ n1 : Int32, n1 = (a0 - (((a0).toUInt32 >>> (((1 : Int32)).toUInt32 &&& Int32.toUInt32 31)).toInt32 &&& (1431655765 : Int32))) → ∀ n2 : Int32, n2 = ((n1 &&& (858993459 : Int32)) + (((n1).toUInt32 >>> (((2 : Int32)).toUInt32 &&& Int32.toUInt32 31)).toInt32 &&& (858993459 : Int32))) → ∀ n3 : Int32, n3 = ((n2 + ((n2).toUInt32 >>> (((4 : Int32)).toUInt32 &&& Int32.toUInt32 31)).toInt32) &&& (252645135 : Int32)) → ∀ n4 : Int32, n4 = (n3 + ((n3).toUInt32 >>> (((8 : Int32)).toUInt32 &&& Int32.toUInt32 31)).toInt32) → ∀ n5 : Int32, n5 = (n4 + ((n4).toUInt32 >>> (((16 : Int32)).toUInt32 &&& Int32.toUInt32 31)).toInt32) → Po (n5 &&& (63 : Int32))
set_option maxRecDepth 100000 in
set_option maxHeartbeats 4000000 in
theorem m_J6_bitCount_0f7a4 {l : Launch} {D : va_G} {cy : Nat → ClassId} {V : gV} {a0 : Int32} {I : gI} {J : gL} {Po : Int32 → Prop} (h : wp_J6_bitCount_0f7a4 a0 Po) : gMet l D cy yJ6_bitCount_0f7a4 cJ6_bitCount_0f7a4 1 (some .int) rm_J6_bitCount_0f7a4 V [.int a0] I J (gPi V (fun x I' J' => I = I' ∧ J = J' ∧ Po x)) := by
  refine gMet.of (by decide) (Nat.le_of_ble_eq_true rfl) (fun X hX C hR => ?_)
  have C : gC X cJ6_bitCount_0f7a4 RJ6 (some .int) 1 rm_J6_bitCount_0f7a4 := C
  show gJ X V 0 0 0 [(0, .int a0)] [] I J
  unfold wp_J6_bitCount_0f7a4 at h
  refine j_iload_n (pc := 0) C dJ6_bitCount_0f7a4_0 rfl 0 rfl ?_
  refine j_iload_n (pc := 1) C dJ6_bitCount_0f7a4_1 rfl 0 rfl ?_
  refine j_iconst (pc := 2) (v := 1) C dJ6_bitCount_0f7a4_2 (by decide) ?_
  refine j_iushr (pc := 3) C dJ6_bitCount_0f7a4_3 ?_
  refine j_ldcw (pc := 4) (v := 1431655765) C dJ6_bitCount_0f7a4_4 wd_517 ?_
  refine j_iand (pc := 7) C dJ6_bitCount_0f7a4_7 ?_
  refine j_isub (pc := 8) C dJ6_bitCount_0f7a4_8 ?_
  refine gJ.topi (fun n1 en1 => ?_)
  have h := h n1 en1
  refine j_istore_n (pc := 9) (lv' := [(0, .int n1)]) C dJ6_bitCount_0f7a4_9 rfl (by decide) rfl ?_
  refine j_iload_n (pc := 10) C dJ6_bitCount_0f7a4_10 rfl 0 rfl ?_
  refine j_ldcw (pc := 11) (v := 858993459) C dJ6_bitCount_0f7a4_11 wd_518 ?_
  refine j_iand (pc := 14) C dJ6_bitCount_0f7a4_14 ?_
  refine j_iload_n (pc := 15) C dJ6_bitCount_0f7a4_15 rfl 0 rfl ?_
  refine j_iconst (pc := 16) (v := 2) C dJ6_bitCount_0f7a4_16 (by decide) ?_
  refine j_iushr (pc := 17) C dJ6_bitCount_0f7a4_17 ?_
  refine j_ldcw (pc := 18) (v := 858993459) C dJ6_bitCount_0f7a4_18 wd_518 ?_
  refine j_iand (pc := 21) C dJ6_bitCount_0f7a4_21 ?_
  refine j_iadd (pc := 22) C dJ6_bitCount_0f7a4_22 ?_
  refine gJ.topi (fun n2 en2 => ?_)
  have h := h n2 en2
  refine j_istore_n (pc := 23) (lv' := [(0, .int n2)]) C dJ6_bitCount_0f7a4_23 rfl (by decide) rfl ?_
  refine j_iload_n (pc := 24) C dJ6_bitCount_0f7a4_24 rfl 0 rfl ?_
  refine j_iload_n (pc := 25) C dJ6_bitCount_0f7a4_25 rfl 0 rfl ?_
  refine j_iconst (pc := 26) (v := 4) C dJ6_bitCount_0f7a4_26 (by decide) ?_
  refine j_iushr (pc := 27) C dJ6_bitCount_0f7a4_27 ?_
  refine j_iadd (pc := 28) C dJ6_bitCount_0f7a4_28 ?_
  refine j_ldcw (pc := 29) (v := 252645135) C dJ6_bitCount_0f7a4_29 wd_519 ?_
  refine j_iand (pc := 32) C dJ6_bitCount_0f7a4_32 ?_
  refine gJ.topi (fun n3 en3 => ?_)
  have h := h n3 en3
  refine j_istore_n (pc := 33) (lv' := [(0, .int n3)]) C dJ6_bitCount_0f7a4_33 rfl (by decide) rfl ?_
  refine j_iload_n (pc := 34) C dJ6_bitCount_0f7a4_34 rfl 0 rfl ?_
  refine j_iload_n (pc := 35) C dJ6_bitCount_0f7a4_35 rfl 0 rfl ?_
  refine j_bipush (pc := 36) (v := 8) C dJ6_bitCount_0f7a4_36 (by decide) ?_
  refine j_iushr (pc := 38) C dJ6_bitCount_0f7a4_38 ?_
  refine j_iadd (pc := 39) C dJ6_bitCount_0f7a4_39 ?_
  refine gJ.topi (fun n4 en4 => ?_)
  have h := h n4 en4
  refine j_istore_n (pc := 40) (lv' := [(0, .int n4)]) C dJ6_bitCount_0f7a4_40 rfl (by decide) rfl ?_
  refine j_iload_n (pc := 41) C dJ6_bitCount_0f7a4_41 rfl 0 rfl ?_
  refine j_iload_n (pc := 42) C dJ6_bitCount_0f7a4_42 rfl 0 rfl ?_
  refine j_bipush (pc := 43) (v := 16) C dJ6_bitCount_0f7a4_43 (by decide) ?_
  refine j_iushr (pc := 45) C dJ6_bitCount_0f7a4_45 ?_
  refine j_iadd (pc := 46) C dJ6_bitCount_0f7a4_46 ?_
  refine gJ.topi (fun n5 en5 => ?_)
  have h := h n5 en5
  refine j_istore_n (pc := 47) (lv' := [(0, .int n5)]) C dJ6_bitCount_0f7a4_47 rfl (by decide) rfl ?_
  refine j_iload_n (pc := 48) C dJ6_bitCount_0f7a4_48 rfl 0 rfl ?_
  refine j_bipush (pc := 49) (v := 63) C dJ6_bitCount_0f7a4_49 (by decide) ?_
  refine j_iand (pc := 51) C dJ6_bitCount_0f7a4_51 ?_
  exact j_iret (pc := 52) C hR (Nat.zero_le _) (Nat.zero_le _) dJ6_bitCount_0f7a4_52 ⟨_, rfl, rfl, rfl, rfl, h⟩
/-! java/lang/Long.bitCount(J)I -/
abbrev rm_J13_bitCount_95d88 : Room := { frames := 0, cells := 0, slots := 0, locals := 0 }
theorem ok_J13_bitCount_95d88 : gOk yJ13_bitCount_95d88 cJ13_bitCount_95d88 2 (some .int) 1 := ⟨wd_878, wd_84, by decide +kernel⟩
def wp_J13_bitCount_95d88 (a0 : Int64) (Po : Int32 → Prop) : Prop :=
  ∀ n1 : Int64, n1 = (a0 - (((a0).toUInt64 >>> (((1 : Int32)).toInt64.toUInt64 &&& Int64.toUInt64 63)).toInt64 &&& (6148914691236517205 : Int64))) → ∀ n2 : Int64, n2 = ((n1 &&& (3689348814741910323 : Int64)) + (((n1).toUInt64 >>> (((2 : Int32)).toInt64.toUInt64 &&& Int64.toUInt64 63)).toInt64 &&& (3689348814741910323 : Int64))) → ∀ n3 : Int64, n3 = ((n2 + ((n2).toUInt64 >>> (((4 : Int32)).toInt64.toUInt64 &&& Int64.toUInt64 63)).toInt64) &&& (1085102592571150095 : Int64)) → ∀ n4 : Int64, n4 = (n3 + ((n3).toUInt64 >>> (((8 : Int32)).toInt64.toUInt64 &&& Int64.toUInt64 63)).toInt64) → ∀ n5 : Int64, n5 = (n4 + ((n4).toUInt64 >>> (((16 : Int32)).toInt64.toUInt64 &&& Int64.toUInt64 63)).toInt64) → ∀ n6 : Int64, n6 = (n5 + ((n5).toUInt64 >>> (((32 : Int32)).toInt64.toUInt64 &&& Int64.toUInt64 63)).toInt64) → Po ((n6).toInt32 &&& (127 : Int32))
set_option maxRecDepth 100000 in
set_option maxHeartbeats 4000000 in
theorem m_J13_bitCount_95d88 {l : Launch} {D : va_G} {cy : Nat → ClassId} {V : gV} {a0 : Int64} {I : gI} {J : gL} {Po : Int32 → Prop} (h : wp_J13_bitCount_95d88 a0 Po) : gMet l D cy yJ13_bitCount_95d88 cJ13_bitCount_95d88 2 (some .int) rm_J13_bitCount_95d88 V [.long a0] I J (gPi V (fun x I' J' => I = I' ∧ J = J' ∧ Po x)) := by
  refine gMet.of (by decide) (Nat.le_of_ble_eq_true rfl) (fun X hX C hR => ?_)
  have C : gC X cJ13_bitCount_95d88 RJ13 (some .int) 2 rm_J13_bitCount_95d88 := C
  show gJ X V 0 0 0 [(0, .long a0)] [] I J
  unfold wp_J13_bitCount_95d88 at h
  refine j_lload_n (pc := 0) C dJ13_bitCount_95d88_0 rfl 0 rfl ?_
  refine j_lload_n (pc := 1) C dJ13_bitCount_95d88_1 rfl 0 rfl ?_
  refine j_iconst (pc := 2) (v := 1) C dJ13_bitCount_95d88_2 (by decide) ?_
  refine j_lushr (pc := 3) C dJ13_bitCount_95d88_3 ?_
  refine j_ldc2 (pc := 4) (v := 6148914691236517205) C dJ13_bitCount_95d88_4 wd_879 ?_
  refine j_land (pc := 7) C dJ13_bitCount_95d88_7 ?_
  refine j_lsub (pc := 8) C dJ13_bitCount_95d88_8 ?_
  refine gJ.topl (fun n1 en1 => ?_)
  have h := h n1 en1
  refine j_lstore_n (pc := 9) (lv' := [(0, .long n1)]) C dJ13_bitCount_95d88_9 rfl (by decide) rfl ?_
  refine j_lload_n (pc := 10) C dJ13_bitCount_95d88_10 rfl 0 rfl ?_
  refine j_ldc2 (pc := 11) (v := 3689348814741910323) C dJ13_bitCount_95d88_11 wd_880 ?_
  refine j_land (pc := 14) C dJ13_bitCount_95d88_14 ?_
  refine j_lload_n (pc := 15) C dJ13_bitCount_95d88_15 rfl 0 rfl ?_
  refine j_iconst (pc := 16) (v := 2) C dJ13_bitCount_95d88_16 (by decide) ?_
  refine j_lushr (pc := 17) C dJ13_bitCount_95d88_17 ?_
  refine j_ldc2 (pc := 18) (v := 3689348814741910323) C dJ13_bitCount_95d88_18 wd_880 ?_
  refine j_land (pc := 21) C dJ13_bitCount_95d88_21 ?_
  refine j_ladd (pc := 22) C dJ13_bitCount_95d88_22 ?_
  refine gJ.topl (fun n2 en2 => ?_)
  have h := h n2 en2
  refine j_lstore_n (pc := 23) (lv' := [(0, .long n2)]) C dJ13_bitCount_95d88_23 rfl (by decide) rfl ?_
  refine j_lload_n (pc := 24) C dJ13_bitCount_95d88_24 rfl 0 rfl ?_
  refine j_lload_n (pc := 25) C dJ13_bitCount_95d88_25 rfl 0 rfl ?_
  refine j_iconst (pc := 26) (v := 4) C dJ13_bitCount_95d88_26 (by decide) ?_
  refine j_lushr (pc := 27) C dJ13_bitCount_95d88_27 ?_
  refine j_ladd (pc := 28) C dJ13_bitCount_95d88_28 ?_
  refine j_ldc2 (pc := 29) (v := 1085102592571150095) C dJ13_bitCount_95d88_29 wd_881 ?_
  refine j_land (pc := 32) C dJ13_bitCount_95d88_32 ?_
  refine gJ.topl (fun n3 en3 => ?_)
  have h := h n3 en3
  refine j_lstore_n (pc := 33) (lv' := [(0, .long n3)]) C dJ13_bitCount_95d88_33 rfl (by decide) rfl ?_
  refine j_lload_n (pc := 34) C dJ13_bitCount_95d88_34 rfl 0 rfl ?_
  refine j_lload_n (pc := 35) C dJ13_bitCount_95d88_35 rfl 0 rfl ?_
  refine j_bipush (pc := 36) (v := 8) C dJ13_bitCount_95d88_36 (by decide) ?_
  refine j_lushr (pc := 38) C dJ13_bitCount_95d88_38 ?_
  refine j_ladd (pc := 39) C dJ13_bitCount_95d88_39 ?_
  refine gJ.topl (fun n4 en4 => ?_)
  have h := h n4 en4
  refine j_lstore_n (pc := 40) (lv' := [(0, .long n4)]) C dJ13_bitCount_95d88_40 rfl (by decide) rfl ?_
  refine j_lload_n (pc := 41) C dJ13_bitCount_95d88_41 rfl 0 rfl ?_
  refine j_lload_n (pc := 42) C dJ13_bitCount_95d88_42 rfl 0 rfl ?_
  refine j_bipush (pc := 43) (v := 16) C dJ13_bitCount_95d88_43 (by decide) ?_
  refine j_lushr (pc := 45) C dJ13_bitCount_95d88_45 ?_
  refine j_ladd (pc := 46) C dJ13_bitCount_95d88_46 ?_
  refine gJ.topl (fun n5 en5 => ?_)
  have h := h n5 en5
  refine j_lstore_n (pc := 47) (lv' := [(0, .long n5)]) C dJ13_bitCount_95d88_47 rfl (by decide) rfl ?_
  refine j_lload_n (pc := 48) C dJ13_bitCount_95d88_48 rfl 0 rfl ?_
  refine j_lload_n (pc := 49) C dJ13_bitCount_95d88_49 rfl 0 rfl ?_
  refine j_bipush (pc := 50) (v := 32) C dJ13_bitCount_95d88_50 (by decide) ?_
  refine j_lushr (pc := 52) C dJ13_bitCount_95d88_52 ?_
  refine j_ladd (pc := 53) C dJ13_bitCount_95d88_53 ?_
  refine gJ.topl (fun n6 en6 => ?_)
  have h := h n6 en6
  refine j_lstore_n (pc := 54) (lv' := [(0, .long n6)]) C dJ13_bitCount_95d88_54 rfl (by decide) rfl ?_
  refine j_lload_n (pc := 55) C dJ13_bitCount_95d88_55 rfl 0 rfl ?_
  refine j_l2i (pc := 56) C dJ13_bitCount_95d88_56 ?_
  refine j_bipush (pc := 57) (v := 127) C dJ13_bitCount_95d88_57 (by decide) ?_
  refine j_iand (pc := 59) C dJ13_bitCount_95d88_59 ?_
  exact j_iret (pc := 60) C hR (Nat.zero_le _) (Nat.zero_le _) dJ13_bitCount_95d88_60 ⟨_, rfl, rfl, rfl, rfl, h⟩
/-! java/lang/Integer.lowestOneBit(I)I -/
abbrev rm_J6_lowestOneBit_0f7a4 : Room := { frames := 0, cells := 0, slots := 0, locals := 0 }
theorem ok_J6_lowestOneBit_0f7a4 : gOk yJ6_lowestOneBit_0f7a4 cJ6_lowestOneBit_0f7a4 1 (some .int) 1 := ⟨wd_525, wd_80, by decide +kernel⟩
def wp_J6_lowestOneBit_0f7a4 (a0 : Int32) (Po : Int32 → Prop) : Prop :=
  Po (a0 &&& (-a0))
set_option maxRecDepth 100000 in
set_option maxHeartbeats 4000000 in
theorem m_J6_lowestOneBit_0f7a4 {l : Launch} {D : va_G} {cy : Nat → ClassId} {V : gV} {a0 : Int32} {I : gI} {J : gL} {Po : Int32 → Prop} (h : wp_J6_lowestOneBit_0f7a4 a0 Po) : gMet l D cy yJ6_lowestOneBit_0f7a4 cJ6_lowestOneBit_0f7a4 1 (some .int) rm_J6_lowestOneBit_0f7a4 V [.int a0] I J (gPi V (fun x I' J' => I = I' ∧ J = J' ∧ Po x)) := by
  refine gMet.of (by decide) (Nat.le_of_ble_eq_true rfl) (fun X hX C hR => ?_)
  have C : gC X cJ6_lowestOneBit_0f7a4 RJ6 (some .int) 1 rm_J6_lowestOneBit_0f7a4 := C
  show gJ X V 0 0 0 [(0, .int a0)] [] I J
  unfold wp_J6_lowestOneBit_0f7a4 at h
  refine j_iload_n (pc := 0) C dJ6_lowestOneBit_0f7a4_0 rfl 0 rfl ?_
  refine j_iload_n (pc := 1) C dJ6_lowestOneBit_0f7a4_1 rfl 0 rfl ?_
  refine j_ineg (pc := 2) C dJ6_lowestOneBit_0f7a4_2 ?_
  refine j_iand (pc := 3) C dJ6_lowestOneBit_0f7a4_3 ?_
  exact j_iret (pc := 4) C hR (Nat.zero_le _) (Nat.zero_le _) dJ6_lowestOneBit_0f7a4_4 ⟨_, rfl, rfl, rfl, rfl, h⟩
