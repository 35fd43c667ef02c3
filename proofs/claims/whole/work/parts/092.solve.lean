/-! the class: solve, tryEach -/
def enc (l : List Nat) : Nat := if l = [] then 0 else l.length * 32 + mnx 31 l
def keyN (ver md u m : Nat) : Nat := (3 * ver + md) * 67108864 + u * 1048576 + m
theorem keyN_e (ver mode used m : Nat) : ((ver * 3 + mode) * 64 + used) * 1048576 + m = keyN ver mode used m := by
  unfold keyN
  rw [Nat.add_mul, Nat.mul_assoc, show 64 * 1048576 = 67108864 from rfl, Nat.mul_comm ver 3]
theorem lorAdd {a b : Nat} (i p : Nat) (hp : 2 ^ i = p) (hb : b < p) : (a * p) ||| b = a * p + b := by
  subst hp
  rw [Nat.mul_comm a, Nat.two_pow_add_eq_or_of_lt hb]
def tbO (ver k n : Nat) (EL : Nat → List (Nat × Nat)) (J : gL) : Prop := ∀ i, i < 16384 → ∃ key, key < (3 * ver + 3) * 67108864 ∧ J 95 i = lN key ∧ ∀ md u m, md < 3 → u < 64 → m < 1048576 → key = keyN ver md u m → m < 2 ^ k → u < 2 ^ n → (md = 1 → u = 0) → J 96 i = lN (enc (cv md k n EL m u))
theorem p7 : 7 ^ 20 < 2 ^ 57 := by decide
section
variable {n : Nat} {pc : Nat → Nat} {w h hs : Nat} {tu mr : Int32} {ver lv : Nat}
theorem enc_b {k : Nat} {sz : Nat → Nat} {L : Nat → Nat → List Nat} (hO : lOk k n sz L) (hk : k ≤ 20) (hn : n ≤ 6) {mode m used : Nat} (hm : m < 2 ^ k) : enc (cv mode k n (fun s => elP L s n) m used) < 2 ^ 63 ∧ enc (cv mode k n (fun s => elP L s n) m used) / 32 = (cv mode k n (fun s => elP L s n) m used).length ∧ (cv mode k n (fun s => elP L s n) m used ≠ [] → enc (cv mode k n (fun s => elP L s n) m used) % 32 = mnx 31 (cv mode k n (fun s => elP L s n) m used) ∧ mnx 31 (cv mode k n (fun s => elP L s n) m used) < 31) ∧ (enc (cv mode k n (fun s => elP L s n) m used) = 0 ↔ cv mode k n (fun s => elP L s n) m used = []) ∧ (cv mode k n (fun s => elP L s n) m used).length ≤ 7 ^ 20 := by
  have h1 := cv_len (mode := mode) hO hk hn (frN k m + 1) m used hm (by omega)
  have h2 : 7 ^ frN k m ≤ 7 ^ 20 := Nat.pow_le_pow_right (by decide) (by have := fr_le k m; omega)
  have h3 := p7
  have h4 := cv_le' (mode := mode) (used := used) (lOk_e hO) hk hm
  have h5 := fr_le k m
  generalize cv mode k n (fun s => elP L s n) m used = l at *
  unfold enc
  by_cases c : l = []
  · subst c
    rw [if_pos rfl]
    exact ⟨by decide, rfl, fun z => absurd rfl z, ⟨fun _ => rfl, fun _ => rfl⟩, by simp⟩
  · rw [if_neg c]
    have hl : 1 ≤ l.length := by
      rcases Nat.eq_zero_or_pos l.length with z | z
      · exact absurd (List.eq_nil_of_length_eq_zero z) c
      · exact z
    have hm := mnx_s (b := 31) (c := 31) c (fun d hd => by have := h4 d hd; omega)
    refine ⟨by omega, by omega, fun _ => ⟨by omega, hm.2.1⟩, ⟨fun z => by omega, fun z => absurd z c⟩, by omega⟩
theorem p_usedWith {I : gI} {mode used p : Nat} (h5 : I 94 5 = nI mode) (hmo : mode < 3) (hu : used < 2 ^ 31) (hp : p < 31) {Po : Int32 → Prop} (hk : Po (nI (uw mode used p))) : wp_X2_usedWith (nI used) (nI p) I Po := by
  unfold wp_X2_usedWith
  rw [h5, nI_pow p hp]
  have h2 : 2 ^ p < 2 ^ 31 := Nat.pow_lt_pow_right (by decide) hp
  rw [nI_or hu h2]
  unfold uw at hk
  refine ⟨fun q => ?_, fun q => ?_⟩
  · rw [if_neg (fun e => q (by rw [e]; rfl))] at hk; exact hk
  · rw [if_pos ((nI_eq (b := 1) (by omega) (by decide)).mp q)] at hk; exact hk
theorem uw_lt {mode used p : Nat} (hu : used < 2 ^ n) (hp : p < n) : uw mode used p < 2 ^ n := by
  unfold uw
  split
  · exact hu
  · exact or_lt hu (Nat.pow_lt_pow_right (by decide) hp)
/-- the tour round the entries of a cell -/
theorem p_tryEach {I : gI} {J : gL} (hR : RelP n pc w h hs tu mr ver lv I) {L : Nat → Nat → List Nat} (hL : Lst n pc w h hs tu mr L I) {mode : Nat} (hmo : mode < 3) (hX : ScX n (szP pc) (w * h) mode I) {m used depth : Nat} (hm : m < 2 ^ (w * h)) (hne : m ≠ 2 ^ (w * h) - 1) (hu : used < 2 ^ n) {TB : gL → Prop} (hT : TB J) {rc : Int32 → Int32 → Int32 → gI → gL → (Int64 → gL → Prop) → Prop}
    (hrc : ∀ e, e ∈ elP L (ffr m) n → fit m used e → ∀ J1, TB J1 → ∀ Q : Int64 → gL → Prop, (∀ J2, gJm [95, 96] J1 J2 → TB J2 → Q (lN (enc (cv mode (w * h) n (fun s => elP L s n) (m ||| e.2) (uw mode used e.1)))) J2) → rc (nI (m ||| e.2)) (nI (uw mode used e.1)) (nI (depth + 1)) I J1 Q) {Po : Int64 → gL → Prop}
    (hk : ∀ J', gJm [95, 96] J J' → TB J' → Po (lN (enc (cv mode (w * h) n (fun s => elP L s n) m used))) J') : wp_X2_tryEach rc (nI m) (nI used) (nI depth) I J Po := by
  have hwh := RelP_wh hR
  have hn := hR.1.1
  have hO := Lst_lOk hR hL
  have hE := lOk_e hO
  have hs := ffr_lt hm hne
  have hff := ffr_s m
  have h64 : 2 ^ n ≤ 2 ^ 6 := Nat.pow_le_pow_right (by decide) hn
  have eb := enc_b (mode := mode) (used := used) hO hwh.1 hn hm
  have hfull := cv_step (mode := mode) (used := used) hE hwh.1 hm hne
  unfold wp_X2_tryEach
  refine p_ntz (s := ffr m) (by omega) (by rw [b_notN (by omega) (by omega), hff.1]; rfl) (fun j hj => by rw [b_notN (by omega) (by omega), hff.2 j hj]; rfl) ?_
  unfold w_X2_tryEach_18
  refine gr4 (m0 := n) (fun K a b c J => w_X2_tryEach_18b rc Po K (nI m) (nI used) (nI depth) (nI (ffr m)) a b c I J) (fun r a b c J' => ∃ p, r + p = n ∧ c = nI p ∧ ∃ D, D = (elP L (ffr m) p).flatMap (cvE mode (w * h) n (fun s => elP L s n) m used) ∧ a = lN D.length ∧ b = nI (mnx 31 D) ∧ gJm [95, 96] J J' ∧ TB J') ⟨0, by omega, rfl, [], rfl, rfl, rfl, gJm_r J, hT⟩ ?_
  rintro r a b c J1 ⟨p, hrp, rfl, D, hD, rfl, rfl, g1, g2⟩ K kk
  have hle31 : ∀ l : List Nat, mnx 31 l ≤ 31 := fun l => by
    induction l with
    | nil => exact Nat.le_refl _
    | cons x l ih => show min x (mnx 31 l) ≤ 31; omega
  -- what the whole list is, from a part on
  have part : ∀ p', p' ≤ n → ∃ R, (elP L (ffr m) n).flatMap (cvE mode (w * h) n (fun s => elP L s n) m used) = (elP L (ffr m) p').flatMap (cvE mode (w * h) n (fun s => elP L s n) m used) ++ R := by
    intro p' hp'
    have gen : ∀ d, ∃ R, (elP L (ffr m) (p' + d)).flatMap (cvE mode (w * h) n (fun s => elP L s n) m used) = (elP L (ffr m) p').flatMap (cvE mode (w * h) n (fun s => elP L s n) m used) ++ R := by
      intro d
      induction d with
      | zero => exact ⟨[], (List.append_nil _).symm⟩
      | succ d ih =>
        obtain ⟨R, hR⟩ := ih
        refine ⟨R ++ ((L (p' + d) (ffr m)).map (fun M => (p' + d, M))).flatMap (cvE mode (w * h) n (fun s => elP L s n) m used), ?_⟩
        show (elP L (ffr m) (p' + d) ++ (L (p' + d) (ffr m)).map (fun M => (p' + d, M))).flatMap _ = _
        rw [List.flatMap_append, hR, List.append_assoc]
    have := gen (n - p')
    rw [show p' + (n - p') = n by omega] at this
    exact this
  have lenb : ∀ p' X, p' ≤ n → (∃ R, (elP L (ffr m) p').flatMap (cvE mode (w * h) n (fun s => elP L s n) m used) = X ++ R) → X.length ≤ 7 ^ 20 := by
    rintro p' X hp' ⟨R, e⟩
    obtain ⟨R2, e2⟩ := part p' hp'
    have := eb.2.2.2.2
    rw [hfull, e2, e, List.length_append, List.length_append] at this
    omega
  have hp20 := p7
  unfold w_X2_tryEach_18b
  refine pk_le n p (fun hz => ?_) (fun hz => ?_) hR.2.1.1 rfl
  · obtain rfl : p = n := by omega
    rw [← hfull] at hD
    have hDl : D.length < 2 ^ 57 := by rw [hD]; have := eb.2.2.2.2; omega
    rw [← hD] at hk
    refine ⟨fun q => ?_, fun q => ?_⟩
    · have hDn : D ≠ [] := fun e => q (by rw [e]; rfl)
      have := hk J1 g1 g2
      unfold enc at this
      rw [if_neg hDn] at this
      have hm31 := hle31 D
      rw [i_5, wb_shl _ (by decide), nI_l (by omega), wb_or (by omega) (by omega), show D.length * 2 ^ 5 = D.length * 32 from rfl, lorAdd 5 32 rfl (by omega)]
      exact this
    · have e0 : D = [] := by
        have : lN D.length = lN 0 := (lg_cmp_eq _ _).mp q
        have := (pk_lEQ (by omega) (by decide)).mp this
        exact List.eq_nil_of_length_eq_zero this
      have := hk J1 g1 g2
      unfold enc at this
      rw [if_pos e0] at this
      exact this
  · have inner : ∀ ways : Nat, (ways = 0 ∧ used.testBit p = true ∨ ways = (L p (ffr m)).length ∧ used.testBit p = false) → w_X2_tryEach_54 rc Po K (nI m) (nI used) (nI depth) (nI (ffr m)) (lN D.length) (nI (mnx 31 D)) (nI p) (nI ways) I J1 := by
      intro ways hways
      obtain ⟨q1, q2, q3⟩ := hL p hz |>.1 (ffr m) (by omega)
      have hw8 : ways ≤ 8 := by rcases hways with z | z <;> omega
      unfold w_X2_tryEach_54 w_X2_tryEach_59
      refine gr4 (m0 := ways) (fun K2 a b c J => w_X2_tryEach_59b rc Po K K2 (nI m) (nI used) (nI depth) (nI (ffr m)) a b (nI p) (nI ways) c I J) (fun r a b c J' => ∃ i, r + i = ways ∧ c = nI i ∧ ∃ D', D' = D ++ (((L p (ffr m)).take i).map (fun M => (p, M))).flatMap (cvE mode (w * h) n (fun s => elP L s n) m used) ∧ a = lN D'.length ∧ b = nI (mnx 31 D') ∧ gJm [95, 96] J J' ∧ TB J') ⟨0, by omega, rfl, D, by simp, rfl, rfl, g1, g2⟩ ?_
      rintro r2 a b c J2 ⟨i, hri, rfl, D2, hD2, rfl, rfl, o1, o2⟩ K2 kk2
      unfold w_X2_tryEach_59b
      refine pk_le ways i (fun hz2 => ?_) (fun hz2 => ?_) rfl rfl
      · obtain rfl : i = ways := by omega
        intro n7 e7
        rw [nI_1] at e7
        subst e7
        refine kk (r - 1) _ _ _ _ (by omega) ⟨p + 1, by omega, rfl, D2, ?_, rfl, rfl, o1, o2⟩
        show D2 = (elP L (ffr m) p ++ (L p (ffr m)).map (fun M => (p, M))).flatMap _
        rw [List.flatMap_append, ← hD, hD2]
        congr 1
        rcases hways with ⟨z1, z2⟩ | ⟨z1, z2⟩
        · rw [z1, List.take_zero]
          have : ∀ l : List Nat, (l.map (fun M => (p, M))).flatMap (cvE mode (w * h) n (fun s => elP L s n) m used) = [] := fun l => by
            induction l with
            | nil => rfl
            | cons x l ih =>
              rw [List.map_cons, List.flatMap_cons, ih, List.append_nil]
              unfold cvE
              exact if_neg (fun f => by have := f.2; rw [z2] at this; exact absurd this (by decide))
          rw [this [], this (L p (ffr m))]
        · rw [z1, List.take_length]
      · rcases hways with ⟨z1, _⟩ | ⟨z1, z2⟩
        · omega
        · have hi : i < (L p (ffr m)).length := by omega
          obtain ⟨m1, m2⟩ := q3 i hi
          have hmem : ((p, gt0 (L p (ffr m)) i) : Nat × Nat) ∈ elP L (ffr m) n := elP_mem.mpr ⟨hz, gt0_mem hi⟩
          have hM20 : gt0 (L p (ffr m)) i < 2 ^ 31 := by omega
          have step : ∀ (X : List Nat) (J' : gL), X = cvE mode (w * h) n (fun s => elP L s n) m used (p, gt0 (L p (ffr m)) i) → gJm [95, 96] J J' → TB J' → w_X2_tryEach_149 rc Po K K2 (nI m) (nI used) (nI depth) (nI (ffr m)) (lN (D2 ++ X).length) (nI (mnx 31 (D2 ++ X))) (nI p) (nI ways) (nI i) I J' := by
            intro X J' hX u1 u2
            unfold w_X2_tryEach_149
            intro n10 e10
            rw [nI_1] at e10
            subst e10
            refine kk2 (r2 - 1) _ _ _ _ (by omega) ⟨i + 1, by omega, rfl, D2 ++ X, ?_, rfl, rfl, u1, u2⟩
            rw [take_s hi, List.map_append, List.flatMap_append, ← List.append_assoc, ← hD2, hX]
            simp
          unfold wp_X4_placementFrom
          rw [i_8, pk_mul, nI_add, nI_clamp (n := p) (by omega), nI_clamp (n := ffr m * 8 + i) (by omega), m1]
          refine ⟨vp_in_nI (by omega) (by decide), vp_in_nI (by omega) (by decide), ?_⟩
          show (¬ (nI (gt0 (L p (ffr m)) i) &&& nI m) = 0 → _) ∧ ((nI (gt0 (L p (ffr m)) i) &&& nI m) = 0 → _)
          rw [nI_and0 hM20 (by omega)]
          refine ⟨fun q => ?_, fun q => ?_⟩
          · have hnf : ¬ fit m used (p, gt0 (L p (ffr m)) i) := fun f => q f.1
            have := step [] J2 (by unfold cvE; rw [if_neg hnf]) o1 o2
            rw [List.append_nil] at this
            exact this
          · have hf : fit m used (p, gt0 (L p (ffr m)) i) := ⟨q, z2⟩
            obtain ⟨a1, a2, a3⟩ := e_fr hE hm hne hmem hf
            refine p_usedWith hX.1 hmo (by omega) (by omega) ?_
            rw [nI_or (by omega) hM20, nI_1]
            refine hrc _ hmem hf J2 o2 _ (fun J3 u1 u2 => ?_)
            have ce := enc_b (mode := mode) (used := uw mode used p) hO hwh.1 hn (m := m ||| gt0 (L p (ffr m)) i) a1
            have cle := cv_le' (mode := mode) (used := uw mode used p) hE hwh.1 (m := m ||| gt0 (L p (ffr m)) i) a1
            have cfr := fr_le (w * h) (m ||| gt0 (L p (ffr m)) i)
            have hXe : cvE mode (w * h) n (fun s => elP L s n) m used (p, gt0 (L p (ffr m)) i) = (cv mode (w * h) n (fun s => elP L s n) (m ||| gt0 (L p (ffr m)) i) (uw mode used p)).map (· + 1) := by
              unfold cvE; rw [if_pos hf]
            have st := step _ J3 hXe.symm (gJm_t o1 u1) u2
            generalize cv mode (w * h) n (fun s => elP L s n) (m ||| gt0 (L p (ffr m)) i) (uw mode used p) = cl at *
            rw [mnx_app, List.length_append, List.length_map] at st
            show ∀ n14 : Int64, n14 = (lN D2.length + ((lN (enc cl)).toUInt64 >>> (((5 : Int32)).toInt64.toUInt64 &&& Int64.toUInt64 63)).toInt64) → ∀ n15 : Int32, n15 = ((1 : Int32) + ((lN (enc cl) &&& (31 : Int64))).toInt32) → _
            rw [i_5, wb_shr (by omega) (by decide), show (31 : Int64) = lN (2 ^ 5 - 1) from rfl, wb_mask (by omega) (by decide), lN_i, lN_add, show 2 ^ 5 = 32 from rfl, ce.2.1, i_1, nI_add]
            intro n14 e14 n15 e15
            subst e14 e15
            have hD31 := hle31 D2
            refine ⟨fun q5 => ?_, fun q5 => ?_⟩
            · have hcn : cl ≠ [] := fun e => q5 (by rw [lg_cmp_eq, ce.2.2.2.1.mpr e]; rfl)
              obtain ⟨y1, y2⟩ := ce.2.2.1 hcn
              unfold w_X2_tryEach_147
              rw [y1, nI_minI (by omega) (by omega)]
              rw [mnx_m hcn (fun d hd => by have := cle d hd; omega)] at st
              rw [show min (1 + mnx 31 cl) (mnx 31 D2) = min (mnx 31 D2) (mnx 31 cl + 1) by omega]
              exact st
            · have hcn : cl = [] := by
                rw [lg_cmp_eq] at q5
                have := (pk_lEQ (b := 0) (by omega) (by decide)).mp q5
                exact ce.2.2.2.1.mp this
              unfold w_X2_tryEach_147
              rw [hcn] at st
              have e31 : min (mnx 31 D2) (mnx 31 (List.map (· + 1) [])) = mnx 31 D2 := by
                show min (mnx 31 D2) 31 = _
                omega
              rw [e31] at st
              rw [hcn]
              exact st
    have tb := nI_bit (u := used) (p := p) (by omega) (by omega)
    refine ⟨fun q => ?_, fun q => ?_⟩
    · unfold wp_X4_countPlacementsFrom
      rw [nI_clamp (n := p) (by omega), nI_clamp (n := ffr m) (by omega), ((hL p hz).1 (ffr m) (by omega)).2.1]
      exact ⟨vp_in_nI (by omega) (by decide), vp_in_nI (by omega) (by decide), inner _ (Or.inr ⟨rfl, tb.mp q⟩)⟩
    · refine inner 0 (Or.inl ⟨rfl, ?_⟩)
      cases e : used.testBit p with
      | true => rfl
      | false => exact absurd (tb.mpr e) q
theorem p_areaFits {I : gI} (hR : RelP n pc w h hs tu mr ver lv I) {L : Nat → Nat → List Nat} (hO : lOk (w * h) n (szP pc) L) {mode : Nat} (hmo : mode < 3) (hX : ScX n (szP pc) (w * h) mode I) {m used : Nat} (hm : m < 2 ^ (w * h)) (hu : used < 2 ^ n) {Po : Int32 → Prop} (h1 : Po 1) (h0 : cv mode (w * h) n (fun s => elP L s n) m used = [] → Po 0) : wp_X2_areaFits (nI m) (nI used) I Po := by
  have hwh := RelP_wh hR
  have hn := hR.1.1
  have hE := lOk_e hO
  have h64 : 2 ^ n ≤ 2 ^ 6 := Nat.pow_le_pow_right (by decide) hn
  have hp0 : 0 < 2 ^ n := Nat.pow_pos (by decide)
  have hpk : 0 < 2 ^ (w * h) := Nat.pow_pos (by decide)
  obtain ⟨x5, x6, x7, x8⟩ := hX
  have hfr := fr_le (w * h) m
  unfold wp_X2_areaFits
  rw [x6, x7, x5]
  refine p_bitCount _ ?_
  have ec : cN (u32 (nI (2 ^ (w * h) - 1) &&& (nI m ^^^ (-1)))).testBit 32 = frN (w * h) m := by
    rw [show (32 : Nat) = w * h + (32 - w * h) by omega, cN_add, cN_zero (n := 32 - w * h), Nat.add_zero]
    · refine cN_congr (fun i hi => ?_)
      rw [bt_u32, b_and, btN (by omega), Nat.testBit_two_pow_sub_one, decide_eq_true hi, Bool.true_and, b_notN (by omega) (by omega)]
    · intro i hi
      rw [bt_u32, b_and, btN (by omega), Nat.testBit_two_pow_sub_one, decide_eq_false (by omega), Bool.false_and]
  rw [ec]
  have et : ∃ t, t < 2 ^ n ∧ nI (2 ^ n - 1) &&& (nI used ^^^ (-1)) = nI t ∧ ∀ p, p < n → t.testBit p = !used.testBit p := by
    refine ⟨(2 ^ n - 1) ^^^ used, ?_, b_ext (fun i hi => ?_), fun p hp => ?_⟩
    · exact Nat.xor_lt_two_pow (by omega) hu
    · have hx : (2 ^ n - 1) ^^^ used < 2 ^ n := Nat.xor_lt_two_pow (by omega) hu
      rw [b_and, btN (by omega), b_notN (by omega) hi, btN (by omega), Nat.testBit_xor, Nat.testBit_two_pow_sub_one]
      rcases Nat.lt_or_ge i n with z | z
      · rw [decide_eq_true z]; simp
      · rw [decide_eq_false (by omega), mk_tb hu z]; rfl
    · rw [Nat.testBit_xor, Nat.testBit_two_pow_sub_one, decide_eq_true hp]; simp
  obtain ⟨t, ht, et, htb⟩ := et
  rw [et]
  intro n2 e2
  subst e2
  rw [nI_clamp (n := t) (by omega), nI_toInt (by omega), (x8 t ht).1]
  have hs30 : aSum (szP pc) t n ≤ 5 * n := aSum_le (fun p hp => (hR.2.2.2 p hp).1.2.2)
  refine ⟨fun q => ⟨vp_in_nI (by omega) (by decide), fun q2 => h0 ?_, fun _ => h1⟩, fun q => ⟨vp_in_nI (by omega) (by decide), fun q2 => h0 ?_, fun _ => h1⟩, fun _ _ => h1⟩
  · have hm0 : mode = 0 := by omega
    subst hm0
    apply Classical.byContradiction
    intro hne
    have := cv_area0 hE hwh.1 (frN (w * h) m + 1) m used hm (by omega) hne t htb
    exact q2 (by rw [this])
  · have hm2 : mode = 2 := by omega
    subst hm2
    apply Classical.byContradiction
    intro hne
    obtain ⟨t', t1, t2, t3⟩ := cv_area2 hE hwh.1 (frN (w * h) m + 1) m used hm (by omega) hne
    have hb := ((x8 t ht).2 (frN (w * h) m) (by omega)).mpr ⟨t', t1, fun p hp hp2 => by rw [htb p hp, t2 p hp hp2]; rfl, t3⟩
    have := (bit_test (I 98 t) (s := frN (w * h) m) (by omega)).mp q2
    rw [hb] at this
    exact absurd this (by decide)
theorem p_solve {I : gI} (hR : RelP n pc w h hs tu mr ver lv I) (hver : ver < 1073741824) {L : Nat → Nat → List Nat} (hL : Lst n pc w h hs tu mr L I) {mode : Nat} (hmo : mode < 3) (hX : ScX n (szP pc) (w * h) mode I) : ∀ (g N m used depth : Nat) (J : gL) (Po : Int64 → gL → Prop), frN (w * h) m ≤ g → g < N → m < 2 ^ (w * h) → used < 2 ^ n → (mode = 1 → used = 0) → depth + frN (w * h) m ≤ 20 → tbO ver (w * h) n (fun s => elP L s n) J → (∀ J', gJm [95, 96] J J' → tbO ver (w * h) n (fun s => elP L s n) J' → Po (lN (enc (cv mode (w * h) n (fun s => elP L s n) m used))) J') → wp_X2_solve N (nI m) (nI used) (nI depth) I J Po
  | g, 0, _, _, _, _, _, _, hN, _, _, _, _, _, _ => absurd hN (by omega)
  | g, N + 1, m, used, depth, J, Po, hg, hN, hm, hu, hu1, hd, hT, hk => by
    have hwh := RelP_wh hR
    have hn := hR.1.1
    have hO := Lst_lOk hR hL
    have hE := lOk_e hO
    have h64 : 2 ^ n ≤ 2 ^ 6 := Nat.pow_le_pow_right (by decide) hn
    have hp0 : 0 < 2 ^ n := Nat.pow_pos (by decide)
    have hpk : 0 < 2 ^ (w * h) := Nat.pow_pos (by decide)
    obtain ⟨x5, x6, x7, x8⟩ := id hX
    show wb_X2_solve (wp_X2_solve N) (nI m) (nI used) (nI depth) I J Po
    unfold wb_X2_solve
    rw [x6, x5, x7]
    refine ⟨fun q => ?_, fun q => ?_⟩
    · have hne : m ≠ 2 ^ (w * h) - 1 := fun e => q (by rw [e])
      refine pk_lt 20 depth (fun z => by omega) (fun _ => ?_) rfl rfl
      refine p_areaFits hR hO hmo hX hm hu ⟨fun _ => ?_, fun z => absurd z one_ne⟩ (fun he => ⟨fun z => absurd rfl z, fun _ => by have := hk J (gJm_r J) hT; rw [he] at this; exact this⟩)
      intro n5 e5
      have hkey : n5 = lN (keyN ver mode used m) := by
        rw [e5, hR.2.1.2.2.2.2.1, nI_l (by omega), nI_l (by omega), nI_l (by omega), nI_l (by omega), show (3 : Int64) = lN 3 from rfl, lN_mul, lN_add, i_26, i_20, wb_shl _ (by decide), wb_shl _ (by decide), wb_or (by omega) (by omega), show (2 : Nat) ^ 26 = 67108864 from rfl, show (2 : Nat) ^ 20 = 1048576 from rfl, lorAdd 26 67108864 rfl (by omega)]
        have e2 : (ver * 3 + mode) * 67108864 + used * 1048576 = ((ver * 3 + mode) * 64 + used) * 1048576 := by omega
        rw [e2, wb_or (by omega) (by omega), lorAdd 20 1048576 rfl (by omega)]
        rw [keyN_e]
      subst hkey
      have hix : ∃ i, i < 16384 ∧ ((((lN (keyN ver mode used m) * (-7046029254386353131 : Int64))).toUInt64 >>> (((50 : Int32)).toInt64.toUInt64 &&& Int64.toUInt64 63)).toInt64).toInt32 = nI i := by
        obtain ⟨x, hx, ex⟩ := wb_of (lN (keyN ver mode used m) * (-7046029254386353131 : Int64))
        rw [ex, show (50 : Int32) = nI 50 from rfl, wb_shr hx (by decide), lN_i]
        exact ⟨_, by omega, rfl⟩
      obtain ⟨i, hi, ei⟩ := hix
      rw [ei]
      intro n6 e6
      subst e6
      rw [nI_clamp (by omega)]
      obtain ⟨key, k1, k2, k3⟩ := hT i hi
      have hkl : keyN ver mode used m < (3 * ver + 3) * 67108864 := by unfold keyN; omega
      rw [k2]
      refine ⟨vp_in_nI hi (by decide), fun q2 => ?_, fun q2 => ?_⟩
      · have ek : key = keyN ver mode used m := (pk_lEQ (by omega) (by omega)).mp ((lg_cmp_eq _ _).mp q2)
        unfold w_X2_solve_132
        rw [nI_clamp (by omega), k3 mode used m hmo (by omega) (by omega) ek hm hu hu1]
        exact ⟨vp_in_nI hi (by decide), hk J (gJm_r J) hT⟩
      · refine p_tryEach hR hL hmo hX hm hne hu (TB := tbO ver (w * h) n (fun s => elP L s n)) hT (fun e he hf J1 hT1 Q hQ => ?_) (fun J1 u1 u2 => ?_)
        · obtain ⟨a1, a2, a3⟩ := e_fr hE hm hne he hf
          have hp := (hE _ (ffr_lt hm hne) e he).1
          exact p_solve hR hver hL hmo hX (g - 1) N (m ||| e.2) (uw mode used e.1) (depth + 1) J1 Q (by omega) (by omega) a1 (uw_lt hu hp) (fun z => by unfold uw; rw [if_pos z]; exact hu1 z) (by omega) hT1 hQ
        · refine ⟨vp_in_nI hi (by decide), ?_⟩
          intro J13 e13
          refine ⟨vp_in_nI hi (by decide), ?_⟩
          intro J15 e15
          unfold w_X2_solve_132
          rw [nI_clamp (by omega)]
          have f : J15 96 i = lN (enc (cv mode (w * h) n (fun s => elP L s n) m used)) := by rw [e15, gup_at]
          rw [f]
          refine ⟨vp_in_nI hi (by decide), hk J15 (by rw [e15, e13]; exact gJm_u (gJm_u u1 (by decide)) (by decide)) (fun i' hi' => ?_)⟩
          by_cases c : i' = i
          · subst c
            refine ⟨keyN ver mode used m, hkl, by rw [e15, gup_o (by decide), e13, gup_at], fun md u m' b1 b2 b3 b4 _ _ _ => ?_⟩
            have e3 : md = mode ∧ u = used ∧ m' = m := by unfold keyN at b4; omega
            obtain ⟨rfl, rfl, rfl⟩ := e3
            exact f
          · obtain ⟨key', y1, y2, y3⟩ := u2 i' hi'
            exact ⟨key', y1, by rw [e15, gup_o (by decide), e13, gup_ne c]; exact y2, by rw [e15, gup_ne c, e13, gup_o (by decide)]; exact y3⟩
    · have he : m = 2 ^ (w * h) - 1 := (nI_eq (by omega) (by omega)).mp q
      subst he
      rw [cv_end] at hk
      refine ⟨fun q0 => ?_, fun q0 => ⟨fun q7 => ?_, fun q7 => ?_⟩⟩
      · rw [if_neg (fun z => q0 (by rw [z.1]; rfl))] at hk
        exact hk J (gJm_r J) hT
      · rw [if_neg (fun z => z.2 ((nI_eq (by omega) (by omega)).mp q7))] at hk
        exact hk J (gJm_r J) hT
      · rw [if_pos ⟨(nI_eq (b := 0) (by omega) (by decide)).mp q0, fun z => q7 (by rw [z])⟩] at hk
        exact hk J (gJm_r J) hT
end
