/-! THE LEAST COVER: chooseLeast, findLeastOn -/
noncomputable def fst (mode k n : Nat) (EL : Nat → List (Nat × Nat)) (m used : Nat) : Option (Nat × Nat) := (EL (ffr m)).find? (fun e => !(cvE mode k n EL m used e).isEmpty)
noncomputable def lc (mode k n : Nat) (EL : Nat → List (Nat × Nat)) (cell : Nat) : Nat → Nat → Nat → Option (Nat × Nat)
  | 0, _, _ => none
  | f + 1, m, used => match fst mode k n EL m used with
    | none => none
    | some e => if e.2.testBit cell = true then some e else lc mode k n EL cell f (m ||| e.2) (uw mode used e.1)
section
variable {mode k n : Nat} {sz : Nat → Nat} {EL : Nat → List (Nat × Nat)}
theorem fst_s {m used : Nat} {e : Nat × Nat} (h : fst mode k n EL m used = some e) : e ∈ EL (ffr m) ∧ fit m used e ∧ cv mode k n EL (m ||| e.2) (uw mode used e.1) ≠ [] := by
  have h1 := List.find?_some h
  have h2 := List.mem_of_find?_eq_some h
  refine ⟨h2, ?_⟩
  unfold cvE at h1
  by_cases c : fit m used e
  · rw [if_pos c] at h1
    refine ⟨c, fun z => ?_⟩
    rw [z] at h1
    exact absurd h1 (by decide)
  · rw [if_neg c] at h1
    exact absurd h1 (by decide)
theorem lc_irr (hE : eOk k n sz EL) {cell : Nat} (hc : cell < k) : ∀ (f f' m used : Nat), m < 2 ^ k → m.testBit cell = false → frN k m < f → frN k m < f' → lc mode k n EL cell f m used = lc mode k n EL cell f' m used
  | 0, _, _, _, _, _, h, _ => absurd h (by omega)
  | _, 0, _, _, _, _, _, h => absurd h (by omega)
  | f + 1, f' + 1, m, used, hm, hb, h1, h2 => by
    have hne : m ≠ 2 ^ k - 1 := fun e => by
      rw [e, Nat.testBit_two_pow_sub_one, decide_eq_true hc] at hb
      exact absurd hb (by decide)
    unfold lc
    cases hf : fst mode k n EL m used with
    | none => rfl
    | some e =>
      show (if e.2.testBit cell = true then _ else _) = (if e.2.testBit cell = true then _ else _)
      by_cases c : e.2.testBit cell = true
      · rw [if_pos c, if_pos c]
      · rw [if_neg c, if_neg c]
        obtain ⟨q1, q2, q3⟩ := fst_s hf
        obtain ⟨a1, a2, a3⟩ := e_fr hE hm hne q1 q2
        refine lc_irr hE hc f f' _ _ a1 ?_ (by omega) (by omega)
        rw [Nat.testBit_or, hb, Bool.false_or]
        cases z : e.2.testBit cell with
        | false => rfl
        | true => exact absurd z c
noncomputable def lcv (mode k n : Nat) (EL : Nat → List (Nat × Nat)) (cell m used : Nat) : Option (Nat × Nat) := lc mode k n EL cell 21 m used
theorem lcv_none {cell m used : Nat} (h : fst mode k n EL m used = none) : lcv mode k n EL cell m used = none := by
  unfold lcv lc; rw [h]
theorem lcv_hit {cell m used : Nat} {e : Nat × Nat} (h : fst mode k n EL m used = some e) (hc : e.2.testBit cell = true) : lcv mode k n EL cell m used = some e := by
  unfold lcv lc; rw [h]; exact if_pos hc
theorem lcv_go (hE : eOk k n sz EL) (hk : k ≤ 20) {cell m used : Nat} (hcl : cell < k) (hm : m < 2 ^ k) (hb : m.testBit cell = false) {e : Nat × Nat} (h : fst mode k n EL m used = some e) (hc : e.2.testBit cell = false) : lcv mode k n EL cell m used = lcv mode k n EL cell (m ||| e.2) (uw mode used e.1) := by
  have hne : m ≠ 2 ^ k - 1 := fun e => by
    rw [e, Nat.testBit_two_pow_sub_one, decide_eq_true hcl] at hb
    exact absurd hb (by decide)
  obtain ⟨q1, q2, q3⟩ := fst_s h
  obtain ⟨a1, a2, a3⟩ := e_fr hE hm hne q1 q2
  have := fr_le k m
  unfold lcv
  rw [lc_irr hE hcl 21 20 (m ||| e.2) _ a1 (by rw [Nat.testBit_or, hb, hc]; rfl) (by omega) (by omega)]
  show (match fst mode k n EL m used with | none => none | some e => if e.2.testBit cell = true then some e else lc mode k n EL cell 20 (m ||| e.2) (uw mode used e.1)) = _
  rw [h]
  exact if_neg (by rw [hc]; decide)
end
section
variable {n : Nat} {pc : Nat → Nat} {w h hs : Nat} {tu mr : Int32} {ver lv : Nat}
theorem ScX_k {sz : Nat → Nat} {k mode : Nat} {I I' : gI} (hX : ScX n sz k mode I) (h94 : ∀ j, j < 8 → I' 94 j = I 94 j) (h97 : I' 97 = I 97) (h98 : I' 98 = I 98) : ScX n sz k mode I' := by
  obtain ⟨a, b, c, d⟩ := hX
  exact ⟨by rw [h94 5 (by decide)]; exact a, by rw [h94 6 (by decide)]; exact b, by rw [h94 7 (by decide)]; exact c, by rw [h97, h98]; exact d⟩
theorem p_chooseLeast {I : gI} {J : gL} (hR : RelP n pc w h hs tu mr ver lv I) (hver : ver < 1073741824) {L : Nat → Nat → List Nat} (hL : Lst n pc w h hs tu mr L I) {mode : Nat} (hmo : mode < 3) (hX : ScX n (szP pc) (w * h) mode I) {m used depth : Nat} (hm : m < 2 ^ (w * h)) (hne : m ≠ 2 ^ (w * h) - 1) (hu : used < 2 ^ n) (hu1 : mode = 1 → used = 0) (hd : depth + frN (w * h) m ≤ 21) (hT : tbO ver (w * h) n (fun s => elP L s n) J) {Po : Int32 → gI → gL → Prop}
    (hno : fst mode (w * h) n (fun s => elP L s n) m used = none → ∀ J', gJm [95, 96] J J' → tbO ver (w * h) n (fun s => elP L s n) J' → Po 0 I J')
    (hyes : ∀ e, fst mode (w * h) n (fun s => elP L s n) m used = some e → ∀ J', gJm [95, 96] J J' → tbO ver (w * h) n (fun s => elP L s n) J' → Po 1 (gup (gup I 94 8 (nI e.1)) 94 9 (nI e.2)) J') : wp_X2_chooseLeast (nI m) (nI used) (nI depth) I J Po := by
  have hwh := RelP_wh hR
  have hn := hR.1.1
  have hO := Lst_lOk hR hL
  have hE := lOk_e hO
  have hs := ffr_lt hm hne
  have hff := ffr_s m
  have h64 : 2 ^ n ≤ 2 ^ 6 := Nat.pow_le_pow_right (by decide) hn
  have fnone : ∀ l : List (Nat × Nat), (∀ e, e ∈ l → cvE mode (w * h) n (fun s => elP L s n) m used e = []) → l.find? (fun e => !(cvE mode (w * h) n (fun s => elP L s n) m used e).isEmpty) = none := fun l hl => by
    rw [List.find?_eq_none]
    intro e he
    rw [hl e he]
    decide
  unfold wp_X2_chooseLeast
  refine p_ntz (s := ffr m) (by omega) (by rw [b_notN (by omega) (by omega), hff.1]; rfl) (fun j hj => by rw [b_notN (by omega) (by omega), hff.2 j hj]; rfl) ?_
  unfold w_X2_chooseLeast_11
  refine gl2 (N := n) (i0 := 0) (fun K v J => w_X2_chooseLeast_11b Po K (nI m) (nI used) (nI depth) (nI (ffr m)) v I J) (fun p J' => gJm [95, 96] J J' ∧ tbO ver (w * h) n (fun s => elP L s n) J' ∧ ∀ e, e ∈ elP L (ffr m) p → cvE mode (w * h) n (fun s => elP L s n) m used e = []) (by omega) (by omega) ⟨gJm_r J, hT, fun e he => by cases he⟩ ?_
  rintro p J1 hp ⟨g1, g2, g3⟩ K kk
  have part : ∀ p', p' ≤ n → ∃ R, elP L (ffr m) n = elP L (ffr m) p' ++ R := by
    intro p' hp'
    have gen : ∀ d, ∃ R, elP L (ffr m) (p' + d) = elP L (ffr m) p' ++ R := by
      intro d
      induction d with
      | zero => exact ⟨[], (List.append_nil _).symm⟩
      | succ d ih =>
        obtain ⟨R, hR⟩ := ih
        refine ⟨R ++ (L (p' + d) (ffr m)).map (fun M => (p' + d, M)), ?_⟩
        show elP L (ffr m) (p' + d) ++ (L (p' + d) (ffr m)).map (fun M => (p' + d, M)) = _
        rw [hR, List.append_assoc]
    have := gen (n - p')
    rw [show p' + (n - p') = n by omega] at this
    exact this
  unfold w_X2_chooseLeast_11b
  refine pk_le n p (fun hz => ?_) (fun hz => ?_) hR.2.1.1 rfl
  · obtain rfl : p = n := by omega
    exact hno (fnone _ g3) J1 g1 g2
  · have inner : ∀ ways : Nat, (ways = 0 ∧ used.testBit p = true ∨ ways = (L p (ffr m)).length ∧ used.testBit p = false) → w_X2_chooseLeast_47 Po K (nI m) (nI used) (nI depth) (nI (ffr m)) (nI p) (nI ways) I J1 := by
      intro ways hways
      obtain ⟨q1, q2, q3⟩ := hL p hz |>.1 (ffr m) (by omega)
      have hw8 : ways ≤ 8 := by rcases hways with z | z <;> omega
      unfold w_X2_chooseLeast_47 w_X2_chooseLeast_52
      refine gl2 (N := ways) (i0 := 0) (fun K2 v J => w_X2_chooseLeast_52b Po K K2 (nI m) (nI used) (nI depth) (nI (ffr m)) (nI p) (nI ways) v I J) (fun i J' => gJm [95, 96] J J' ∧ tbO ver (w * h) n (fun s => elP L s n) J' ∧ ∀ i', i' < i → cvE mode (w * h) n (fun s => elP L s n) m used (p, gt0 (L p (ffr m)) i') = []) (by omega) (by omega) ⟨g1, g2, fun i' hi' => absurd hi' (by omega)⟩ ?_
      rintro i J2 hi ⟨o1, o2, o3⟩ K2 kk2
      unfold w_X2_chooseLeast_52b
      refine pk_le ways i (fun hz2 => ?_) (fun hz2 => ?_) rfl rfl
      · obtain rfl : i = ways := by omega
        intro n6 e6
        rw [nI_1] at e6
        subst e6
        refine kk hz J2 ⟨o1, o2, fun e he => ?_⟩
        obtain ⟨e1, e2⟩ := elP_mem.mp he
        by_cases c : e.1 = p
        · rcases hways with ⟨z1, z2⟩ | ⟨z1, z2⟩
          · unfold cvE
            exact if_neg (fun f => by have := f.2; rw [c, z2] at this; exact absurd this (by decide))
          · rw [c] at e2
            obtain ⟨i', hi', ei⟩ := mem_gt0 e2
            have := o3 i' (by omega)
            rw [ei, ← c] at this
            exact this
        · exact g3 e (elP_mem.mpr ⟨by omega, e2⟩)
      · rcases hways with ⟨z1, _⟩ | ⟨z1, z2⟩
        · omega
        · have hi : i < (L p (ffr m)).length := by omega
          obtain ⟨m1, m2⟩ := q3 i hi
          have hmem : ((p, gt0 (L p (ffr m)) i) : Nat × Nat) ∈ elP L (ffr m) n := elP_mem.mpr ⟨hz, gt0_mem hi⟩
          have hM20 : gt0 (L p (ffr m)) i < 2 ^ 31 := by omega
          have nxt : ∀ J', gJm [95, 96] J J' → tbO ver (w * h) n (fun s => elP L s n) J' → cvE mode (w * h) n (fun s => elP L s n) m used (p, gt0 (L p (ffr m)) i) = [] → w_X2_chooseLeast_128 Po K K2 (nI m) (nI used) (nI depth) (nI (ffr m)) (nI p) (nI ways) (nI i) I J' := by
            intro J' u1 u2 u3
            unfold w_X2_chooseLeast_128
            intro n10 e10
            rw [nI_1] at e10
            subst e10
            refine kk2 hz2 J' ⟨u1, u2, fun i' hi' => ?_⟩
            by_cases c : i' = i
            · subst c; exact u3
            · exact o3 i' (by omega)
          unfold wp_X4_placementFrom
          rw [i_8, pk_mul, nI_add, nI_clamp (n := p) (by omega), nI_clamp (n := ffr m * 8 + i) (by omega), m1]
          refine ⟨vp_in_nI (by omega) (by decide), vp_in_nI (by omega) (by decide), ?_⟩
          show (¬ (nI (gt0 (L p (ffr m)) i) &&& nI m) = 0 → _) ∧ ((nI (gt0 (L p (ffr m)) i) &&& nI m) = 0 → _)
          rw [nI_and0 hM20 (by omega)]
          refine ⟨fun q => ?_, fun q => ?_⟩
          · unfold w_X2_chooseLeast_86
            refine ⟨fun _ => nxt J2 o1 o2 ?_, fun z => absurd rfl z⟩
            unfold cvE
            exact if_neg (fun f => q f.1)
          · have hf : fit m used (p, gt0 (L p (ffr m)) i) := ⟨q, z2⟩
            obtain ⟨a1, a2, a3⟩ := e_fr hE hm hne hmem hf
            unfold w_X2_chooseLeast_86
            refine ⟨fun z => absurd z one_ne, fun _ => ?_⟩
            refine p_usedWith hX.1 hmo (by omega) (by omega) ?_
            rw [nI_or (by omega) hM20]
            have hX0 : cvE mode (w * h) n (fun s => elP L s n) m used (p, gt0 (L p (ffr m)) i) = (cv mode (w * h) n (fun s => elP L s n) (m ||| gt0 (L p (ffr m)) i) (uw mode used p)).map (· + 1) := by
              unfold cvE; rw [if_pos hf]
            have ce := enc_b (mode := mode) (used := uw mode used p) hO hwh.1 hn (m := m ||| gt0 (L p (ffr m)) i) a1
            have hfr := fr_le (w * h) m
            refine p_solve hR hver hL hmo hX 20 23 (m ||| gt0 (L p (ffr m)) i) (uw mode used p) depth J2 _ (by have := fr_le (w * h) (m ||| gt0 (L p (ffr m)) i); omega) (by decide) a1 (uw_lt hu hz) (fun z => by unfold uw; rw [if_pos z]; exact hu1 z) (by have : frN (w * h) (m ||| gt0 (L p (ffr m)) i) + szP pc p = frN (w * h) m := a2; have : 1 ≤ szP pc p := a3; omega) o2 (fun J3 u1 u2 => ⟨fun q5 => ?_, fun q5 => ?_⟩)
            · refine nxt J3 (gJm_t o1 u1) u2 ?_
              have := (pk_lEQ (b := 0) (by omega) (by decide)).mp ((lg_cmp_eq _ _).mp q5)
              rw [hX0, ce.2.2.2.1.mp this]
              rfl
            · intro I15 e15 I16 e16
              have hcn : cv mode (w * h) n (fun s => elP L s n) (m ||| gt0 (L p (ffr m)) i) (uw mode used p) ≠ [] := fun e => q5 ((lg_cmp_eq _ _).mpr (by rw [ce.2.2.2.1.mpr e]; rfl))
              rw [e16, e15]
              refine hyes (p, gt0 (L p (ffr m)) i) ?_ J3 (gJm_t o1 u1) u2
              -- the first one of them
              obtain ⟨R, hRl⟩ := part (p + 1) (by omega)
              have hRl : elP L (ffr m) n = (elP L (ffr m) p ++ (L p (ffr m)).map (fun M => (p, M))) ++ R := hRl
              have hsp : (L p (ffr m)) = (L p (ffr m)).take i ++ gt0 (L p (ffr m)) i :: (L p (ffr m)).drop (i + 1) := by
                conv => lhs; rw [← List.take_append_drop (i + 1) (L p (ffr m)), take_s hi]
                rw [List.append_assoc]; rfl
              have hmp : (L p (ffr m)).map (fun M => (p, M)) = ((L p (ffr m)).take i).map (fun M => (p, M)) ++ (p, gt0 (L p (ffr m)) i) :: ((L p (ffr m)).drop (i + 1)).map (fun M => (p, M)) := by
                conv => lhs; rw [hsp]
                rw [List.map_append, List.map_cons]
              have h1 : ∀ e, e ∈ ((L p (ffr m)).take i).map (fun M => (p, M)) → cvE mode (w * h) n (fun s => elP L s n) m used e = [] := by
                intro e he
                obtain ⟨M, hM, rfl⟩ := List.mem_map.mp he
                obtain ⟨i', hi', ei⟩ := mem_gt0 hM
                rw [List.length_take] at hi'
                have : gt0 ((L p (ffr m)).take i) i' = gt0 (L p (ffr m)) i' := by
                  unfold gt0
                  rw [List.getD_eq_getElem?_getD, List.getD_eq_getElem?_getD, List.getElem?_take, if_pos (by omega)]
                rw [← ei, this]
                exact o3 i' (by omega)
              have h2 : (!(cvE mode (w * h) n (fun s => elP L s n) m used (p, gt0 (L p (ffr m)) i)).isEmpty) = true := by
                rw [hX0]
                cases hcl : cv mode (w * h) n (fun s => elP L s n) (m ||| gt0 (L p (ffr m)) i) (uw mode used p) with
                | nil => exact absurd hcl hcn
                | cons x l => rfl
              show (elP L (ffr m) n).find? _ = _
              rw [hRl, hmp, List.append_assoc, List.append_assoc, List.find?_append, fnone _ g3, Option.none_or, List.find?_append, fnone _ h1, Option.none_or, List.cons_append]
              exact List.find?_cons_of_pos (p := fun e => !(cvE mode (w * h) n (fun s => elP L s n) m used e).isEmpty) h2
    have tb := nI_bit (u := used) (p := p) (by omega) (by omega)
    refine ⟨fun q => ?_, fun q => ?_⟩
    · unfold wp_X4_countPlacementsFrom
      rw [nI_clamp (n := p) (by omega), nI_clamp (n := ffr m) (by omega), ((hL p hz).1 (ffr m) (by omega)).2.1]
      exact ⟨vp_in_nI (by omega) (by decide), vp_in_nI (by omega) (by decide), inner _ (Or.inr ⟨rfl, tb.mp q⟩)⟩
    · refine inner 0 (Or.inl ⟨rfl, ?_⟩)
      cases e : used.testBit p with
      | true => rfl
      | false => exact absurd (tb.mpr e) q
theorem p_findLeast {I : gI} {J : gL} (hR : RelP n pc w h hs tu mr ver lv I) (hver : ver < 1073741824) {L : Nat → Nat → List Nat} (hL : Lst n pc w h hs tu mr L I) {mode : Nat} (hmo : mode < 3) (hX : ScX n (szP pc) (w * h) mode I) {cell : Nat} (hc : cell < w * h) (hT : tbO ver (w * h) n (fun s => elP L s n) J) {Po : Int32 → gI → gL → Prop}
    (hno : (hs.testBit cell = true ∨ lcv mode (w * h) n (fun s => elP L s n) cell hs 0 = none) → ∀ I' J', gSm [94] I I' → (∀ j, j < 8 → I' 94 j = I 94 j) → gJm [95, 96] J J' → tbO ver (w * h) n (fun s => elP L s n) J' → Po 0 I' J')
    (hyes : hs.testBit cell = false → ∀ e, lcv mode (w * h) n (fun s => elP L s n) cell hs 0 = some e → ∀ I' J', gSm [94] I I' → (∀ j, j < 8 → I' 94 j = I 94 j) → I' 94 8 = nI e.1 → I' 94 9 = nI e.2 → gJm [95, 96] J J' → tbO ver (w * h) n (fun s => elP L s n) J' → Po 1 I' J') : wp_X2_findLeastOn (nI cell) I J Po := by
  have hwh := RelP_wh hR
  have hn := hR.1.1
  have hO := Lst_lOk hR hL
  have hE := lOk_e hO
  have hhs := hR.1.2.2.2.2.2.1
  have h64 : 2 ^ n ≤ 2 ^ 6 := Nat.pow_le_pow_right (by decide) hn
  have hp0 : 0 < 2 ^ n := Nat.pow_pos (by decide)
  have hfr0 := fr_le (w * h) hs
  unfold wp_X2_findLeastOn
  rw [hR.2.1.2.2.2.1]
  intro n1 e1
  subst e1
  have tb := nI_bit (u := hs) (p := cell) (by omega) (by omega)
  refine ⟨fun q => ?_, fun q => ?_⟩
  · have hb0 := tb.mp q
    unfold w_X2_findLeastOn_23
    refine gr5 (m0 := 20) (fun K a b c I J => w_X2_findLeastOn_23b Po K (nI cell) a b c I J) (fun r a b c I' J' => ∃ m used depth, r + depth = 21 ∧ a = nI m ∧ b = nI used ∧ c = nI depth ∧ 1 ≤ depth ∧ depth + frN (w * h) m ≤ 21 ∧ m < 2 ^ (w * h) ∧ used < 2 ^ n ∧ (mode = 1 → used = 0) ∧ gSm [94] I I' ∧ (∀ j, j < 8 → I' 94 j = I 94 j) ∧ gJm [95, 96] J J' ∧ tbO ver (w * h) n (fun s => elP L s n) J' ∧ ((m.testBit cell = false ∧ lcv mode (w * h) n (fun s => elP L s n) cell hs 0 = lcv mode (w * h) n (fun s => elP L s n) cell m used) ∨ (m.testBit cell = true ∧ ∃ e, lcv mode (w * h) n (fun s => elP L s n) cell hs 0 = some e ∧ I' 94 8 = nI e.1 ∧ I' 94 9 = nI e.2))) ⟨hs, 0, 1, by omega, rfl, rfl, rfl, by omega, by omega, hhs, hp0, fun _ => rfl, gSm_r I, fun _ _ => rfl, gJm_r J, hT, Or.inl ⟨hb0, rfl⟩⟩ ?_
    rintro r a b c I1 J1 ⟨m, used, depth, hrd, rfl, rfl, rfl, hd1, hd2, hm, hu, hu1, g1, g2, g3, g4, g5⟩ K kk
    have hend : m.testBit cell = true → Po 1 I1 J1 := fun hb => by
      rcases g5 with ⟨z, _⟩ | ⟨_, e, y1, y2, y3⟩
      · rw [hb] at z; exact absurd z (by decide)
      · exact hyes hb0 e y1 I1 J1 g1 g2 y2 y3 g3 g4
    have tbm := nI_bit (u := m) (p := cell) (by omega) (by omega)
    unfold w_X2_findLeastOn_23b
    refine pk_lt 20 depth (fun hz => hend ?_) (fun hz => ?_) rfl rfl
    · have hf0 : frN (w * h) m = 0 := by omega
      by_cases c : m = 2 ^ (w * h) - 1
      · rw [c, Nat.testBit_two_pow_sub_one, decide_eq_true hc]
      · have := fr_pos hm c; omega
    refine ⟨fun q2 => hend ?_, fun q2 => ?_⟩
    · cases e : m.testBit cell with
      | true => rfl
      | false => exact absurd (tbm.mpr e) q2
    · have hb := tbm.mp q2
      have hne : m ≠ 2 ^ (w * h) - 1 := fun e => by
        rw [e, Nat.testBit_two_pow_sub_one, decide_eq_true hc] at hb
        exact absurd hb (by decide)
      have hlc : lcv mode (w * h) n (fun s => elP L s n) cell hs 0 = lcv mode (w * h) n (fun s => elP L s n) cell m used := by
        rcases g5 with ⟨_, z⟩ | ⟨z, _⟩
        · exact z
        · rw [hb] at z; exact absurd z (by decide)
      have hR1 : RelP n pc w h hs tu mr ver lv I1 := RelP_k hR (fun j _ => by rw [g1 20 (by decide)]) (g1 21 (by decide)) (fun j _ => by rw [g1 200 (by decide)]) (g1 210 (by decide))
      have hL1 : Lst n pc w h hs tu mr L I1 := Lst_k hL hn g1 (fun k h1 h2 => by simp only [List.mem_cons, List.not_mem_nil, or_false]; omega)
      have hX1 : ScX n (szP pc) (w * h) mode I1 := ScX_k hX g2 (g1 97 (by decide)) (g1 98 (by decide))
      refine p_chooseLeast hR1 hver hL1 hmo hX1 hm hne hu hu1 hd2 g4 (fun hf J2 u1 u2 => ⟨fun z => absurd rfl z, fun _ => ?_⟩) (fun e hf J2 u1 u2 => ⟨fun _ => ?_, fun z => absurd z one_ne⟩)
      · exact hno (Or.inr (by rw [hlc]; exact lcv_none hf)) I1 J2 g1 g2 (gJm_t g3 u1) u2
      · obtain ⟨q1, q2, q3⟩ := fst_s hf
        obtain ⟨a1, a2, a3⟩ := e_fr hE hm hne q1 q2
        obtain ⟨b1, b2, _⟩ := hE _ (ffr_lt hm hne) e q1
        generalize hI6 : gup (gup I1 94 8 (nI e.1)) 94 9 (nI e.2) = I6
        have f9 : I6 94 9 = nI e.2 := by rw [← hI6, gup_at]
        have f8 : I6 94 8 = nI e.1 := by rw [← hI6, gup_ne (by decide), gup_at]
        have k6 : ∀ j, j < 8 → I6 94 j = I 94 j := fun j hj => by rw [← hI6, gup_ne (by omega), gup_ne (by omega)]; exact g2 j hj
        have s6 : gSm [94] I I6 := by rw [← hI6]; exact gSm_u (gSm_u g1 (by decide)) (by decide)
        rw [f9, f8, nI_or (by omega) (by omega)]
        intro n9 e9
        subst e9
        refine p_usedWith (mode := mode) (by rw [k6 5 (by decide)]; exact hX.1) hmo (by omega) (by omega) ?_
        intro n11 e11
        rw [nI_1] at e11
        subst e11
        refine kk (r - 1) _ _ _ _ _ (by omega) ⟨m ||| e.2, uw mode used e.1, depth + 1, by omega, rfl, rfl, rfl, by omega, by omega, a1, uw_lt hu b1, fun z => by unfold uw; rw [if_pos z]; exact hu1 z, s6, k6, gJm_t g3 u1, u2, ?_⟩
        cases hcb : e.2.testBit cell with
        | true => exact Or.inr ⟨by rw [Nat.testBit_or, hcb, Bool.or_true], e, by rw [hlc]; exact lcv_hit hf hcb, f8, f9⟩
        | false => exact Or.inl ⟨by rw [Nat.testBit_or, hb, hcb]; rfl, by rw [hlc]; exact lcv_go hE hwh.1 hc hm hb hf hcb⟩
  · refine hno (Or.inl ?_) I J (gSm_r I) (fun _ _ => rfl) (gJm_r J) hT
    cases e : hs.testBit cell with
    | true => rfl
    | false => exact absurd (tb.mpr e) q
end
