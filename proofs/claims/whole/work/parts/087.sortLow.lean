/-! the model: sortLow -/
theorem srt_pw {l : List Nat} : srt l ↔ l.Pairwise (· < ·) := by
  rw [List.pairwise_iff_getElem]
  have g : ∀ i (hi : i < l.length), gt0 l i = l[i] := fun i hi => by
    unfold gt0; rw [List.getD_eq_getElem?_getD, List.getElem?_eq_getElem hi]; rfl
  constructor
  · intro h i j hi hj hij
    have := h i j hij hj
    rw [g i hi, g j hj] at this
    exact this
  · intro h i j hij hj
    rw [g i (by omega), g j hj]
    exact h i j (by omega) hj hij
theorem srt_filter {l : List Nat} (h : srt l) (f : Nat → Bool) : srt (l.filter f) := srt_pw.mpr ((srt_pw.mp h).filter f)
noncomputable def lowB (s M : Nat) : Bool := @decide (lowC M s) (Classical.propDecidable _)
theorem lowB_t {s M : Nat} : lowB s M = true ↔ lowC M s := @decide_eq_true_iff _ (Classical.propDecidable _)
def elP (L : Nat → Nat → List Nat) (s : Nat) : Nat → List (Nat × Nat)
  | 0 => []
  | p + 1 => elP L s p ++ (L p s).map (fun M => (p, M))
def tot (n : Nat) (L : Nat → Nat → List Nat) : Nat → List (Nat × Nat)
  | 0 => []
  | s + 1 => tot n L s ++ elP L s n
def gp (T : List (Nat × Nat)) (i : Nat) : Nat × Nat := T.getD i (0, 0)
def elM (T : List (Nat × Nat)) (I : gI) : Prop := ∀ i, i < T.length → I 213 i = nI (gp T i).2 ∧ I 214 i = nI (gp T i).1 ∧ (gp T i).2 < 1048576
theorem gp_l {T : List (Nat × Nat)} {a : Nat × Nat} {i : Nat} (h : i < T.length) : gp (T ++ [a]) i = gp T i := by
  unfold gp
  rw [List.getD_eq_getElem?_getD, List.getD_eq_getElem?_getD, List.getElem?_append_left h]
theorem gp_at {T : List (Nat × Nat)} {a : Nat × Nat} : gp (T ++ [a]) T.length = a := by unfold gp; simp
theorem elP_len {n : Nat} {L : Nat → Nat → List Nat} {s : Nat} (h : ∀ p, p < n → (L p s).length ≤ 8) : ∀ {p : Nat}, p ≤ n → (elP L s p).length ≤ 8 * p
  | 0, _ => Nat.le_refl _
  | p + 1, hp => by
    show (elP L s p ++ (L p s).map (fun M => (p, M))).length ≤ _
    have h1 := elP_len h (p := p) (by omega)
    have h2 := h p (by omega)
    rw [List.length_append, List.length_map]
    omega
theorem tot_len {n : Nat} {L : Nat → Nat → List Nat} (hn : n ≤ 6) (h : ∀ p s, p < n → s < 20 → (L p s).length ≤ 8) : ∀ {s : Nat}, s ≤ 20 → (tot n L s).length ≤ 48 * s
  | 0, _ => Nat.le_refl _
  | s + 1, hs => by
    show (tot n L s ++ elP L s n).length ≤ _
    have h1 := tot_len hn h (s := s) (by omega)
    have h2 := elP_len (n := n) (L := L) (s := s) (fun p hp => h p s hp (by omega)) (Nat.le_refl n)
    rw [List.length_append]
    omega
theorem low_eq {M s : Nat} (hs : s < 20) : (nI M &&& (-(nI M))) = ((1 : Int32) <<< (nI s &&& 31)) ↔ lowC M s := by
  constructor
  · intro e
    have : bt (nI M &&& (-(nI M))) s = true := by rw [e, bit_one (by omega) (by omega), decide_eq_true rfl]
    exact (b_low _ _).mp this
  · intro h
    apply b_ext
    intro i hi
    rw [Bool.eq_iff_iff, b_low, bit_one (by omega) hi, decide_eq_true_eq]
    constructor
    · rintro ⟨h1, h2⟩
      rcases Nat.lt_trichotomy i s with z | z | z
      · rw [h.2 i z] at h1; exact absurd h1 (by decide)
      · exact z
      · have := h2 s z; rw [h.1] at this; exact absurd this (by decide)
    · intro e; rw [e]; exact h
/-- what is there when low s, piece p, place j is next -/
noncomputable def tl (n : Nat) (L : Nat → Nat → List Nat) (PL : Nat → List Nat) (s p j : Nat) : List (Nat × Nat) := tot n L s ++ (if s < 20 then elP L s p ++ (((PL p).take j).filter (lowB s)).map (fun M => (p, M)) else [])
theorem take_s {l : List Nat} {j : Nat} (h : j < l.length) : l.take (j + 1) = l.take j ++ [gt0 l j] := by
  rw [List.take_add_one, List.getElem?_eq_getElem h]
  unfold gt0
  rw [List.getD_eq_getElem?_getD, List.getElem?_eq_getElem h]
  rfl
theorem p_sortLow {n : Nat} {pc : Nat → Nat} {w h hs : Nat} {tu mr : Int32} {I : gI} (hn : n ≤ 6) (e11 : I 200 11 = nI n) {PL : Nat → List Nat} (hP : plM pc w h hs tu mr PL n I) (e12 : I 212 n = nI (fp PL n)) (hfp : fp PL n ≤ 960) {L : Nat → Nat → List Nat} (hL : ∀ p s, p < n → s < 20 → (L p s).length ≤ 8 ∧ srt (L p s) ∧ ∀ x, x ∈ L p s ↔ plc w h hs tu mr (pc p) x ∧ lowC x s) {Po : gI → Prop} (hk : ∀ I', gSm [213, 214, 215] I I' → (∀ s, s ≤ 20 → I' 215 s = nI (tot n L s).length) → I' 215 21 = nI (tot n L 20).length → elM (tot n L 20) I' → Po I') : wp_X10_sortLow I Po := by
  have h12 : ∀ p, p ≤ n → I 212 p = nI (fp PL p) := fun p hp => by
    rcases Nat.lt_or_ge p n with z | z
    · exact (hP p z).2.2.1
    · rw [show p = n by omega]; exact e12
  have hfle : ∀ p, p < n → fp PL p + (PL p).length ≤ 960 := fun p hp => by have := fp_up (PL := PL) hp; omega
  have hfil : ∀ p s, p < n → s < 20 → (PL p).filter (lowB s) = L p s := fun p s hp hs => by
    refine srt_uniq (srt_filter (hP p hp).1 _) (hL p s hp hs).2.1 (fun x => ?_)
    rw [List.mem_filter, (hP p hp).2.1 x, lowB_t, (hL p s hp hs).2.2 x]
  have hlenT : ∀ s p j, p < n → s ≤ 20 → (tl n L PL s p j).length < 1200 := fun s p j hp hs => by
    have h1 := tot_len hn (fun p s a b => (hL p s a b).1) (s := s) hs
    unfold tl
    rw [List.length_append]
    by_cases c : s < 20
    · rw [if_pos c, List.length_append, List.length_map]
      have h2 := elP_len (n := n) (L := L) (s := s) (fun p hp => (hL p s hp c).1) (p := p) (by omega)
      have h3 : (((PL p).take j).filter (lowB s)).length ≤ (L p s).length := by
        rw [← hfil p s hp c]
        conv => rhs; rw [← List.take_append_drop j (PL p), List.filter_append, List.length_append]
        omega
      have h4 := (hL p s hp c).1
      omega
    · rw [if_neg c, List.length_nil]; omega
  unfold wp_X10_sortLow w_X10_sortLow_4
  refine gl3b (N := 21) (i0 := 0) (fun K v1 v2 I => w_X10_sortLow_4b Po K v1 v2 I) (fun s v1 I' => ∃ T, T = (if s ≤ 20 then tot n L s else tot n L 20) ∧ v1 = nI T.length ∧ gSm [213, 214, 215] I I' ∧ elM T I' ∧ ∀ s', s' < s → s' ≤ 20 → I' 215 s' = nI (tot n L s').length) (by omega) (by omega) ⟨[], rfl, rfl, gSm_r I, fun i hi => absurd hi (Nat.not_lt_zero i), fun s' hs' => absurd hs' (by omega)⟩ ?_
  rintro s v1 I1 hs ⟨T, hT, rfl, g1, g2, g3⟩ K kk
  unfold w_X10_sortLow_4b
  refine pk_le 21 s (fun hz => ?_) (fun hz => ?_) rfl rfl
  · obtain rfl : s = 21 := by omega
    rw [if_neg (by omega)] at hT
    subst hT
    refine ⟨vp_in_nI (n := 21) (by decide) (by decide), ?_⟩
    rw [show ((21 : Int32)).toNatClampNeg = 21 from rfl]
    intro I3 e3
    refine hk I3 (by rw [e3]; exact gSm_u g1 (by decide)) (fun s' hs' => ?_) (by rw [e3, gup_at]) (fun i hi => ?_)
    · rw [e3, gup_ne (by omega)]; exact g3 s' (by omega) hs'
    · rw [e3, gup_o (by decide), gup_o (by decide)]; exact g2 i hi
  · rw [if_pos (by omega)] at hT
    refine ⟨vp_in_nI (by omega) (by decide), ?_⟩
    rw [nI_clamp (by omega)]
    intro I5 e5
    have k15 : ∀ s', s' < s + 1 → s' ≤ 20 → I5 215 s' = nI (tot n L s').length := fun s' h1 h2 => by
      by_cases e : s' = s
      · subst e; rw [e5, gup_at, hT]
      · rw [e5, gup_ne e]; exact g3 s' (by omega) h2
    unfold w_X10_sortLow_19
    refine gl3b (N := n) (i0 := 0) (fun K2 v1 v3 I => w_X10_sortLow_19b Po K K2 v1 (nI s) v3 I) (fun p v1 I' => ∃ T, T = tot n L s ++ (if s < 20 then elP L s p else []) ∧ v1 = nI T.length ∧ gSm [213, 214, 215] I I' ∧ elM T I' ∧ I' 215 = I5 215) (by omega) (by omega) ⟨T, by rw [hT]; split <;> simp [elP], rfl, by rw [e5]; exact gSm_u g1 (by decide), fun i hi => by rw [e5, gup_o (by decide), gup_o (by decide)]; exact g2 i hi, rfl⟩ ?_
    rintro p v1 I6 hp ⟨T6, hT6, rfl, o1, o2, o3⟩ K2 kk2
    have f11 : I6 200 11 = nI n := by rw [o1 200 (by decide)]; exact e11
    unfold w_X10_sortLow_19b
    refine pk_le n p (fun hz2 => ?_) (fun hz2 => ?_) f11 rfl
    · obtain rfl : p = n := by omega
      intro n7 e7
      rw [nI_1] at e7
      subst e7
      refine kk hz _ I6 ⟨T6, ?_, rfl, o1, o2, fun s' h1 h2 => by rw [o3]; exact k15 s' h1 h2⟩
      by_cases c : s < 20
      · rw [hT6, if_pos c, if_pos (by omega)]; rfl
      · rw [hT6, if_neg c, if_neg (by omega), List.append_nil, show s = 20 by omega]
    · have f12 : ∀ p', p' ≤ n → I6 212 p' = nI (fp PL p') := fun p' hp' => by rw [o1 212 (by decide)]; exact h12 p' hp'
      refine ⟨vp_in_nI (by omega) (by decide), ?_⟩
      rw [nI_clamp (by omega), f12 p (by omega)]
      intro n9 e9
      subst e9
      have hle := hfle p hz2
      unfold w_X10_sortLow_35
      refine gl3b (N := fp PL p + (PL p).length) (i0 := fp PL p) (fun K3 v1 v4 I => w_X10_sortLow_35b Po K K2 K3 v1 (nI s) (nI p) v4 I) (fun k v1 I' => fp PL p ≤ k ∧ v1 = nI (tl n L PL s p (k - fp PL p)).length ∧ gSm [213, 214, 215] I I' ∧ elM (tl n L PL s p (k - fp PL p)) I' ∧ I' 215 = I5 215) (by omega) (by omega) ⟨Nat.le_refl _, ?_, o1, ?_, o3⟩ ?_
      · unfold tl; rw [Nat.sub_self, hT6, List.take_zero]; simp
      · unfold tl; rw [Nat.sub_self, List.take_zero]; simp only [List.filter_nil, List.map_nil, List.append_nil]; rw [← hT6]; exact o2
      rintro k v1 I7 hk7 ⟨r0, rfl, r1, r2, r3⟩ K3 kk3
      have q12 : I7 212 (p + 1) = nI (fp PL p + (PL p).length) := by rw [r1 212 (by decide)]; exact h12 (p + 1) (by omega)
      unfold w_X10_sortLow_35b
      rw [nI_1, nI_clamp (by omega)]
      refine ⟨vp_in_nI (by omega) (by decide), pk_le (fp PL p + (PL p).length) k (fun hz3 => ?_) (fun hz3 => ?_) q12 rfl⟩
      · obtain rfl : k = fp PL p + (PL p).length := by omega
        rw [Nat.add_sub_cancel_left] at r2 ⊢
        intro n12 e12
        subst e12
        have et : tl n L PL s p (PL p).length = tot n L s ++ (if s < 20 then elP L s (p + 1) else []) := by
          unfold tl
          rw [List.take_length]
          by_cases c : s < 20
          · rw [if_pos c, if_pos c, hfil p s hz2 c]; rfl
          · rw [if_neg c, if_neg c]
        rw [et] at r2 ⊢
        exact kk2 hz2 _ I7 ⟨_, rfl, rfl, r1, r2, r3⟩
      · have hj : k - fp PL p < (PL p).length := by omega
        obtain ⟨y1, y2⟩ := (hP p hz2).2.2.2 (k - fp PL p) hj
        have f211 : I7 211 k = nI (gt0 (PL p) (k - fp PL p)) := by rw [r1 211 (by decide), ← y1]; congr 1; omega
        have nxt : ∀ (T' : List (Nat × Nat)) (I8 : gI), T' = tl n L PL s p (k + 1 - fp PL p) → gSm [213, 214, 215] I I8 → elM T' I8 → I8 215 = I5 215 → w_X10_sortLow_99 Po K K2 K3 (nI T'.length) (nI s) (nI p) (nI k) I8 := by
          intro T' I8 hT' z1 z2 z3
          unfold w_X10_sortLow_99
          intro n14 e14
          rw [nI_1] at e14
          subst e14 hT'
          exact kk3 hz3 _ I8 ⟨by omega, rfl, z1, z2, z3⟩
        have stp1 : tl n L PL s p (k + 1 - fp PL p) = if s < 20 ∧ lowB s (gt0 (PL p) (k - fp PL p)) = true then tl n L PL s p (k - fp PL p) ++ [(p, gt0 (PL p) (k - fp PL p))] else tl n L PL s p (k - fp PL p) := by
          unfold tl
          rw [show k + 1 - fp PL p = (k - fp PL p) + 1 by omega, take_s hj]
          by_cases c : s < 20
          · rw [if_pos c, if_pos c, List.filter_append, List.map_append]
            cases hb : lowB s (gt0 (PL p) (k - fp PL p)) with
            | true => rw [if_pos ⟨c, rfl⟩, List.filter_cons_of_pos hb]; simp
            | false => rw [if_neg (fun z => absurd z.2 (by decide)), List.filter_cons_of_neg (by rw [hb]; decide)]; simp
          · rw [if_neg c, if_neg c, if_neg (fun z => c z.1)]
        refine pk_le 20 s (fun hz4 => ?_) (fun hz4 => ?_) rfl rfl
        · exact nxt _ I7 (by rw [stp1, if_neg (fun z => by omega)]) r1 r2 r3
        · rw [nI_clamp (n := k) (by omega), f211]
          refine ⟨vp_in_nI (by omega) (by decide), vp_in_nI (by omega) (by decide), fun q => ?_, fun q => ?_⟩
          · refine nxt _ I7 (by rw [stp1, if_neg (fun z => q ((low_eq hz4).mpr (lowB_t.mp z.2)))]) r1 r2 r3
          · have hb := lowB_t.mpr ((low_eq hz4).mp q)
            have hlt := hlenT s p (k - fp PL p) hz2 (by omega)
            refine ⟨vp_in_nI (by omega) (by decide), vp_in_nI hlt (by decide), ?_⟩
            rw [nI_clamp (by omega)]
            intro I20 e20
            refine ⟨vp_in_nI hlt (by decide), ?_⟩
            intro I22 e22 n23 e23
            rw [nI_1] at e23
            have := nxt (tl n L PL s p (k - fp PL p) ++ [(p, gt0 (PL p) (k - fp PL p))]) I22 (by rw [stp1, if_pos ⟨hz4, hb⟩]) (by rw [e22, e20]; exact gSm_u (gSm_u r1 (by decide)) (by decide)) (fun i hi => ?_) (by rw [e22, gup_o (by decide), e20, gup_o (by decide)]; exact r3)
            · rw [e23]
              rw [List.length_append, List.length_singleton] at this
              exact this
            · rw [List.length_append, List.length_singleton] at hi
              by_cases c : i = (tl n L PL s p (k - fp PL p)).length
              · subst c
                rw [gp_at, e22, gup_at, gup_o (by decide), e20, gup_at]
                exact ⟨rfl, rfl, y2⟩
              · rw [gp_l (by omega), e22, gup_ne c, gup_o (by decide), e20, gup_ne c, gup_o (by decide)]
                exact r2 i (by omega)
