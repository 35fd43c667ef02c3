/-! listPlacements, countPlacements: the class -/
def plc (w h hs : Nat) (tu mr : Int32) (c M : Nat) : Prop := ∃ (mi : Bool) (q : Nat), q < 4 ∧ (tu = 0 → q = 0) ∧ (mr = 0 → mi = false) ∧ plW w h hs c mi q M
def LstP (w h hs : Nat) (tu mr : Int32) (c p : Nat) (L : Nat → List Nat) (I : gI) : Prop := lsM p L I ∧ ∀ s, s < 20 → srt (L s) ∧ ∀ x, x ∈ L s ↔ plc w h hs tu mr c x ∧ lowC x s
def Lst (n : Nat) (pc : Nat → Nat) (w h hs : Nat) (tu mr : Int32) (L : Nat → Nat → List Nat) (I : gI) : Prop := ∀ p, p < n → LstP w h hs tu mr (pc p) p (L p) I
def lsC : List Nat := [20, 23, 24, 25, 26, 27, 28, 30, 31, 32, 33, 34, 35, 36, 37]
theorem lsC_p {p : Nat} (hp : p < 6) : ∀ k, k ∈ [23 + p, 30 + p, 36, 37] → k ∈ lsC := fun k hk => by
  unfold lsC
  simp only [List.mem_cons, List.not_mem_nil, or_false] at hk ⊢
  omega
theorem LstP_k {w h hs : Nat} {tu mr : Int32} {c p : Nat} {L : Nat → List Nat} {I I' : gI} (h0 : LstP w h hs tu mr c p L I) (h1 : I' (30 + p) = I (30 + p)) (h2 : I' (23 + p) = I (23 + p)) : LstP w h hs tu mr c p L I' := ⟨lsM_k h0.1 h1 h2, h0.2⟩
section
variable {n : Nat} {pc : Nat → Nat} {w h hs : Nat} {tu mr : Int32} {ver lv : Nat}
theorem RelP_ls {I I' : gI} (hR : RelP n pc w h hs tu mr ver lv I) (g : gSm lsC I I') (h20 : ∀ j, j < 8 → I' 20 j = I 20 j) : RelP n pc w h hs tu mr ver lv I' := RelP_k hR h20 (g 21 (by decide)) (fun j _ => by rw [g 200 (by decide)]) (g 210 (by decide))
theorem p_listP {I : gI} (hR : RelP n pc w h hs tu mr ver lv I) (hver : ver < 1073741824) {L : Nat → Nat → List Nat} (hL : lv = ver → Lst n pc w h hs tu mr L I) {Po : gI → Prop} (hk : ∀ I' L', gSm lsC I I' → RelP n pc w h hs tu mr ver ver I' → Lst n pc w h hs tu mr L' I' → (lv = ver → L' = L) → Po I') : wp_X4_listPlacements I Po := by
  have hR0 := hR
  obtain ⟨⟨hn, hw1, hw2, hh1, hh2, hhs, htu, hmr, hlv⟩, ⟨b0, b1, b2, b3, b4, b5, b6, b7⟩, ⟨c0, c1, c2, c3, c4, c5⟩, d⟩ := hR
  unfold wp_X4_listPlacements
  rw [b7, b4]
  refine ⟨fun q => ?_, fun q => ?_⟩
  · intro I2 e2
    have hR2 : RelP n pc w h hs tu mr ver ver I2 := by
      have o : ∀ j, j ≠ 7 → I2 20 j = I 20 j := fun j hj => by rw [e2, gup_ne hj]
      refine ⟨⟨hn, hw1, hw2, hh1, hh2, hhs, htu, hmr, Nat.le_refl _⟩, ⟨?_, ?_, ?_, ?_, ?_, ?_, ?_, ?_⟩, ⟨?_, ?_, ?_, ?_, ?_, ?_⟩, fun p hp => ?_⟩
      · rw [o 0 (by decide)]; exact b0
      · rw [o 1 (by decide)]; exact b1
      · rw [o 2 (by decide)]; exact b2
      · rw [o 3 (by decide)]; exact b3
      · rw [o 4 (by decide)]; exact b4
      · rw [o 5 (by decide)]; exact b5
      · rw [o 6 (by decide)]; exact b6
      · rw [e2, gup_at]
      · rw [e2, gup_o (by decide)]; exact c0
      · rw [e2, gup_o (by decide)]; exact c1
      · rw [e2, gup_o (by decide)]; exact c2
      · rw [e2, gup_o (by decide)]; exact c3
      · rw [e2, gup_o (by decide)]; exact c4
      · rw [e2, gup_o (by decide)]; exact c5
      · rw [e2, gup_o (by decide), gup_o (by decide)]; exact d p hp
    have sm2 : gSm lsC I I2 := by rw [e2]; exact gSm_u (gSm_r I) (by decide)
    unfold w_X4_listPlacements_22
    refine gl2 (N := n) (i0 := 0) (fun K v I => w_X4_listPlacements_22b Po K v I) (fun p I' => gSm lsC I I' ∧ I' 20 = I2 20 ∧ ∃ L' : Nat → Nat → List Nat, ∀ p', p' < p → LstP w h hs tu mr (pc p') p' (L' p') I') (by omega) (by omega) ⟨sm2, rfl, L, fun p' hp' => absurd hp' (by omega)⟩ ?_
    rintro p I3 hp ⟨k1, k2, L3, k3⟩ K kk
    have hR3 : RelP n pc w h hs tu mr ver ver I3 := RelP_k hR2 (fun j _ => by rw [k2]) (by rw [k1 21 (by decide), sm2 21 (by decide)]) (fun j _ => by rw [k1 200 (by decide), sm2 200 (by decide)]) (by rw [k1 210 (by decide), sm2 210 (by decide)])
    unfold w_X4_listPlacements_22b
    refine pk_le n p (fun hz => ?_) (fun hz => ?_) hR3.2.1.1 rfl
    · obtain rfl : p = n := by omega
      exact hk I3 L3 k1 hR3 k3 (fun e => absurd (by rw [e]) q)
    · refine ⟨vp_in_nI (by omega) (by decide), ?_⟩
      rw [nI_clamp (by omega)]
      refine p_fillI (by decide) (fun I4 f1 f2 _ => ?_)
      have hp6 : p < 6 := by omega
      have ne30 : ∀ k, k ≠ 30 + p → I4 k = I3 k := f1
      have st : gSm [23 + p, 30 + p, 36, 37] I3 I4 := fun k hk => f1 k (fun e => hk (by rw [e]; simp))
      unfold w_X4_listPlacements_42
      -- the ways before the quarters q
      refine gl2 (N := 4) (i0 := 0) (fun K2 v I => w_X4_listPlacements_42b Po K K2 (nI p) v I) (fun q I' => gSm [23 + p, 30 + p, 36, 37] I3 I' ∧ ∃ L' : Nat → List Nat, lsM p L' I' ∧ ∀ s, s < 20 → srt (L' s) ∧ (L' s).length ≤ 2 * q ∧ (∀ x, x ∈ L' s ↔ ∃ (mi : Bool) (q' : Nat), q' < q ∧ (mr = 0 → mi = false) ∧ plW w h hs (pc p) mi q' x ∧ lowC x s) ∧ (tu = 0 → q ≤ 1)) (by omega) (by omega) ⟨st, fun _ => [], fun s hs => ⟨by simp, by rw [f2 s hs]; rfl, fun i hi => absurd hi (Nat.not_lt_zero i)⟩, fun s hs => ⟨fun i j _ hj => absurd hj (Nat.not_lt_zero j), by simp, fun x => ⟨fun z => (by cases z), fun ⟨_, _, z, _⟩ => absurd z (by omega)⟩, fun _ => by omega⟩⟩ ?_
      rintro q I5 hq ⟨o1, L5, o2, o3⟩ K2 kk2
      have nin : ∀ k, k ≠ 23 + p → k ≠ 30 + p → k ≠ 36 → k ≠ 37 → k ∉ [23 + p, 30 + p, 36, 37] := fun k h1 h2 h3 h4 => by simp only [List.mem_cons, List.not_mem_nil, or_false]; omega
      have keep : ∀ I' : gI, gSm [23 + p, 30 + p, 36, 37] I3 I' → RelP n pc w h hs tu mr ver ver I' := fun I' g => RelP_k hR3 (fun j _ => by rw [g 20 (nin _ (by omega) (by omega) (by omega) (by omega))]) (g 21 (nin _ (by omega) (by omega) (by omega) (by omega))) (fun j _ => by rw [g 200 (nin _ (by omega) (by omega) (by omega) (by omega))]) (g 210 (nin _ (by omega) (by omega) (by omega) (by omega)))
      have hR5 := keep I5 o1
      unfold w_X4_listPlacements_42b
      have endq : (q = 4 ∨ tu = 0 ∧ q = 1) → ∀ n8 : Int32, n8 = nI p + 1 → K n8 I5 := by
        intro he n8 e8
        rw [nI_1] at e8
        subst e8
        refine kk hz I5 ⟨gSm_t k1 (gSm_w o1 (lsC_p hp6)), by rw [o1 20 (nin _ (by omega) (by omega) (by omega) (by omega))]; exact k2, fun p' => if p' = p then L5 else L3 p', fun p' hp' => ?_⟩
        show LstP w h hs tu mr (pc p') p' (if p' = p then L5 else L3 p') I5
        by_cases e : p' = p
        · subst e
          rw [if_pos rfl]
          refine ⟨o2, fun s hs => ⟨(o3 s hs).1, fun x => ((o3 s hs).2.2.1 x).trans ?_⟩⟩
          constructor
          · rintro ⟨mi, q', z1, z2, z3, z4⟩
            refine ⟨⟨mi, q', by omega, fun zt => ?_, z2, z3⟩, z4⟩
            have := (o3 s hs).2.2.2 zt
            omega
          · rintro ⟨⟨mi, q', z1, zt, z2, z3⟩, z4⟩
            refine ⟨mi, q', ?_, z2, z3, z4⟩
            rcases he with e4 | ⟨et, e1⟩
            · omega
            · have := zt et; omega
        · rw [if_neg e]
          exact LstP_k (k3 p' (by omega)) (o1 _ (nin _ (by omega) (by omega) (by omega) (by omega))) (o1 _ (nin _ (by omega) (by omega) (by omega) (by omega)))
      have goq : q < 4 → (tu = 0 → q = 0) → wp_X4_listWay (nI p) (0 : Int32) (nI q) I5 (fun I9 => ((I9 20 6) = 0 → w_X4_listPlacements_79 Po K K2 (nI p) (nI q) I9) ∧ (¬ (I9 20 6) = 0 → wp_X4_listWay (nI p) (1 : Int32) (nI q) I9 (fun I12 => w_X4_listPlacements_79 Po K K2 (nI p) (nI q) I12))) := by
        intro hq4 htq
        refine p_listWay hR5 hz (mi := false) (by omega) ⟨fun _ => rfl, fun _ => rfl⟩ o2 (fun s hs => (o3 s hs).1) (t := 2 * q) (by omega) (fun s hs => (o3 s hs).2.1) (fun I9 L9 r1 r2 r3 => ?_)
        have hR9 := keep I9 (gSm_t o1 r1)
        rw [hR9.2.1.2.2.2.2.2.2.1]
        have nxt : ∀ (I' : gI) (L' : Nat → List Nat), gSm [23 + p, 30 + p, 36, 37] I3 I' → lsM p L' I' → (∀ s, s < 20 → srt (L' s) ∧ (L' s).length ≤ 2 * (q + 1) ∧ ∀ x, x ∈ L' s ↔ ∃ (mi : Bool) (q' : Nat), q' < q + 1 ∧ (mr = 0 → mi = false) ∧ plW w h hs (pc p) mi q' x ∧ lowC x s) → w_X4_listPlacements_79 Po K K2 (nI p) (nI q) I' := by
          intro I' L' z1 z2 z3
          unfold w_X4_listPlacements_79
          intro n11 e11
          rw [nI_1] at e11
          subst e11
          exact kk2 hq4 I' ⟨z1, L', z2, fun s hs => ⟨(z3 s hs).1, (z3 s hs).2.1, (z3 s hs).2.2, fun zt => by have := htq zt; omega⟩⟩
        refine ⟨fun q6 => nxt I9 L9 (gSm_t o1 r1) r2 (fun s hs => ⟨(r3 s hs).1, by have := (r3 s hs).2.1; omega, fun x => ?_⟩), fun q6 => ?_⟩
        · rw [(r3 s hs).2.2 x, (o3 s hs).2.2.1 x]
          constructor
          · rintro (⟨mi, q', z1, z2⟩ | ⟨z3, z4⟩)
            · exact ⟨mi, q', by omega, z2⟩
            · exact ⟨false, q, by omega, fun _ => rfl, z3, z4⟩
          · rintro ⟨mi, q', z1, z2, z3, z4⟩
            by_cases e : q' = q
            · subst e
              rw [z2 q6] at z3
              exact Or.inr ⟨z3, z4⟩
            · exact Or.inl ⟨mi, q', by omega, z2, z3, z4⟩
        · refine p_listWay hR9 hz (mi := true) (by omega) ⟨fun z => absurd z one_ne, fun z => absurd z (by decide)⟩ r2 (fun s hs => (r3 s hs).1) (t := 2 * q + 1) (by omega) (fun s hs => (r3 s hs).2.1) (fun I12 L12 u1 u2 u3 => ?_)
          refine nxt I12 L12 (gSm_t (gSm_t o1 r1) u1) u2 (fun s hs => ⟨(u3 s hs).1, by have := (u3 s hs).2.1; omega, fun x => ?_⟩)
          rw [(u3 s hs).2.2 x, (r3 s hs).2.2 x, (o3 s hs).2.2.1 x]
          constructor
          · rintro ((⟨mi, q', z1, z2⟩ | ⟨z3, z4⟩) | ⟨z3, z4⟩)
            · exact ⟨mi, q', by omega, z2⟩
            · exact ⟨false, q, by omega, fun _ => rfl, z3, z4⟩
            · exact ⟨true, q, by omega, fun z => absurd z q6, z3, z4⟩
          · rintro ⟨mi, q', z1, z2, z3, z4⟩
            by_cases e : q' = q
            · subst e
              cases hm : mi with
              | false => rw [hm] at z3; exact Or.inl (Or.inr ⟨z3, z4⟩)
              | true => rw [hm] at z3; exact Or.inr ⟨z3, z4⟩
            · exact Or.inl (Or.inl ⟨mi, q', by omega, z2, z3, z4⟩)
      rw [hR5.2.1.2.2.2.2.2.1]
      have tq1 : tu = 0 → q ≤ 1 := fun zt => (o3 0 (by decide)).2.2.2 zt
      refine ⟨fun q5 => ?_, fun q5 => ?_⟩
      · unfold w_X4_listPlacements_55
        exact pk_le 1 q (fun z => endq (Or.inr ⟨q5, by have := tq1 q5; omega⟩)) (fun z => goq (by omega) (fun _ => by omega)) rfl rfl
      · unfold w_X4_listPlacements_55
        exact pk_le 4 q (fun z => endq (Or.inl (by omega))) (fun z => goq z (fun zt => absurd zt q5)) rfl rfl
  · obtain rfl : lv = ver := (nI_eq (by omega) (by omega)).mp q
    exact hk I L (gSm_r I) hR0 (hL rfl) (fun _ => rfl)
/-- the PLACEMENTS of a piece, cell after cell -/
def plN (L : Nat → List Nat) : Nat → Nat
  | 0 => 0
  | s + 1 => plN L s + (L s).length
theorem p_countP {I : gI} (hR : RelP n pc w h hs tu mr ver lv I) (hver : ver < 1073741824) {L : Nat → Nat → List Nat} (hL : lv = ver → Lst n pc w h hs tu mr L I) {p : Nat} (hp : p < n) {Po : Int32 → gI → Prop} (hk : ∀ I' L', gSm lsC I I' → RelP n pc w h hs tu mr ver ver I' → Lst n pc w h hs tu mr L' I' → (lv = ver → L' = L) → Po (nI (plN (L' p) 20)) I') : wp_X4_countPlacements (nI p) I Po := by
  have hn := hR.1.1
  unfold wp_X4_countPlacements
  refine p_listP hR hver hL (fun I1 L1 g1 hR1 hL1 hLe => ?_)
  unfold w_X4_countPlacements_8
  refine gl2b (N := 20) (i0 := 0) (fun K a v => w_X4_countPlacements_8b Po K (nI p) a v I1) (fun s a => a = nI (plN (L1 p) s)) (by omega) (by omega) rfl ?_
  rintro s a hs rfl K kk
  unfold w_X4_countPlacements_8b
  refine pk_le 20 s (fun hz => ?_) (fun hz => ?_) rfl rfl
  · obtain rfl : s = 20 := by omega
    exact hk I1 L1 g1 hR1 hL1 hLe
  · refine ⟨vp_in_nI (by omega) (by decide), vp_in_nI (by omega) (by decide), ?_⟩
    rw [nI_clamp (by omega), nI_clamp (by omega), ((hL1 p hp).1 s hz).2.1, nI_add]
    intro n5 e5 n6 e6
    rw [nI_1] at e6
    subst e5 e6
    exact kk hz _ rfl
end
