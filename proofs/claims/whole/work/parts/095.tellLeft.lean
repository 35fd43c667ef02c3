/-! the model: tellLeft -/
theorem or_gt {m M s : Nat} (h0 : M &&& m = 0) (hs : M.testBit s = true) : m < m ||| M := by
  have h1 : m ≤ m ||| M := Nat.left_le_or
  rcases Nat.lt_or_ge m (m ||| M) with z | z
  · exact z
  · exfalso
    have e : m ||| M = m := by omega
    have := and0.mp h0 s
    rw [hs, Bool.true_and] at this
    have h2 : (m ||| M).testBit s = true := by rw [Nat.testBit_or, hs, Bool.or_true]
    rw [e, this] at h2
    exact absurd h2 (by decide)
theorem nar8 : ∀ v, v < 128 → vp_nar .byte (nI v) = nI v ∧ (nI v).toInt8.toInt32 = nI v := by decide +kernel
theorem i_64_1 : (1 : Int64) = lN 1 := rfl
section
variable {n : Nat} {pc : Nat → Nat} {w h hs : Nat} {tu mr : Int32} {ver lv : Nat}
def tlC (k n hs : Nat) (L : Nat → Nat → List Nat) (t : Nat) (I : gI) : Prop := I 218 hs ≠ 0 ∧ ∀ m, hs ≤ m → m < t → I 218 m ≠ 0 → ∀ e, e ∈ elP L (ffr m) n → e.2 &&& m = 0 → I 218 (m ||| e.2) ≠ 0
def tlT (k n hs : Nat) (L : Nat → Nat → List Nat) (t : Nat) (I : gI) (J : gL) : Prop := ∀ m, t ≤ m → hs ≤ m → m < 2 ^ k → (I 218 m ≠ 0 ∨ m = 2 ^ k - 1) → J 216 m = lN (cv 1 k n (fun s => elP L s n) m 0).length ∧ I 217 m = nI (mnx 100 (cv 1 k n (fun s => elP L s n) m 0))
theorem p_tellLeft {I : gI} {J : gL} (hR : RelP n pc w h hs tu mr ver lv I) {I0 : gI} {L : Nat → Nat → List Nat} (hL : Lst n pc w h hs tu mr L I0) {Po : gI → gL → Prop}
    (hk : ∀ I' J', gSm [211, 212, 213, 214, 215, 217, 218] I I' → gJm [216] J J' → mEl n L I' → tlC (w * h) n hs L (2 ^ (w * h) - 1) I' → tlT (w * h) n hs L 0 I' J' → Po I' J') : wp_X10_tellLeft I J Po := by
  have hwh := RelP_wh hR
  have hn := hR.1.1
  have hO := Lst_lOk hR hL
  have hE := lOk_e hO
  have hhs := hR.1.2.2.2.2.2.1
  have hpk : 0 < 2 ^ (w * h) := Nat.pow_pos (by decide)
  have h20 : ∀ p s, p < n → s < 20 → (L p s).length ≤ 8 := fun p s hp hs => ((hL p hp).1 s hs).1
  unfold wp_X10_tellLeft
  refine p_places hR hL (fun I1 fpf g1 _ k3 k4 k5 => ?_)
  have hM1 : mEl n L I1 := ⟨k3, k4, k5⟩
  have hR1 := RelP_21 hR g1
  have sm1 : gSm [211, 212, 213, 214, 215, 217, 218] I I1 := gSm_w g1 (by decide)
  unfold wp_X10_cells
  rw [hR1.2.2.1.2.1, hR1.2.2.1.2.2.1, pk_mul, mk_pow _ (by omega), hR1.2.2.1.2.2.2.1]
  intro n3 e3
  subst e3
  have h15 : ∀ I' : gI, gSm [217, 218] I1 I' → I' 200 15 = nI hs := fun I' g => by rw [g 200 (by decide)]; exact hR1.2.2.1.2.2.2.1
  have mel : ∀ I' : gI, gSm [217, 218] I1 I' → mEl n L I' := fun I' g => mEl_k hM1 (g 213 (by decide)) (g 214 (by decide)) (g 215 (by decide))
  have elen : ∀ m, m < 2 ^ (w * h) → m ≠ 2 ^ (w * h) - 1 → (tot n L (ffr m)).length + (elP L (ffr m) n).length ≤ 960 ∧ ffr m < 20 ∧ (tot n L (ffr m + 1)).length = (tot n L (ffr m)).length + (elP L (ffr m) n).length := fun m hm hne => by
    have hs := ffr_lt hm hne
    have ht := tot_len hn h20 (s := ffr m + 1) (by omega)
    have et : (tot n L (ffr m + 1)).length = (tot n L (ffr m)).length + (elP L (ffr m) n).length := by
      show (tot n L (ffr m) ++ elP L (ffr m) n).length = _
      rw [List.length_append]
    exact ⟨by omega, by omega, et⟩
  -- an entry, by its place
  have ent : ∀ (I' : gI) (m j : Nat), gSm [217, 218] I1 I' → m < 2 ^ (w * h) → m ≠ 2 ^ (w * h) - 1 → j < (elP L (ffr m) n).length → I' 213 ((tot n L (ffr m)).length + j) = nI (gp (elP L (ffr m) n) j).2 ∧ gp (elP L (ffr m) n) j ∈ elP L (ffr m) n ∧ (gp (elP L (ffr m) n) j).2 < 2 ^ (w * h) := by
    intro I' m j g hm hne hj
    obtain ⟨q1, q2⟩ := gp_tot (n := n) (L := L) (s := ffr m) (by have := ffr_lt hm hne; omega) hj
    obtain ⟨c1, _, _⟩ := (mel I' g).2.2 _ q2
    rw [q1] at c1
    have hmem : gp (elP L (ffr m) n) j ∈ elP L (ffr m) n := by
      unfold gp
      rw [List.getD_eq_getElem?_getD, List.getElem?_eq_getElem hj]
      exact List.getElem_mem hj
    exact ⟨c1, hmem, (hE _ (ffr_lt hm hne) _ hmem).2.1⟩
  unfold w_X10_tellLeft_14
  refine gl2 (N := 2 ^ (w * h)) (i0 := hs) (fun K v I => w_X10_tellLeft_14b Po K (nI (2 ^ (w * h) - 1)) v I J) (fun m I' => hs ≤ m ∧ gSm [217, 218] I1 I' ∧ ∀ m', hs ≤ m' → m' < m → I' 218 m' = if m' = hs then 1 else 0) (by omega) (by omega) ⟨Nat.le_refl _, gSm_r I1, fun m' h1 h2 => by omega⟩ ?_
  rintro m I2 hm ⟨hm0, u1, u2⟩ K kk
  unfold w_X10_tellLeft_14b
  rw [h15 I2 u1]
  refine pk_lt (2 ^ (w * h) - 1) m (fun hz => ?_) (fun hz => ?_) rfl rfl
  · -- the second tour
    obtain rfl : m = 2 ^ (w * h) := by omega
    intro n5 e5
    subst e5
    unfold w_X10_tellLeft_49
    refine gl2 (N := 2 ^ (w * h) - 1) (i0 := hs) (fun K v I => w_X10_tellLeft_49b Po K (nI (2 ^ (w * h) - 1)) v I J) (fun m I' => hs ≤ m ∧ gSm [217, 218] I1 I' ∧ tlC (w * h) n hs L m I') (by omega) (by omega) ⟨Nat.le_refl _, u1, by rw [u2 hs (Nat.le_refl _) hhs, if_pos rfl]; decide, fun m' h1 h2 => by omega⟩ ?_
    rintro m I3 hm ⟨hm0, u3, u4⟩ K2 kk2
    unfold w_X10_tellLeft_49b
    refine pk_le (2 ^ (w * h) - 1) m (fun hz2 => ?_) (fun hz2 => ?_) rfl rfl
    · -- the third tour, downwards
      obtain rfl : m = 2 ^ (w * h) - 1 := by omega
      have epm : nI (2 ^ (w * h)) + (-1) = nI (2 ^ (w * h) - 1) := by
        obtain ⟨a, ha⟩ : ∃ a, 2 ^ (w * h) = a + 1 := ⟨2 ^ (w * h) - 1, by omega⟩
        rw [ha, pk_m1, Nat.add_sub_cancel]
      unfold w_X10_tellLeft_130
      refine gr3 (m0 := 2 ^ (w * h) - hs) (fun K v I J => w_X10_tellLeft_130b Po K (nI (2 ^ (w * h) - 1)) v I J) (fun r v I' J' => gSm [217, 218] I1 I' ∧ I' 218 = I3 218 ∧ gJm [216] J J' ∧ ∃ t, r + hs = t ∧ t ≤ 2 ^ (w * h) ∧ v = nI t + (-1) ∧ tlT (w * h) n hs L t I' J') ⟨u3, rfl, gJm_r J, 2 ^ (w * h), by omega, Nat.le_refl _, epm.symm, fun m' h1 h2 h3 => by omega⟩ ?_
      rintro r v I4 J4 ⟨o1, o2, o3, t, ht, ht2, rfl, o4⟩ K3 kk3
      unfold w_X10_tellLeft_130b
      rw [h15 I4 o1]
      by_cases hend : r = 0
      · have hlt : nI t + (-1) < nI hs := by
          rw [show t = hs by omega]
          cases hs with
          | zero => decide
          | succ a => rw [pk_m1]; exact (nI_ltI (by omega) (by omega)).mpr (by omega)
        refine ⟨fun _ => hk I4 J4 (gSm_t sm1 (gSm_w o1 (by decide))) o3 (mel I4 o1) ?_ (fun m' h1 h2 => o4 m' (by omega) h2), fun z => absurd hlt z⟩
        exact ⟨by rw [o2]; exact u4.1, by rw [o2]; exact u4.2⟩
      · obtain ⟨m, rfl⟩ : ∃ m, t = m + 1 := ⟨t - 1, by omega⟩
        rw [pk_m1]
        refine pk_lt m hs (fun z => by omega) (fun _ => ?_) rfl rfl
        -- what stands behind a round of the third tour
        have nxt : ∀ (I' : gI) (J' : gL), gSm [217, 218] I1 I' → I' 218 = I3 218 → gJm [216] J J' → (∀ m', m' ≠ m → I' 217 m' = I4 217 m' ∧ J' 216 m' = J4 216 m') → ((I3 218 m ≠ 0 ∨ m = 2 ^ (w * h) - 1) → J' 216 m = lN (cv 1 (w * h) n (fun s => elP L s n) m 0).length ∧ I' 217 m = nI (mnx 100 (cv 1 (w * h) n (fun s => elP L s n) m 0))) → w_X10_tellLeft_300 Po K3 (nI (2 ^ (w * h) - 1)) (nI m) I' J' := by
          intro I' J' y1 y2 y3 y4 y5
          unfold w_X10_tellLeft_300
          intro n15 e15
          subst e15
          refine kk3 (r - 1) _ _ _ (by omega) ⟨y1, y2, y3, m, by omega, by omega, rfl, fun m' h1 h2 h3 h4 => ?_⟩
          by_cases c : m' = m
          · subst c; rw [y2] at h4; exact y5 h4
          · obtain ⟨z1, z2⟩ := y4 m' c
            rw [z1, z2]
            rw [y2, ← o2] at h4
            exact o4 m' (by omega) h2 h3 h4
        have hm20 : m < 1048576 := by omega
        have body : ∀ (s0 : Nat) (d0 : Nat), (m = 2 ^ (w * h) - 1 ∧ s0 = 1 ∧ d0 = 0 ∨ m ≠ 2 ^ (w * h) - 1 ∧ s0 = 0 ∧ d0 = 100) → w_X10_tellLeft_153 Po K3 (nI (2 ^ (w * h) - 1)) (nI m) (lN s0) (nI m) I4 J4 := by
          intro s0 d0 hsd
          unfold w_X10_tellLeft_153
          refine ⟨vp_in_nI hm20 (by decide), ?_⟩
          rw [nI_clamp (by omega)]
          intro J10 e10
          have hd100 : d0 ≤ 100 := by rcases hsd with z | z <;> omega
          have b2 : w_X10_tellLeft_170 Po K3 (nI (2 ^ (w * h) - 1)) (nI m) (nI d0) (nI m) I4 J10 := by
            unfold w_X10_tellLeft_170
            refine ⟨vp_in_nI hm20 (by decide), ?_⟩
            rw [nI_clamp (by omega), (nar8 d0 (by omega)).2, (nar8 d0 (by omega)).1]
            intro I13 e13
            have s13 : gSm [217, 218] I1 I13 := by rw [e13]; exact gSm_u o1 (by decide)
            have c13 : I13 218 = I3 218 := by rw [e13, gup_o (by decide)]; exact o2
            have j10 : gJm [216] J J10 := by rw [e10]; exact gJm_u o3 (by decide)
            have k13 : ∀ m', m' ≠ m → I13 217 m' = I4 217 m' ∧ J10 216 m' = J4 216 m' := fun m' hne => ⟨by rw [e13, gup_ne hne], by rw [e10, gup_ne hne]⟩
            refine ⟨fun q => ?_, fun q => ?_⟩
            · have he : m = 2 ^ (w * h) - 1 := (nI_eq (by omega) (by omega)).mp q
              rcases hsd with ⟨_, z1, z2⟩ | ⟨z, _⟩
              · refine nxt I13 J10 s13 c13 j10 k13 (fun _ => ?_)
                rw [e13, e10, gup_at, gup_at, z1, z2, he, cv_end, if_neg (fun z => absurd z.1 (by decide))]
                exact ⟨rfl, rfl⟩
              · exact absurd he z
            · have hne : m ≠ 2 ^ (w * h) - 1 := fun e => q (by rw [e])
              obtain ⟨_, z1, z2⟩ : m ≠ 2 ^ (w * h) - 1 ∧ s0 = 0 ∧ d0 = 100 := by
                rcases hsd with ⟨z, _⟩ | z
                · exact absurd z hne
                · exact z
              rw [c13]
              refine ⟨vp_in_nI hm20 (by decide), fun q2 => nxt I13 J10 s13 c13 j10 k13 (fun z => ?_), fun q2 => ?_⟩
              · rcases z with z | z
                · exact absurd q2 z
                · exact absurd z hne
              · have hml : m < 2 ^ (w * h) := by omega
                obtain ⟨l1, l2, l3⟩ := elen m hml hne
                refine p_firstFree hm20 ⟨vp_in_nI (by omega) (by decide), ?_⟩
                rw [nI_clamp (by omega), (mel I13 s13).1 _ (by omega)]
                intro n20 e20
                subst e20
                have eb := enc_b (mode := 1) (used := 0) hO hwh.1 hn hml
                have hp7 := p7
                have hfull := cv_step (mode := 1) (used := 0) hE hwh.1 hml hne
                unfold w_X10_tellLeft_199
                refine gl3 (N := (tot n L (ffr m)).length + (elP L (ffr m) n).length) (i0 := (tot n L (ffr m)).length) (fun K v I J => w_X10_tellLeft_199b Po K3 K (nI (2 ^ (w * h) - 1)) (nI m) (nI (ffr m)) v I J) (fun v I' J' => gSm [217, 218] I1 I' ∧ I' 218 = I3 218 ∧ gJm [216] J J' ∧ (∀ m', m' ≠ m → I' 217 m' = I4 217 m' ∧ J' 216 m' = J4 216 m') ∧ ∃ j D, v = (tot n L (ffr m)).length + j ∧ D = ((elP L (ffr m) n).take j).flatMap (cvE 1 (w * h) n (fun s => elP L s n) m 0) ∧ J' 216 m = lN D.length ∧ I' 217 m = nI (mnx 100 D)) (by omega) (by omega) ⟨s13, c13, j10, k13, 0, [], rfl, by rw [List.take_zero]; rfl, by rw [e10, gup_at, z1]; rfl, by rw [e13, gup_at, z2]; rfl⟩ ?_
                rintro v I5 J5 hv ⟨y1, y2, y3, y4, j, D, rfl, hD, y5, y6⟩ K4 kk4
                unfold w_X10_tellLeft_199b
                rw [nI_1, nI_clamp (n := ffr m + 1) (by omega), (mel I5 y1).1 _ (by omega), l3]
                refine ⟨vp_in_nI (by omega) (by decide), pk_le _ _ (fun hz3 => ?_) (fun hz3 => ?_) rfl rfl⟩
                · have hj : j = (elP L (ffr m) n).length := by omega
                  rw [hj, List.take_length, ← hfull] at hD
                  refine nxt I5 J5 y1 y2 y3 y4 (fun _ => ?_)
                  rw [← hD]
                  exact ⟨y5, y6⟩
                · have hjl : j < (elP L (ffr m) n).length := by omega
                  obtain ⟨c1, hmem, c3⟩ := ent I5 m j y1 hml hne hjl
                  have tk : (elP L (ffr m) n).take (j + 1) = (elP L (ffr m) n).take j ++ [gp (elP L (ffr m) n) j] := by
                    rw [List.take_add_one, List.getElem?_eq_getElem hjl]
                    unfold gp
                    rw [List.getD_eq_getElem?_getD, List.getElem?_eq_getElem hjl]
                    rfl
                  have nx4 : ∀ (X : List Nat) (I' : gI) (J' : gL), X = cvE 1 (w * h) n (fun s => elP L s n) m 0 (gp (elP L (ffr m) n) j) → gSm [217, 218] I1 I' → I' 218 = I3 218 → gJm [216] J J' → (∀ m', m' ≠ m → I' 217 m' = I4 217 m' ∧ J' 216 m' = J4 216 m') → J' 216 m = lN (D ++ X).length → I' 217 m = nI (mnx 100 (D ++ X)) → w_X10_tellLeft_294 Po K3 K4 (nI (2 ^ (w * h) - 1)) (nI m) (nI (ffr m)) (nI ((tot n L (ffr m)).length + j)) I' J' := by
                    intro X I' J' hX x1 x2 x3 x4 x5 x6
                    unfold w_X10_tellLeft_294
                    intro n25 e25
                    rw [nI_1] at e25
                    subst e25
                    refine kk4 (by omega) I' J' ⟨x1, x2, x3, x4, j + 1, D ++ X, by omega, ?_, x5, x6⟩
                    rw [tk, List.flatMap_append, ← hD, hX]
                    simp
                  rw [nI_clamp (n := (tot n L (ffr m)).length + j) (by omega), c1, nI_and0 (by omega) (by omega)]
                  refine ⟨vp_in_nI (by omega) (by decide), fun q3 => ?_, fun q3 => ?_⟩
                  · have := nx4 [] I5 J5 (by unfold cvE; rw [if_neg (fun f => q3 f.1)]) y1 y2 y3 y4
                    rw [List.append_nil] at this
                    exact this y5 y6
                  · have hf : fit m 0 (gp (elP L (ffr m) n) j) := ⟨q3, Nat.zero_testBit _⟩
                    obtain ⟨a1, a2, a3⟩ := e_fr hE hml hne hmem hf
                    have hgt := or_gt q3 (hE _ (ffr_lt hml hne) _ hmem).2.2.1
                    rw [nI_or (by omega) (by omega)]
                    refine ⟨vp_in_nI (by omega) (by decide), ?_⟩
                    intro n27 e27
                    subst e27
                    have hcome : I3 218 (m ||| (gp (elP L (ffr m) n) j).2) ≠ 0 := u4.2 m (by omega) (by omega) q2 _ hmem q3
                    obtain ⟨ch1, ch2⟩ := o4 (m ||| (gp (elP L (ffr m) n) j).2) (by omega) (by omega) a1 (Or.inl (by rw [o2]; exact hcome))
                    obtain ⟨w1, w2⟩ := y4 (m ||| (gp (elP L (ffr m) n) j).2) (by omega)
                    have hXe : cvE 1 (w * h) n (fun s => elP L s n) m 0 (gp (elP L (ffr m) n) j) = (cv 1 (w * h) n (fun s => elP L s n) (m ||| (gp (elP L (ffr m) n) j).2) 0).map (· + 1) := by
                      unfold cvE
                      rw [if_pos hf]
                      rfl
                    have cle := cv_le' (mode := 1) (used := 0) hE hwh.1 a1
                    have cfr := fr_le (w * h) (m ||| (gp (elP L (ffr m) n) j).2)
                    have n4 := fun I' J' => nx4 _ I' J' hXe.symm
                    generalize cv 1 (w * h) n (fun s => elP L s n) (m ||| (gp (elP L (ffr m) n) j).2) 0 = cl at *
                    rw [List.length_append, List.length_map, mnx_app] at n4
                    rw [nI_clamp (n := m) (by omega), nI_clamp (n := m ||| (gp (elP L (ffr m) n) j).2) (by omega), y5, w2, ch1, lN_add]
                    refine ⟨vp_in_nI (by omega) (by decide), vp_in_nI (by omega) (by decide), vp_in_nI (by omega) (by decide), ?_⟩
                    intro J31 e31
                    have j31 : gJm [216] J J31 := by rw [e31]; exact gJm_u y3 (by decide)
                    have mle : ∀ l : List Nat, mnx 100 l ≤ 100 := fun l => by
                      induction l with
                      | nil => exact Nat.le_refl _
                      | cons x l ih => show min x (mnx 100 l) ≤ 100; omega
                    have mD := mle D
                    have mC := mle cl
                    have hmn : mnx 100 (cl.map (· + 1)) = min 100 (mnx 100 cl + 1) := by
                      by_cases e : cl = []
                      · subst e; decide
                      · have h1 := mnx_m (b := 100) e (fun d hd => by have := cle d hd; omega)
                        have h2 := (mnx_s (b := 100) (c := 99) e (fun d hd => by have := cle d hd; omega)).2.1
                        omega
                    rw [y6, w1, ch2, nI_1]
                    refine ⟨vp_in_nI (by omega) (by decide), vp_in_nI (by omega) (by decide), ?_⟩
                    have st293 : ∀ s : Nat, s = min (mnx 100 D) (min 100 (mnx 100 cl + 1)) → w_X10_tellLeft_293 Po K3 K4 (nI (2 ^ (w * h) - 1)) (nI m) (nI (ffr m)) (nI ((tot n L (ffr m)).length + j)) (nI s) (nI m) I5 J31 := by
                      intro s hs
                      unfold w_X10_tellLeft_293
                      refine ⟨vp_in_nI (by omega) (by decide), ?_⟩
                      rw [nI_clamp (by omega), (nar8 s (by omega)).1]
                      intro I37 e37
                      refine n4 I37 J31 (by rw [e37]; exact gSm_u y1 (by decide)) (by rw [e37, gup_o (by decide)]; exact y2) j31 (fun m' hne => ⟨by rw [e37, gup_ne hne]; exact (y4 m' hne).1, by rw [e31, gup_ne hne]; exact (y4 m' hne).2⟩) (by rw [e31, gup_at]) ?_
                      rw [e37, gup_at, hmn, hs]
                    refine pk_le (mnx 100 D) (mnx 100 cl + 1) (fun hz4 => ⟨vp_in_nI (by omega) (by decide), st293 _ (by omega)⟩) (fun hz4 => ⟨vp_in_nI (by omega) (by decide), ?_⟩) rfl rfl
                    rw [(nar8 (mnx 100 cl + 1) (by omega)).2]
                    exact st293 _ (by omega)
          rcases hsd with ⟨z, z1, z2⟩ | ⟨z, z1, z2⟩
          · refine ⟨fun q => absurd (by rw [z]) q, fun _ => ?_⟩
            rw [z2] at b2; exact b2
          · refine ⟨fun _ => ?_, fun q => absurd ((nI_eq (by omega) (by omega)).mp q) z⟩
            rw [z2] at b2; exact b2
        refine ⟨fun q => ?_, fun q => ?_⟩
        · exact body 0 100 (Or.inr ⟨fun e => q (by rw [e]), rfl, rfl⟩)
        · exact body 1 0 (Or.inl ⟨(nI_eq (by omega) (by omega)).mp q, rfl, rfl⟩)
    · have hml : m < 2 ^ (w * h) := by omega
      have hne : m ≠ 2 ^ (w * h) - 1 := by omega
      have nxt : ∀ I' : gI, gSm [217, 218] I1 I' → tlC (w * h) n hs L (m + 1) I' → w_X10_tellLeft_122 Po K2 (nI (2 ^ (w * h) - 1)) (nI m) I' J := by
        intro I' y1 y2
        unfold w_X10_tellLeft_122
        intro n41 e41
        rw [nI_1] at e41
        subst e41
        exact kk2 hz2 I' ⟨by omega, y1, y2⟩
      rw [nI_clamp (by omega)]
      refine ⟨vp_in_nI (by omega) (by decide), fun q => nxt I3 u3 ⟨u4.1, fun m' h1 h2 h3 => ?_⟩, fun q => ?_⟩
      · by_cases c : m' = m
        · subst c; exact absurd q h3
        · exact u4.2 m' h1 (by omega) h3
      · obtain ⟨l1, l2, l3⟩ := elen m hml hne
        refine p_firstFree (by omega) ⟨vp_in_nI (by omega) (by decide), ?_⟩
        rw [nI_clamp (by omega), (mel I3 u3).1 _ (by omega)]
        intro n44 e44
        subst e44
        unfold w_X10_tellLeft_76
        refine gl2 (N := (tot n L (ffr m)).length + (elP L (ffr m) n).length) (i0 := (tot n L (ffr m)).length) (fun K v I => w_X10_tellLeft_76b Po K2 K (nI (2 ^ (w * h) - 1)) (nI m) (nI (ffr m)) v I J) (fun v I' => gSm [217, 218] I1 I' ∧ tlC (w * h) n hs L m I' ∧ ∃ j, v = (tot n L (ffr m)).length + j ∧ ∀ j', j' < j → j' < (elP L (ffr m) n).length → (gp (elP L (ffr m) n) j').2 &&& m = 0 → I' 218 (m ||| (gp (elP L (ffr m) n) j').2) ≠ 0) (by omega) (by omega) ⟨u3, u4, 0, rfl, fun j' h1 => by omega⟩ ?_
        rintro v I5 hv ⟨y1, y2, j, rfl, y3⟩ K4 kk4
        unfold w_X10_tellLeft_76b
        rw [nI_1, nI_clamp (n := ffr m + 1) (by omega), (mel I5 y1).1 _ (by omega), l3]
        refine ⟨vp_in_nI (by omega) (by decide), pk_le _ _ (fun hz3 => ?_) (fun hz3 => ?_) rfl rfl⟩
        · refine nxt I5 y1 ⟨y2.1, fun m' h1 h2 h3 e he h4 => ?_⟩
          by_cases c : m' = m
          · subst c
            obtain ⟨i, hi, ei⟩ := List.mem_iff_getElem.mp he
            have hg : gp (elP L (ffr m') n) i = e := by
              unfold gp
              rw [List.getD_eq_getElem?_getD, List.getElem?_eq_getElem hi]
              exact ei
            have := y3 i (by omega) hi (by rw [hg]; exact h4)
            rw [hg] at this
            exact this
          · exact y2.2 m' h1 (by omega) h3 e he h4
        · have hjl : j < (elP L (ffr m) n).length := by omega
          obtain ⟨c1, hmem, c3⟩ := ent I5 m j y1 hml hne hjl
          have nx4 : ∀ I' : gI, gSm [217, 218] I1 I' → tlC (w * h) n hs L m I' → (∀ j', j' < j + 1 → j' < (elP L (ffr m) n).length → (gp (elP L (ffr m) n) j').2 &&& m = 0 → I' 218 (m ||| (gp (elP L (ffr m) n) j').2) ≠ 0) → w_X10_tellLeft_116 Po K2 K4 (nI (2 ^ (w * h) - 1)) (nI m) (nI (ffr m)) (nI ((tot n L (ffr m)).length + j)) I' J := by
            intro I' x1 x2 x3
            unfold w_X10_tellLeft_116
            intro n49 e49
            rw [nI_1] at e49
            subst e49
            exact kk4 (by omega) I' ⟨x1, x2, j + 1, by omega, x3⟩
          rw [nI_clamp (n := (tot n L (ffr m)).length + j) (by omega), c1, nI_and0 (by omega) (by omega)]
          refine ⟨vp_in_nI (by omega) (by decide), fun q3 => nx4 I5 y1 y2 (fun j' h1 h2 h3 => ?_), fun q3 => ?_⟩
          · by_cases c : j' = j
            · subst c; exact absurd h3 q3
            · exact y3 j' (by omega) h2 h3
          · have hol := or_lt hml c3
            rw [nI_or (by omega) (by omega), nI_clamp (by omega)]
            refine ⟨vp_in_nI (by omega) (by decide), vp_in_nI (by omega) (by decide), ?_⟩
            intro I52 e52
            have up : ∀ z, I5 218 z ≠ 0 → I52 218 z ≠ 0 := fun z hz => by
              rw [e52]
              by_cases c : z = m ||| (gp (elP L (ffr m) n) j).2
              · subst c; rw [gup_at]; decide
              · rw [gup_ne c]; exact hz
            have hgt := or_gt q3 (hE _ (ffr_lt hml hne) _ hmem).2.2.1
            refine nx4 I52 (by rw [e52]; exact gSm_u y1 (by decide)) ⟨up _ y2.1, fun m' h1 h2 h3 e he h4 => ?_⟩ (fun j' h1 h2 h3 => ?_)
            · refine up _ (y2.2 m' h1 h2 ?_ e he h4)
              rw [e52, gup_ne (by omega)] at h3
              exact h3
            · by_cases c : j' = j
              · subst c; rw [e52, gup_at]; decide
              · exact up _ (y3 j' (by omega) h2 h3)
  · have set : ∀ s0 : Int32, s0 = (if m = hs then 1 else 0) → w_X10_tellLeft_37 Po K (nI (2 ^ (w * h) - 1)) (nI m) s0 (nI m) I2 J := by
      intro s0 hs0
      unfold w_X10_tellLeft_37
      refine ⟨vp_in_nI (by omega) (by decide), ?_⟩
      rw [nI_clamp (by omega)]
      intro I55 e55 n56 e56
      rw [nI_1] at e56
      subst e56
      refine kk (by omega) I55 ⟨by omega, by rw [e55]; exact gSm_u u1 (by decide), fun m' h1 h2 => ?_⟩
      by_cases c : m' = m
      · subst c
        rw [e55, gup_at, hs0]
        split <;> rfl
      · rw [e55, gup_ne c]; exact u2 m' h1 (by omega)
    refine ⟨fun q => set 0 ?_, fun q => set 1 ?_⟩
    · rw [if_neg (fun e => q (by rw [e]))]
    · rw [if_pos ((nI_eq (by omega) (by omega)).mp q)]
end
