/-! the model: leads, cover -/
def cvS (I0 : gI) (J0 : gL) (I : gI) (J : gL) : Prop := skK I0 I ∧ gJm [200] J0 J
theorem skK_t {I I1 I2 : gI} (h1 : skK I I1) (h2 : skK I1 I2) : skK I I2 := ⟨gSm_t h1.1 h2.1, fun j hj => (h2.2 j hj).trans (h1.2 j hj)⟩
section
variable {n : Nat} {pc : Nat → Nat} {w h hs : Nat} {tu mr : Int32} {ver lv : Nat}
theorem RelP_sk {I I' : gI} (hR : RelP n pc w h hs tu mr ver lv I) (g : skK I I') : RelP n pc w h hs tu mr ver lv I' := RelP_k hR (fun j _ => by rw [g.1 20 (by decide)]) (g.1 21 (by decide)) (fun j hj => g.2 j (by omega)) (g.1 210 (by decide))
def rch (mode k hs m : Nat) (I0 : gI) : Prop := mode = 1 → hs ≤ m ∧ (I0 218 m ≠ 0 ∨ m = 2 ^ k - 1)
theorem p_leads {I0 : gI} {J0 : gL} (hR : RelP n pc w h hs tu mr ver lv I0) {L : Nat → Nat → List Nat} (hO : lOk (w * h) n (szP pc) L) (h20 : ∀ p s, p < n → s < 20 → (L p s).length ≤ 8) (hM : mEl n L I0) {mode : Nat} (hmo : mode < 3) (hT : mode = 1 → tlT (w * h) n hs L 0 I0 J0) {I : gI} {J : gL} (hS : cvS I0 J0 I J) {m u : Nat} (hm : m < 2 ^ (w * h)) (hu : u < 2 ^ n) (hr : rch mode (w * h) hs m I0) {Po : Int32 → gI → gL → Prop}
    (h1 : cv mode (w * h) n (fun s => elP L s n) m (if mode = 1 then 0 else u) ≠ [] → ∀ I' J', cvS I0 J0 I' J' → Po 1 I' J') (h0 : cv mode (w * h) n (fun s => elP L s n) m (if mode = 1 then 0 else u) = [] → ∀ I' J', cvS I0 J0 I' J' → Po 0 I' J') : wp_X10_leads (nI mode) (nI m) (nI u) I J Po := by
  have hwh := RelP_wh hR
  have hn := hR.1.1
  have hp7 := p7
  have lnz : ∀ l : List Nat, l ≠ [] → 1 ≤ l.length := fun l hl => by
    rcases Nat.eq_zero_or_pos l.length with z | z
    · exact absurd (List.eq_nil_of_length_eq_zero z) hl
    · exact z
  unfold wp_X10_leads
  refine ⟨fun q => ?_, fun q => ?_⟩
  · have hm1 : mode ≠ 1 := fun e => q (by rw [e]; rfl)
    rw [if_neg hm1] at h1 h0
    have eb := enc_b (mode := mode) (used := u) hO hwh.1 hn hm
    have sk : ∀ a3 : Int32, (a3 = 0 ↔ mode ≠ 0) → w_X10_leads_34 Po a3 (nI u) (nI m) I J := by
      intro a3 ha
      unfold w_X10_leads_34
      refine p_seek (RelP_sk hR hS.1) hO h20 (mEl_k hM (hS.1.1 213 (by decide)) (hS.1.1 214 (by decide)) (hS.1.1 215 (by decide))) hm1 ha hm hu (fun I1 J1 k1 k2 k3 k4 => ?_)
      have hS1 : cvS I0 J0 I1 J1 := ⟨skK_t hS.1 k1, gJm_t hS.2 k2⟩
      rw [k3]
      refine ⟨fun q2 => h0 ?_ I1 J1 hS1, fun q2 => h1 ?_ I1 J1 hS1⟩
      · apply Classical.byContradiction
        intro hne
        have := lnz _ hne
        have hle : lN (cv mode (w * h) n (fun s => elP L s n) m u).length ≤ lN 0 := (lg_cmp_le _ _).mp q2
        have := (pk_lLE (by omega) (by decide)).mp hle
        omega
      · intro e
        rw [e] at q2
        exact q2 (by decide)
    refine ⟨fun q2 => sk 0 ⟨fun _ e => q2 (by rw [e]; rfl), fun _ => rfl⟩, fun q2 => sk 1 ⟨fun z => absurd z one_ne, fun z => absurd ((nI_eq (b := 0) (by omega) (by decide)).mp q2) z⟩⟩
  · have hm1 : mode = 1 := (nI_eq (b := 1) (by omega) (by decide)).mp q
    rw [if_pos hm1] at h1 h0
    obtain ⟨r1, r2⟩ := hr hm1
    have ht := (hT hm1 m (Nat.zero_le _) r1 hm r2).1
    rw [hm1] at h1 h0
    have eb := enc_b (mode := 1) (used := 0) hO hwh.1 hn hm
    rw [nI_clamp (by omega), show J 216 = J0 216 from hS.2 216 (by decide), ht]
    refine ⟨vp_in_nI (by omega) (by decide), fun q2 => h0 ?_ I J hS, fun q2 => h1 ?_ I J hS⟩
    · have := (pk_lEQ (b := 0) (by omega) (by decide)).mp ((lg_cmp_eq _ _).mp q2)
      exact List.eq_nil_of_length_eq_zero this
    · intro e
      rw [e] at q2
      exact q2 ((lg_cmp_eq _ _).mpr rfl)
theorem p_coverM {I0 : gI} {J0 : gL} (hR : RelP n pc w h hs tu mr ver lv I0) {L : Nat → Nat → List Nat} (hO : lOk (w * h) n (szP pc) L) (h20 : ∀ p s, p < n → s < 20 → (L p s).length ≤ 8) (hM : mEl n L I0) {mode : Nat} (hmo : mode < 3) (hC : mode = 1 → tlC (w * h) n hs L (2 ^ (w * h) - 1) I0) (hT : mode = 1 → tlT (w * h) n hs L 0 I0 J0) {x y : Nat} (hx : x < w) (hy : y < h) (hb : hs.testBit (w * y + x) = false) (a4 : Int32) {Po : Int32 → gI → gL → Prop}
    (hno : lcv mode (w * h) n (fun s => elP L s n) (w * y + x) hs 0 = none → ∀ I' J', cvS I0 J0 I' J' → Po (-1) I' J')
    (hyes : ∀ e, lcv mode (w * h) n (fun s => elP L s n) (w * y + x) hs 0 = some e → ∀ I' J', cvS I0 J0 I' J' → Po (if a4 = 0 then nI e.1 else nI e.2) I' J') : w_X10_cover_87 Po (nI mode) (nI x) (nI y) a4 I0 J0 := by
  have hwh := RelP_wh hR
  have hn := hR.1.1
  have hE := lOk_e hO
  have hhs := hR.1.2.2.2.2.2.1
  have h64 : 2 ^ n ≤ 2 ^ 6 := Nat.pow_le_pow_right (by decide) hn
  have hp0 : 0 < 2 ^ n := Nat.pow_pos (by decide)
  have hpk : 0 < 2 ^ (w * h) := Nat.pow_pos (by decide)
  have hcell : w * y + x < w * h := by
    have : w * (y + 1) ≤ w * h := Nat.mul_le_mul_left w hy
    rw [Nat.mul_add, Nat.mul_one] at this
    omega
  -- if something is left to find, there is a first choice
  have first : ∀ m u, m < 2 ^ (w * h) → m ≠ 2 ^ (w * h) - 1 → (fst mode (w * h) n (fun s => elP L s n) m u = none ↔ cv mode (w * h) n (fun s => elP L s n) m u = []) := by
    intro m u hm hne
    rw [cv_step (mode := mode) (used := u) hE hwh.1 hm hne]
    unfold fst
    rw [List.find?_eq_none, List.flatMap_eq_nil_iff]
    constructor
    · intro hh e he
      have := hh e he
      cases hc : cvE mode (w * h) n (fun s => elP L s n) m u e with
      | nil => rfl
      | cons a l => rw [hc] at this; exact absurd rfl this
    · intro hh e he
      rw [hh e he]
      decide
  have hsne : hs ≠ 2 ^ (w * h) - 1 := fun e => by
    rw [e, Nat.testBit_two_pow_sub_one, decide_eq_true hcell] at hb
    exact absurd hb (by decide)
  have hS0 : cvS I0 J0 I0 J0 := ⟨⟨gSm_r I0, fun _ _ => rfl⟩, gJm_r J0⟩
  unfold w_X10_cover_87
  rw [hR.2.2.1.2.2.2.1]
  intro n12 e12
  subst e12
  refine p_leads hR hO h20 hM hmo hT hS0 (u := 0) hhs hp0 (fun z => ⟨Nat.le_refl _, Or.inl (hC z).1⟩) (fun hne I1 J1 hS1 => ⟨fun _ => ?_, fun z => absurd z one_ne⟩) (fun he I1 J1 hS1 => ⟨fun z => absurd rfl z, fun _ => hno (lcv_none ((first hs 0 hhs hsne).mpr (by rw [ite_self] at he; exact he))) I1 J1 hS1⟩)
  rw [ite_self] at hne
  unfold w_X10_cover_110
  refine gr4 (m0 := frN (w * h) hs) (fun K v5 v6 I J => w_X10_cover_110b Po K (nI mode) (nI x) (nI y) a4 v5 v6 I J) (fun r v5 v6 I' J' => cvS I0 J0 I' J' ∧ ∃ m u, v5 = nI m ∧ v6 = nI u ∧ r = frN (w * h) m ∧ m < 2 ^ (w * h) ∧ u < 2 ^ n ∧ m.testBit (w * y + x) = false ∧ rch mode (w * h) hs m I0 ∧ cv mode (w * h) n (fun s => elP L s n) m (if mode = 1 then 0 else u) ≠ [] ∧ lcv mode (w * h) n (fun s => elP L s n) (w * y + x) hs 0 = lcv mode (w * h) n (fun s => elP L s n) (w * y + x) m (if mode = 1 then 0 else u)) ⟨hS1, hs, 0, rfl, rfl, rfl, hhs, hp0, hb, fun z => ⟨Nat.le_refl _, Or.inl (hC z).1⟩, by rw [ite_self]; exact hne, by rw [ite_self]⟩ ?_
  rintro r v5 v6 I2 J2 ⟨hS2, m, u, rfl, rfl, rfl, hm, hu, hbm, hrc, hcv, hlc⟩ K kk
  have hmne : m ≠ 2 ^ (w * h) - 1 := fun e => by
    rw [e, Nat.testBit_two_pow_sub_one, decide_eq_true hcell] at hbm
    exact absurd hbm (by decide)
  have hs20 := ffr_lt hm hmne
  have ht := tot_len hn h20 (s := ffr m + 1) (by omega)
  have et : (tot n L (ffr m + 1)).length = (tot n L (ffr m)).length + (elP L (ffr m) n).length := by
    show (tot n L (ffr m) ++ elP L (ffr m) n).length = _
    rw [List.length_append]
  have mel : ∀ I' J', cvS I0 J0 I' J' → mEl n L I' := fun I' J' g => mEl_k hM (g.1.1 213 (by decide)) (g.1.1 214 (by decide)) (g.1.1 215 (by decide))
  have hsu : (if mode = 1 then 0 else u) < 2 ^ n := by split <;> omega
  unfold w_X10_cover_110b
  refine p_firstFree (by omega) ⟨vp_in_nI (by omega) (by decide), ?_⟩
  rw [nI_clamp (by omega), (mel I2 J2 hS2).1 _ (by omega)]
  -- the search of the first choice, from entry j on
  have fin139 : ∀ j, j ≤ (elP L (ffr m) n).length → (∀ j', j' < j → cvE mode (w * h) n (fun s => elP L s n) m (if mode = 1 then 0 else u) (gp (elP L (ffr m) n) j') = []) → (j < (elP L (ffr m) n).length → fit m (if mode = 1 then 0 else u) (gp (elP L (ffr m) n) j)) → ∀ I3 J3, cvS I0 J0 I3 J3 → w_X10_cover_139 Po K (nI mode) (nI x) (nI y) a4 (nI m) (nI u) (nI ((tot n L (ffr m)).length + j)) I3 J3 := by
    intro j hj hpre hfj I3 J3 hS3
    unfold w_X10_cover_139
    refine gr3 (m0 := (elP L (ffr m) n).length - j) (fun K2 v7 I J => w_X10_cover_139b Po K K2 (nI mode) (nI x) (nI y) a4 (nI m) (nI u) v7 I J) (fun r v7 I' J' => cvS I0 J0 I' J' ∧ ∃ j, v7 = nI ((tot n L (ffr m)).length + j) ∧ r + j = (elP L (ffr m) n).length ∧ (∀ j', j' < j → cvE mode (w * h) n (fun s => elP L s n) m (if mode = 1 then 0 else u) (gp (elP L (ffr m) n) j') = []) ∧ (j < (elP L (ffr m) n).length → fit m (if mode = 1 then 0 else u) (gp (elP L (ffr m) n) j))) ⟨hS3, j, rfl, by omega, hpre, hfj⟩ ?_
    rintro r v7 I4 J4 ⟨hS4, j, rfl, hrj, hpre, hfj⟩ K2 kk2
    -- it can't have passed by
    have hjl : j < (elP L (ffr m) n).length := by
      rcases Nat.lt_or_ge j (elP L (ffr m) n).length with z | z
      · exact z
      · exfalso
        apply hcv
        rw [cv_step (mode := mode) (used := if mode = 1 then 0 else u) hE hwh.1 hm hmne, List.flatMap_eq_nil_iff]
        intro e he
        obtain ⟨i, hi, ei⟩ := List.mem_iff_getElem.mp he
        have hg : gp (elP L (ffr m) n) i = e := by
          unfold gp
          rw [List.getD_eq_getElem?_getD, List.getElem?_eq_getElem hi]
          exact ei
        rw [← hg]
        exact hpre i (by omega)
    have hf := hfj hjl
    obtain ⟨q1, q2⟩ := gp_tot (n := n) (L := L) (s := ffr m) (by omega) hjl
    have hmem : gp (elP L (ffr m) n) j ∈ elP L (ffr m) n := by
      unfold gp
      rw [List.getD_eq_getElem?_getD, List.getElem?_eq_getElem hjl]
      exact List.getElem_mem hjl
    obtain ⟨b1, b2, b3, _⟩ := hE _ hs20 _ hmem
    obtain ⟨a1, a2, a3⟩ := e_fr hE hm hmne hmem hf
    have arr : ∀ I' J', cvS I0 J0 I' J' → I' 213 ((tot n L (ffr m)).length + j) = nI (gp (elP L (ffr m) n) j).2 ∧ I' 214 ((tot n L (ffr m)).length + j) = nI (gp (elP L (ffr m) n) j).1 := fun I' J' g => by
      obtain ⟨c1, c2, _⟩ := (mel I' J' g).2.2 _ q2
      rw [q1] at c1 c2
      exact ⟨c1, c2⟩
    have hpw : 2 ^ (gp (elP L (ffr m) n) j).1 < 2 ^ n := Nat.pow_lt_pow_right (by decide) b1
    have huw : (if mode = 1 then 0 else u ||| 2 ^ (gp (elP L (ffr m) n) j).1) = uw mode (if mode = 1 then 0 else u) (gp (elP L (ffr m) n) j).1 := by
      unfold uw
      by_cases c : mode = 1
      · rw [if_pos c, if_pos c, if_pos c]
      · rw [if_neg c, if_neg c, if_neg c]
    have hrc2 : rch mode (w * h) hs (m ||| (gp (elP L (ffr m) n) j).2) I0 := fun z => by
      obtain ⟨y1, y2⟩ := hrc z
      have hle : m ≤ m ||| (gp (elP L (ffr m) n) j).2 := Nat.left_le_or
      refine ⟨by omega, Or.inl ((hC z).2 m y1 (by omega) ?_ _ hmem hf.1)⟩
      rcases y2 with y2 | y2
      · exact y2
      · exact absurd y2 hmne
    have hXe : cvE mode (w * h) n (fun s => elP L s n) m (if mode = 1 then 0 else u) (gp (elP L (ffr m) n) j) = (cv mode (w * h) n (fun s => elP L s n) (m ||| (gp (elP L (ffr m) n) j).2) (if mode = 1 then 0 else u ||| 2 ^ (gp (elP L (ffr m) n) j).1)).map (· + 1) := by
      unfold cvE
      rw [if_pos hf, huw]
    unfold w_X10_cover_139b
    rw [nI_clamp (by omega), (arr I4 J4 hS4).1, (arr I4 J4 hS4).2, nI_pow _ (by omega), nI_or (by omega) (by omega), nI_or (by omega) (by omega)]
    refine ⟨vp_in_nI (by omega) (by decide), vp_in_nI (by omega) (by decide), ?_⟩
    refine p_leads hR hO h20 hM hmo hT hS4 a1 (or_lt hu hpw) hrc2 (fun hne I5 J5 hS5 => ⟨fun _ => ?_, fun z => absurd z one_ne⟩) (fun he I5 J5 hS5 => ⟨fun z => absurd rfl z, fun _ => ?_⟩)
    · have hfst : fst mode (w * h) n (fun s => elP L s n) m (if mode = 1 then 0 else u) = some (gp (elP L (ffr m) n) j) := by
        have hsp : elP L (ffr m) n = (elP L (ffr m) n).take j ++ gp (elP L (ffr m) n) j :: (elP L (ffr m) n).drop (j + 1) := by
          rw [← gp_drop hjl, List.take_append_drop]
        unfold fst
        show (elP L (ffr m) n).find? _ = _
        have h2 : (!(cvE mode (w * h) n (fun s => elP L s n) m (if mode = 1 then 0 else u) (gp (elP L (ffr m) n) j)).isEmpty) = true := by
          rw [hXe]
          cases hcl : cv mode (w * h) n (fun s => elP L s n) (m ||| (gp (elP L (ffr m) n) j).2) (if mode = 1 then 0 else u ||| 2 ^ (gp (elP L (ffr m) n) j).1) with
          | nil => exact absurd hcl hne
          | cons a l => rfl
        have h1 : ((elP L (ffr m) n).take j).find? (fun e => !(cvE mode (w * h) n (fun s => elP L s n) m (if mode = 1 then 0 else u) e).isEmpty) = none := by
          rw [List.find?_eq_none]
          intro e he
          obtain ⟨i, hi, ei⟩ := List.mem_iff_getElem.mp he
          rw [List.length_take] at hi
          have hg : gp (elP L (ffr m) n) i = e := by
            unfold gp
            rw [List.getD_eq_getElem?_getD, List.getElem?_eq_getElem (by omega)]
            rw [List.getElem_take] at ei
            exact ei
          rw [← hg, hpre i (by omega)]
          decide
        have : ∀ T : List (Nat × Nat), T = (elP L (ffr m) n).take j ++ gp (elP L (ffr m) n) j :: (elP L (ffr m) n).drop (j + 1) → T.find? (fun e => !(cvE mode (w * h) n (fun s => elP L s n) m (if mode = 1 then 0 else u) e).isEmpty) = some (gp (elP L (ffr m) n) j) := by
          intro T hT
          rw [hT, List.find?_append, h1, Option.none_or]
          exact List.find?_cons_of_pos (p := fun e => !(cvE mode (w * h) n (fun s => elP L s n) m (if mode = 1 then 0 else u) e).isEmpty) h2
        exact this _ hsp
      have e13 : I5 200 13 = nI w := by rw [hS5.1.2 13 (by decide)]; exact hR.2.2.1.2.1
      rw [(arr I5 J5 hS5).1, (arr I5 J5 hS5).2, nI_pow _ (by omega), nI_or (by omega) (by omega), nI_or (by omega) (by omega), e13, pk_mul, nI_add, Nat.mul_comm y w]
      refine ⟨vp_in_nI (by omega) (by decide), ?_⟩
      intro n28 e28
      subst e28
      refine ⟨vp_in_nI (by omega) (by decide), ?_⟩
      intro n30 e30
      subst e30
      have tb := nI_bit1 (u := (gp (elP L (ffr m) n) j).2) (p := w * y + x) (by omega) (by omega)
      refine ⟨vp_in_nI (by omega) (by decide), fun q => ?_, fun q => ?_⟩
      · have hcb : (gp (elP L (ffr m) n) j).2.testBit (w * y + x) = false := by
          cases z : (gp (elP L (ffr m) n) j).2.testBit (w * y + x) with
          | false => rfl
          | true => exact absurd (tb.mpr z) q
        refine kk (frN (w * h) (m ||| (gp (elP L (ffr m) n) j).2)) _ _ _ _ (by omega) ⟨hS5, _, _, rfl, rfl, rfl, a1, or_lt hu hpw, by rw [Nat.testBit_or, hbm, hcb]; rfl, hrc2, hne, ?_⟩
        rw [hlc, lcv_go hE hwh.1 hcell hm hbm hfst hcb, huw]
      · have hh := hyes _ (by rw [hlc]; exact lcv_hit hfst (tb.mp q)) I5 J5 hS5
        refine ⟨fun q4 => ⟨vp_in_nI (by omega) (by decide), ?_⟩, fun q4 => ⟨vp_in_nI (by omega) (by decide), ?_⟩⟩
        · rw [if_neg q4] at hh; exact hh
        · rw [if_pos q4] at hh; exact hh
    · have nx : ∀ a, a = (if mode = 1 then 0 else u) → w_X10_cover_187 Po K K2 (nI mode) (nI x) (nI y) a4 (nI m) (nI u) (nI a) (nI m) (nI ((tot n L (ffr m)).length + j) + 1) I5 J5 := by
        intro a ha
        subst ha
        unfold w_X10_cover_187
        rw [nI_1, Nat.add_assoc]
        refine p_nextFit (mel I5 J5 hS5) hn h20 (by omega) (by omega) (by omega) (by omega) (fun j2 j21 j22 j23 j24 => ?_)
        refine kk2 ((elP L (ffr m) n).length - j2) _ _ _ (by omega) ⟨hS5, j2, rfl, by omega, fun j' hj' => ?_, j24⟩
        rcases Nat.lt_trichotomy j' j with z | z | z
        · exact hpre j' z
        · rw [z, hXe, he]; rfl
        · unfold cvE
          exact if_neg (j23 j' (by omega) hj')
      refine ⟨fun q => nx u ?_, fun q => nx 0 ?_⟩
      · rw [if_neg (fun e => q (by rw [e]; rfl))]
      · rw [if_pos ((nI_eq (b := 1) (by omega) (by decide)).mp q)]
  have start : ∀ a, a = (if mode = 1 then 0 else u) → w_X10_cover_134 Po K (nI mode) (nI x) (nI y) a4 (nI m) (nI u) (nI a) (nI m) (nI (tot n L (ffr m)).length) I2 J2 := by
    intro a ha
    subst ha
    unfold w_X10_cover_134
    have := p_nextFit (i0 := 0) (mel I2 J2 hS2) hn h20 (m := m) (used := if mode = 1 then 0 else u) (by omega) (by omega) (by omega) (Nat.zero_le _) (Po := fun r20 => w_X10_cover_139 Po K (nI mode) (nI x) (nI y) a4 (nI m) (nI u) r20 I2 J2) (fun j j1 j2 j3 j4 => fin139 j j2 (fun j' hj' => by unfold cvE; exact if_neg (j3 j' (Nat.zero_le _) hj')) j4 I2 J2 hS2)
    rw [Nat.add_zero] at this
    exact this
  refine ⟨fun q => start u ?_, fun q => start 0 ?_⟩
  · rw [if_neg (fun e => q (by rw [e]; rfl))]
  · rw [if_pos ((nI_eq (b := 1) (by omega) (by decide)).mp q)]
end
