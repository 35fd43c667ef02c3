/-! the model: firstFree, nextFit, seek -/
def mEl (n : Nat) (L : Nat → Nat → List Nat) (I : gI) : Prop := (∀ s, s ≤ 20 → I 215 s = nI (tot n L s).length) ∧ I 215 21 = nI (tot n L 20).length ∧ elM (tot n L 20) I
theorem mEl_k {n : Nat} {L : Nat → Nat → List Nat} {I I' : gI} (h : mEl n L I) (h1 : I' 213 = I 213) (h2 : I' 214 = I 214) (h3 : I' 215 = I 215) : mEl n L I' := by
  obtain ⟨a, b, c⟩ := h
  exact ⟨by rw [h3]; exact a, by rw [h3]; exact b, fun i hi => by rw [h1, h2]; exact c i hi⟩
theorem tot_pre {n : Nat} {L : Nat → Nat → List Nat} {s : Nat} : ∀ {d : Nat}, ∃ R, tot n L (s + 1 + d) = tot n L s ++ (elP L s n ++ R)
  | 0 => ⟨[], by rw [List.append_nil]; rfl⟩
  | d + 1 => by
    obtain ⟨R, h⟩ := tot_pre (n := n) (L := L) (s := s) (d := d)
    refine ⟨R ++ elP L (s + 1 + d) n, ?_⟩
    show tot n L (s + 1 + d) ++ elP L (s + 1 + d) n = _
    rw [h, List.append_assoc, List.append_assoc]
theorem gp_tot {n : Nat} {L : Nat → Nat → List Nat} {s i : Nat} (hs : s < 20) (hi : i < (elP L s n).length) : gp (tot n L 20) ((tot n L s).length + i) = gp (elP L s n) i ∧ (tot n L s).length + i < (tot n L 20).length := by
  obtain ⟨R, h⟩ := tot_pre (n := n) (L := L) (s := s) (d := 19 - s)
  rw [show s + 1 + (19 - s) = 20 by omega] at h
  rw [h]
  constructor
  · unfold gp
    rw [List.getD_eq_getElem?_getD, List.getD_eq_getElem?_getD, List.getElem?_append_right (by omega), Nat.add_sub_cancel_left, List.getElem?_append_left hi]
  · rw [List.length_append, List.length_append]; omega
theorem p_firstFree {m : Nat} (hm : m < 1048576) {Po : Int32 → Prop} (h : Po (nI (ffr m))) : wp_X10_firstFree (nI m) Po := by
  have hff := ffr_s m
  have h20 : ffr m ≤ 20 := by
    rcases Nat.lt_or_ge 20 (ffr m) with z | z
    · have := hff.2 20 z
      rw [mk_tb (k := 20) hm (Nat.le_refl _)] at this
      exact absurd this (by decide)
    · exact z
  unfold wp_X10_firstFree w_X10_firstFree_2
  refine gl1 (N := ffr m) (i0 := 0) (fun K v => w_X10_firstFree_2b Po K (nI m) v) (fun _ => True) (by omega) (by omega) trivial ?_
  rintro i hi - K kk
  have tb := nI_bit1 (u := m) (p := i) (by omega) (by omega)
  unfold w_X10_firstFree_2b
  refine ⟨fun q => ?_, fun q => ?_⟩
  · have : i = ffr m := by
      rcases Nat.lt_or_ge i (ffr m) with z | z
      · exact absurd (tb.mpr (hff.2 i z)) q
      · omega
    rw [this]; exact h
  · intro n2 e2
    rw [nI_1] at e2
    subst e2
    have hne : i ≠ ffr m := fun e => by
      have := tb.mp q
      rw [e, hff.1] at this
      exact absurd this (by decide)
    exact kk (by omega) trivial
section
variable {n : Nat} {L : Nat → Nat → List Nat} {k : Nat} {sz : Nat → Nat}
theorem tot_b (hO : lOk k n sz L) (hn : n ≤ 6) (h20 : ∀ p s, p < n → s < 20 → (L p s).length ≤ 8) {s : Nat} (hs : s ≤ 20) : (tot n L s).length ≤ 960 := by
  have := tot_len hn h20 hs
  omega
theorem p_nextFit {I : gI} (hM : mEl n L I) (hn : n ≤ 6) (h20 : ∀ p s, p < n → s < 20 → (L p s).length ≤ 8) {m used i0 : Nat} (hm : m < 1048576) (hs : ffr m < 20) (hu : used < 64) (hi0 : i0 ≤ (elP L (ffr m) n).length) {Po : Int32 → Prop} (h : ∀ j, i0 ≤ j → j ≤ (elP L (ffr m) n).length → (∀ j', i0 ≤ j' → j' < j → ¬ fit m used (gp (elP L (ffr m) n) j')) → (j < (elP L (ffr m) n).length → fit m used (gp (elP L (ffr m) n) j)) → Po (nI ((tot n L (ffr m)).length + j))) : wp_X10_nextFit (nI ((tot n L (ffr m)).length + i0)) (nI m) (nI used) I Po := by
  obtain ⟨a, b, c⟩ := hM
  have ht := tot_len hn h20 (s := ffr m + 1) (by omega)
  have et : (tot n L (ffr m + 1)).length = (tot n L (ffr m)).length + (elP L (ffr m) n).length := by
    show (tot n L (ffr m) ++ elP L (ffr m) n).length = _
    rw [List.length_append]
  unfold wp_X10_nextFit
  refine p_firstFree hm ?_
  rw [nI_1, nI_clamp (by omega), a (ffr m + 1) (by omega), et]
  refine ⟨vp_in_nI (by omega) (by decide), ?_⟩
  intro n3 e3
  subst e3
  unfold w_X10_nextFit_16
  refine gl1 (N := (tot n L (ffr m)).length + (elP L (ffr m) n).length) (i0 := (tot n L (ffr m)).length + i0) (fun K v => w_X10_nextFit_16b Po K (nI m) (nI used) (nI ((tot n L (ffr m)).length + (elP L (ffr m) n).length)) v I) (fun v => ∃ j, v = (tot n L (ffr m)).length + j ∧ i0 ≤ j ∧ ∀ j', i0 ≤ j' → j' < j → ¬ fit m used (gp (elP L (ffr m) n) j')) (by omega) (by omega) ⟨i0, rfl, Nat.le_refl _, fun j' h1 h2 => by omega⟩ ?_
  rintro v hv ⟨j, rfl, hj, g⟩ K kk
  unfold w_X10_nextFit_16b
  refine pk_le _ _ (fun hz => ?_) (fun hz => ?_) rfl rfl
  · exact h j hj (by omega) g (fun z => by omega)
  · have hjl : j < (elP L (ffr m) n).length := by omega
    obtain ⟨g1, g2⟩ := gp_tot hs hjl
    obtain ⟨c1, c2, c3⟩ := c _ g2
    rw [g1] at c1 c2 c3
    have hp6 : (gp (elP L (ffr m) n) j).1 < n := by
      have : gp (elP L (ffr m) n) j ∈ elP L (ffr m) n := by
        unfold gp
        rw [List.getD_eq_getElem?_getD, List.getElem?_eq_getElem hjl]
        exact List.getElem_mem hjl
      exact (elP_mem.mp this).1
    have nxt : ¬ fit m used (gp (elP L (ffr m) n) j) → w_X10_nextFit_50 Po K (nI m) (nI used) (nI ((tot n L (ffr m)).length + (elP L (ffr m) n).length)) (nI ((tot n L (ffr m)).length + j)) I := by
      intro hnf
      unfold w_X10_nextFit_50
      intro n7 e7
      rw [nI_1] at e7
      subst e7
      refine kk (by omega) ⟨j + 1, by omega, by omega, fun j' h1 h2 => ?_⟩
      by_cases z : j' = j
      · subst z; exact hnf
      · exact g j' h1 (by omega)
    rw [nI_clamp (by omega), c1, c2, nI_and0 (by omega) (by omega)]
    refine ⟨vp_in_nI (by omega) (by decide), fun q => nxt (fun f => q f.1), fun q => ⟨vp_in_nI (by omega) (by decide), fun q2 => ?_, fun q2 => nxt (fun f => ?_)⟩⟩
    · refine h j hj (by omega) g (fun _ => ⟨q, ?_⟩)
      cases z : used.testBit (gp (elP L (ffr m) n) j).1 with
      | false => rfl
      | true => exact absurd ((nI_bit1 (by omega) (by omega)).mpr z) q2
    · have := (nI_bit1 (u := used) (p := (gp (elP L (ffr m) n) j).1) (by omega) (by omega)).mp q2
      rw [f.2] at this
      exact absurd this (by decide)
end
theorem gp_drop {T : List (Nat × Nat)} {i : Nat} (h : i < T.length) : T.drop i = gp T i :: T.drop (i + 1) := by
  rw [List.drop_eq_getElem_cons h]
  unfold gp
  rw [List.getD_eq_getElem?_getD, List.getElem?_eq_getElem h]
  rfl
/-- what is left at a level, from entry i on -/
noncomputable def rl (mode k n : Nat) (L : Nat → Nat → List Nat) (m u i : Nat) : List Nat := ((elP L (ffr m) n).drop i).flatMap (cvE mode k n (fun s => elP L s n) m u)
noncomputable def rk (mode k n : Nat) (L : Nat → Nat → List Nat) : List (Nat × Nat × Nat) → List Nat
  | [] => []
  | (m, u, i) :: st => (rl mode k n L m u (i + 1)).map (· + st.length) ++ rk mode k n L st
def lvM (k n : Nat) (L : Nat → Nat → List Nat) (I : gI) : List (Nat × Nat × Nat) → Prop
  | [] => True
  | (m, u, i) :: st => I 220 st.length = nI m ∧ I 221 st.length = nI u ∧ I 219 st.length = nI ((tot n L (ffr m)).length + i) ∧ i < (elP L (ffr m) n).length ∧ m < 2 ^ k ∧ m ≠ 2 ^ k - 1 ∧ u < 2 ^ n ∧ st.length ≤ cN u.testBit 6 ∧ lvM k n L I st
theorem lvM_k {k n : Nat} {L : Nat → Nat → List Nat} {I I' : gI} : ∀ {st : List (Nat × Nat × Nat)}, lvM k n L I st → (∀ d, d < st.length → I' 219 d = I 219 d ∧ I' 220 d = I 220 d ∧ I' 221 d = I 221 d) → lvM k n L I' st
  | [], _, _ => trivial
  | (m, u, i) :: st, h, hk => by
    obtain ⟨a, b, c, d⟩ := h
    obtain ⟨k1, k2, k3⟩ := hk st.length (by rw [List.length_cons]; omega)
    exact ⟨by rw [k2]; exact a, by rw [k3]; exact b, by rw [k1]; exact c, d.1, d.2.1, d.2.2.1, d.2.2.2.1, d.2.2.2.2.1, lvM_k d.2.2.2.2.2 (fun d hd => hk d (by rw [List.length_cons]; omega))⟩
def sv4 : List (Nat × Nat × Nat) → Nat
  | [] => 0
  | (_, _, i) :: st => sv4 st * 4096 + 2 * (i + 1)
def sv4F (st : List (Nat × Nat × Nat)) (c : Nat) : Nat := (sv4 st * 4096 + c) * 4096 ^ (8 - st.length)
theorem sv4_lt : ∀ {st : List (Nat × Nat × Nat)}, (∀ x, x ∈ st → x.2.2 ≤ 1000) → sv4 st < 4096 ^ st.length
  | [], _ => Nat.one_pos
  | (m, u, i) :: st, h => by
    have h1 := sv4_lt (st := st) (fun y hy => h y (List.mem_cons_of_mem _ hy))
    have h2 : i ≤ 1000 := h (m, u, i) List.mem_cons_self
    show sv4 st * 4096 + 2 * (i + 1) < 4096 ^ (st.length + 1)
    rw [Nat.pow_succ]
    omega
theorem sv4F_lt {st : List (Nat × Nat × Nat)} {c : Nat} (h : ∀ x, x ∈ st → x.2.2 ≤ 1000) (hc : c < 4096) (hl : st.length ≤ 7) : sv4F st c < 4096 ^ 9 := by
  have h1 := sv4_lt h
  have e : 4096 ^ (st.length + 1) * 4096 ^ (8 - st.length) = 4096 ^ 9 := by rw [← Nat.pow_add]; congr 1; omega
  have h2 : sv4 st * 4096 + c < 4096 ^ (st.length + 1) := by rw [Nat.pow_succ]; omega
  rw [← e]
  exact Nat.mul_lt_mul_of_pos_right h2 (Nat.pow_pos (by decide))
theorem sv4F_push {st : List (Nat × Nat × Nat)} {c m u i : Nat} (h : c < 2 * (i + 1)) (hl : st.length ≤ 6) : sv4F st c < sv4F ((m, u, i) :: st) 1 := by
  show (sv4 st * 4096 + c) * 4096 ^ (8 - st.length) < ((sv4 st * 4096 + 2 * (i + 1)) * 4096 + 1) * 4096 ^ (8 - (st.length + 1))
  rw [show 8 - st.length = (8 - (st.length + 1)) + 1 by omega, Nat.pow_succ, Nat.mul_comm (4096 ^ _) 4096, ← Nat.mul_assoc]
  refine Nat.mul_lt_mul_of_pos_right ?_ (Nat.pow_pos (by decide))
  omega
theorem sv4F_pop {st : List (Nat × Nat × Nat)} {c m u i : Nat} (h : c < 4096) (hl : st.length ≤ 6) : sv4F ((m, u, i) :: st) c < sv4F st (2 * (i + 1) + 1) := by
  show ((sv4 st * 4096 + 2 * (i + 1)) * 4096 + c) * 4096 ^ (8 - (st.length + 1)) < (sv4 st * 4096 + (2 * (i + 1) + 1)) * 4096 ^ (8 - st.length)
  rw [show 8 - st.length = (8 - (st.length + 1)) + 1 by omega, Nat.pow_succ, Nat.mul_comm (4096 ^ _) 4096, ← Nat.mul_assoc]
  refine Nat.mul_lt_mul_of_pos_right ?_ (Nat.pow_pos (by decide))
  omega
theorem lvM_i {k n : Nat} {L : Nat → Nat → List Nat} {I : gI} (hl : ∀ s, s < k → (elP L s n).length ≤ 1000) : ∀ {st : List (Nat × Nat × Nat)}, lvM k n L I st → ∀ x, x ∈ st → x.2.2 ≤ 1000
  | [], _, x, hx => by cases hx
  | (m, u, i) :: st, h, x, hx => by
    obtain ⟨_, _, _, d1, d2, d3, _, _, d6⟩ := h
    rcases List.mem_cons.mp hx with rfl | hx
    · have := hl _ (ffr_lt d2 d3); show i ≤ 1000; omega
    · exact lvM_i hl d6 x hx
theorem rk_c {mode k n : Nat} {L : Nat → Nat → List Nat} {m u i : Nat} {st : List (Nat × Nat × Nat)} : rk mode k n L ((m, u, i) :: st) = (rl mode k n L m u (i + 1)).map (· + st.length) ++ rk mode k n L st := rfl
theorem rl_s {mode k n : Nat} {L : Nat → Nat → List Nat} {m u j : Nat} (hjl : j < (elP L (ffr m) n).length) (hf : fit m u (gp (elP L (ffr m) n) j)) (hmo : mode ≠ 1) : rl mode k n L m u j = (cv mode k n (fun s => elP L s n) (m ||| (gp (elP L (ffr m) n) j).2) (u ||| 2 ^ (gp (elP L (ffr m) n) j).1)).map (· + 1) ++ rl mode k n L m u (j + 1) := by
  have e : cvE mode k n (fun s => elP L s n) m u (gp (elP L (ffr m) n) j) = (cv mode k n (fun s => elP L s n) (m ||| (gp (elP L (ffr m) n) j).2) (u ||| 2 ^ (gp (elP L (ffr m) n) j).1)).map (· + 1) := by
    unfold cvE
    rw [if_pos hf]
    unfold uw
    rw [if_neg hmo]
  unfold rl
  rw [gp_drop hjl, List.flatMap_cons, e]
theorem rk_push {mode k n : Nat} {L : Nat → Nat → List Nat} {m u j : Nat} {st : List (Nat × Nat × Nat)} (hjl : j < (elP L (ffr m) n).length) (hf : fit m u (gp (elP L (ffr m) n) j)) (hmo : mode ≠ 1) : (rl mode k n L m u j).map (· + st.length) ++ rk mode k n L st = (cv mode k n (fun s => elP L s n) (m ||| (gp (elP L (ffr m) n) j).2) (u ||| 2 ^ (gp (elP L (ffr m) n) j).1)).map (· + (st.length + 1)) ++ rk mode k n L ((m, u, j) :: st) := by
  have e : ((· + st.length) ∘ (· + 1) : Nat → Nat) = (· + (st.length + 1)) := funext fun x => by
    show x + 1 + st.length = x + (st.length + 1)
    omega
  rw [rl_s hjl hf hmo, List.map_append, List.map_map, List.append_assoc, rk_c, e]
def skK (I I' : gI) : Prop := gSm [200, 219, 220, 221] I I' ∧ ∀ j, j ≠ 30 → I' 200 j = I 200 j
section
variable {n : Nat} {pc : Nat → Nat} {w h hs : Nat} {tu mr : Int32} {ver lv : Nat}
theorem p_seek {I : gI} {J : gL} (hR : RelP n pc w h hs tu mr ver lv I) {L : Nat → Nat → List Nat} (hO : lOk (w * h) n (szP pc) L) (h20 : ∀ p s, p < n → s < 20 → (L p s).length ≤ 8) (hM : mEl n L I) {m0 u0 mode : Nat} {a3 : Int32} (hmo : mode ≠ 1) (ha : a3 = 0 ↔ mode ≠ 0) (hm0 : m0 < 2 ^ (w * h)) (hu0 : u0 < 2 ^ n) {Po : gI → gL → Prop}
    (hk : ∀ I' J', skK I I' → gJm [200] J J' → J' 200 29 = lN (cv mode (w * h) n (fun s => elP L s n) m0 u0).length → I' 200 30 = nI (mnx 100 (cv mode (w * h) n (fun s => elP L s n) m0 u0)) → Po I' J') : wp_X10_seek (nI m0) (nI u0) a3 I J Po := by
  have hwh := RelP_wh hR
  have hn := hR.1.1
  have hE := lOk_e hO
  have h64 : 2 ^ n ≤ 2 ^ 6 := Nat.pow_le_pow_right (by decide) hn
  have hp0 : 0 < 2 ^ n := Nat.pow_pos (by decide)
  have hpk : 0 < 2 ^ (w * h) := Nat.pow_pos (by decide)
  have hel : ∀ s, s < w * h → (elP L s n).length ≤ 48 := fun s hs => by
    have := elP_len (n := n) (L := L) (s := s) (fun p hp => h20 p s hp (by omega)) (Nat.le_refl n)
    omega
  unfold wp_X10_seek wp_X10_cells
  rw [hR.2.2.1.2.1, hR.2.2.1.2.2.1, pk_mul, mk_pow _ (by omega)]
  intro J2 e2 I3 e3
  refine ⟨vp_in_nI (n := 0) (by decide) (by decide), ?_⟩
  rw [show ((0 : Int32)).toNatClampNeg = 0 from rfl]
  intro I5 e5
  refine ⟨vp_in_nI (n := 0) (by decide) (by decide), ?_⟩
  intro I7 e7
  refine ⟨vp_in_nI (n := 0) (by decide) (by decide), ?_⟩
  intro I9 e9
  generalize hALL : cv mode (w * h) n (fun s => elP L s n) m0 u0 = ALL at *
  have hAb : ALL.length ≤ 7 ^ 20 := by rw [← hALL]; exact (enc_b (mode := mode) (used := u0) hO hwh.1 hn hm0).2.2.2.2
  have hp7 := p7
  have kp9 : skK I I9 := ⟨by rw [e9, e7, e5, e3]; exact gSm_u (gSm_u (gSm_u (gSm_u (gSm_r I) (by decide)) (by decide)) (by decide)) (by decide), fun j hj => by rw [e9, gup_o (by decide), e7, gup_o (by decide), e5, gup_o (by decide), e3, gup_ne hj]⟩
  unfold w_X10_seek_41
  refine gr3 (m0 := 4096 ^ 9 - sv4F [] 1 + 1) (fun K v5 I J => w_X10_seek_41b Po K a3 (nI (2 ^ (w * h) - 1)) v5 I J) (fun r v5 I' J' => ∃ D : List Nat, J' 200 29 = lN D.length ∧ I' 200 30 = nI (mnx 100 D) ∧ skK I I' ∧ gJm [200] J J' ∧ ((v5 = -1 ∧ r = 0 ∧ ALL = D) ∨ ∃ st m u c, v5 = nI st.length ∧ r = 4096 ^ 9 - sv4F st c + 1 ∧ c < 4096 ∧ st.length ≤ 6 ∧ I' 220 st.length = nI m ∧ I' 221 st.length = nI u ∧ m < 2 ^ (w * h) ∧ u < 2 ^ n ∧ st.length ≤ cN u.testBit 6 ∧ lvM (w * h) n L I' st ∧ ((c = 1 ∧ I' 219 st.length = -1 ∧ ALL = D ++ ((cv mode (w * h) n (fun s => elP L s n) m u).map (· + st.length) ++ rk mode (w * h) n L st)) ∨ ∃ i, c = 2 * (i + 1) + 1 ∧ I' 219 st.length = nI ((tot n L (ffr m)).length + i) ∧ m ≠ 2 ^ (w * h) - 1 ∧ i < (elP L (ffr m) n).length ∧ ALL = D ++ rk mode (w * h) n L ((m, u, i) :: st)))) ⟨[], by rw [e2, gup_at]; rfl, by rw [e9, gup_o (by decide), e7, gup_o (by decide), e5, gup_o (by decide), e3, gup_at]; rfl, kp9, by rw [e2]; exact gJm_u (gJm_r J) (by decide), Or.inr ⟨[], m0, u0, 1, rfl, rfl, by decide, by decide, by rw [e9, gup_o (by decide), e7, gup_o (by decide), e5]; exact gup_at .., by rw [e9, gup_o (by decide), e7]; exact gup_at .., hm0, hu0, Nat.zero_le _, trivial, Or.inl ⟨rfl, by rw [e9]; exact gup_at .., ?_⟩⟩⟩ ?_
  · rw [hALL]
    show ALL = [] ++ (ALL.map (· + 0) ++ [])
    simp
  rintro r v5 I1 J1 ⟨D, d1, d2, d3, d4, dc⟩ K kk
  have hM1 : mEl n L I1 := mEl_k hM (d3.1 213 (by decide)) (d3.1 214 (by decide)) (d3.1 215 (by decide))
  have hDl : (∃ R, ALL = D ++ R) → D.length ≤ 7 ^ 20 := fun ⟨R, e⟩ => by rw [e, List.length_append] at hAb; omega
  unfold w_X10_seek_41b
  rcases dc with ⟨rfl, _, hA⟩ | ⟨st, m, u, c, rfl, rfl, hc4, hst6, f220, f221, hm, hu, hcnt, hlv, hcase⟩
  · refine ⟨fun _ => ?_, fun z => absurd (by decide) z⟩
    rw [hA] at hk
    exact hk I1 J1 d3 d4 d1 d2
  · have hlvi := lvM_i (fun s hs => by have := hel s hs; omega) hlv
    have hsl := sv4F_lt (st := st) (c := c) hlvi hc4 (by omega)
    have hnneg : ¬ nI st.length < 0 := fun z => absurd ((nI_ltI (b := 0) (by omega) (by decide)).mp z) (by omega)
    -- one level down
    have pop : ∀ (D' : List Nat) (I' : gI) (J' : gL), ALL = D' ++ rk mode (w * h) n L st → J' 200 29 = lN D'.length → I' 200 30 = nI (mnx 100 D') → skK I I' → gJm [200] J J' → lvM (w * h) n L I' st → ∀ v : Int32, v = nI st.length + (-1) → K v I' J' := by
      intro D' I' J' hA o1 o2 o3 o4 o5 v ev
      cases st with
      | nil =>
        have ev : v = -1 := by rw [ev]; decide
        subst ev
        refine kk 0 _ _ _ (by omega) ⟨D', o1, o2, o3, o4, Or.inl ⟨rfl, rfl, ?_⟩⟩
        rw [hA]
        show D' ++ [] = D'
        rw [List.append_nil]
      | cons x st =>
        obtain ⟨m', u', i⟩ := x
        rw [List.length_cons, pk_m1] at ev
        subst ev
        rw [List.length_cons] at hst6
        obtain ⟨y1, y2, y3, y4, y5, y6, y7, y8, y9⟩ := o5
        have hlt := sv4F_pop (st := st) (c := c) (m := m') (u := u') (i := i) hc4 (by omega)
        have hi48 := hel _ (ffr_lt y5 y6)
        have hlt2 := sv4F_lt (st := st) (c := 2 * (i + 1) + 1) (fun x hx => hlvi x (List.mem_cons_of_mem _ hx)) (by omega) (by omega)
        exact kk (4096 ^ 9 - sv4F st (2 * (i + 1) + 1) + 1) _ _ _ (by omega) ⟨D', o1, o2, o3, o4, Or.inr ⟨st, m', u', 2 * (i + 1) + 1, rfl, rfl, by omega, by omega, y1, y2, y5, y7, y8, y9, Or.inr ⟨i, rfl, y3, y6, y4, hA⟩⟩⟩
    refine ⟨fun z => absurd z hnneg, fun _ => ⟨vp_in_nI (by omega) (by decide), ?_⟩⟩
    rw [nI_clamp (by omega), f220, f221]
    refine ⟨fun q => ?_, fun q => ?_⟩
    · have hne : m ≠ 2 ^ (w * h) - 1 := fun e => q (by rw [e])
      have hs := ffr_lt hm hne
      have ht := tot_len hn h20 (s := ffr m) (by omega)
      have hi48 := hel _ hs
      refine ⟨vp_in_nI (by omega) (by decide), p_firstFree (by omega) ⟨vp_in_nI (by omega) (by decide), ?_⟩⟩
      -- go on from entry i0
      have go : ∀ i0, i0 ≤ (elP L (ffr m) n).length → c < 2 * (i0 + 1) → ALL = D ++ ((rl mode (w * h) n L m u i0).map (· + st.length) ++ rk mode (w * h) n L st) → w_X10_seek_161 Po K a3 (nI (2 ^ (w * h) - 1)) (nI st.length) (nI (ffr m)) (nI ((tot n L (ffr m)).length + i0)) I1 J1 := by
        intro i0 hi0 hci hA
        unfold w_X10_seek_161
        refine ⟨vp_in_nI (by omega) (by decide), vp_in_nI (by omega) (by decide), ?_⟩
        rw [nI_clamp (by omega), f220, f221]
        refine p_nextFit hM1 hn h20 (by omega) (by omega) (by omega) hi0 (fun j j1 j2 j3 j4 => ?_)
        refine ⟨vp_in_nI (by omega) (by decide), ?_⟩
        intro I22 e22
        have f15 : I22 215 (ffr m + 1) = nI ((tot n L (ffr m)).length + (elP L (ffr m) n).length) := by
          rw [e22, gup_o (by decide), hM1.1 _ (by omega)]
          show nI (tot n L (ffr m) ++ elP L (ffr m) n).length = _
          rw [List.length_append]
        rw [nI_1, nI_clamp (n := ffr m + 1) (by omega), f15]
        have kp22 : skK I I22 := ⟨by rw [e22]; exact gSm_u d3.1 (by decide), fun j hj => by rw [e22, gup_o (by decide)]; exact d3.2 j hj⟩
        have lv22 : lvM (w * h) n L I22 st := lvM_k hlv (fun d hd => ⟨by rw [e22, gup_ne (by omega)], by rw [e22, gup_o (by decide)], by rw [e22, gup_o (by decide)]⟩)
        -- what was passed over gives nothing
        have skip : ∀ d, i0 + d ≤ j → rl mode (w * h) n L m u i0 = rl mode (w * h) n L m u (i0 + d) := by
          intro d
          induction d with
          | zero => intro _; rfl
          | succ d ih =>
            intro hd
            rw [ih (by omega)]
            unfold rl
            rw [gp_drop (i := i0 + d) (by omega), List.flatMap_cons]
            have : cvE mode (w * h) n (fun s => elP L s n) m u (gp (elP L (ffr m) n) (i0 + d)) = [] := by
              unfold cvE; exact if_neg (j3 (i0 + d) (by omega) (by omega))
            rw [this, List.nil_append]
            rfl
        have hsk := skip (j - i0) (by omega)
        rw [show i0 + (j - i0) = j by omega] at hsk
        refine ⟨vp_in_nI (by omega) (by decide), fun q2 => ?_, fun q2 => ?_⟩
        · have hjl : j < (elP L (ffr m) n).length := by
            rcases Nat.lt_or_ge j (elP L (ffr m) n).length with z | z
            · exact z
            · exact absurd (by rw [show j = (elP L (ffr m) n).length by omega]) q2
          have hf := j4 hjl
          obtain ⟨g1, g2⟩ := gp_tot (n := n) (L := L) (s := ffr m) (by omega) hjl
          have hmem : gp (elP L (ffr m) n) j ∈ elP L (ffr m) n := by
            unfold gp
            rw [List.getD_eq_getElem?_getD, List.getElem?_eq_getElem hjl]
            exact List.getElem_mem hjl
          obtain ⟨c1, c2, c3⟩ := hM1.2.2 _ g2
          rw [g1] at c1 c2 c3
          obtain ⟨b1, b2, _⟩ := hE _ hs _ hmem
          obtain ⟨a1, a2, a3'⟩ := e_fr hE hm hne hmem hf
          have u220 : I22 220 st.length = nI m := by rw [e22, gup_o (by decide)]; exact f220
          have u213 : I22 213 ((tot n L (ffr m)).length + j) = nI (gp (elP L (ffr m) n) j).2 := by rw [e22, gup_o (by decide)]; exact c1
          have hcu : cN (u ||| 2 ^ (gp (elP L (ffr m) n) j).1).testBit 6 = cN u.testBit 6 + 1 := cN_set (c := (gp (elP L (ffr m) n) j).1) hf.2 (by rw [Nat.testBit_or, Nat.testBit_two_pow, decide_eq_true rfl, Bool.or_true]) (fun i hi => by rw [Nat.testBit_or, Nat.testBit_two_pow, decide_eq_false (fun e => hi e.symm), Bool.or_false]) (by omega)
          have hcu6 := cN_le (u ||| 2 ^ (gp (elP L (ffr m) n) j).1).testBit 6
          have hpw : 2 ^ (gp (elP L (ffr m) n) j).1 < 2 ^ n := Nat.pow_lt_pow_right (by decide) b1
          refine ⟨vp_in_nI (by omega) (by decide), vp_in_nI (by omega) (by decide), by rw [nI_1]; exact vp_in_nI (by omega) (by decide), ?_⟩
          rw [nI_1, nI_clamp (n := st.length + 1) (by omega), nI_clamp (n := (tot n L (ffr m)).length + j) (by omega), u220, u213, nI_or (by omega) (by omega)]
          intro I28 e28
          have u221 : I28 221 st.length = nI u := by rw [e28, gup_o (by decide), e22, gup_o (by decide)]; exact f221
          have u214 : I28 214 ((tot n L (ffr m)).length + j) = nI (gp (elP L (ffr m) n) j).1 := by rw [e28, gup_o (by decide), e22, gup_o (by decide)]; exact c2
          refine ⟨vp_in_nI (by omega) (by decide), vp_in_nI (by omega) (by decide), vp_in_nI (by omega) (by decide), ?_⟩
          rw [u221, u214, nI_pow _ (by omega), nI_or (by omega) (by omega)]
          intro I32 e32
          refine ⟨vp_in_nI (by omega) (by decide), ?_⟩
          intro I34 e34 n35 e35
          subst e35
          unfold w_X10_seek_272
          have kp34 : skK I I34 := ⟨by rw [e34, e32, e28]; exact gSm_u (gSm_u (gSm_u kp22.1 (by decide)) (by decide)) (by decide), fun j hj => by rw [e34, gup_o (by decide), e32, gup_o (by decide), e28, gup_o (by decide)]; exact kp22.2 j hj⟩
          have z219 : ∀ d, d ≠ st.length + 1 → I34 219 d = I22 219 d := fun d hd => by rw [e34, gup_ne hd, e32, gup_o (by decide), e28, gup_o (by decide)]
          have z220 : ∀ d, d ≠ st.length + 1 → I34 220 d = I22 220 d := fun d hd => by rw [e34, gup_o (by decide), e32, gup_o (by decide), e28, gup_ne hd]
          have z221 : ∀ d, d ≠ st.length + 1 → I34 221 d = I22 221 d := fun d hd => by rw [e34, gup_o (by decide), e32, gup_ne hd, e28, gup_o (by decide)]
          have hlt := sv4F_push (st := st) (c := c) (m := m) (u := u) (i := j) (by omega) (by omega)
          have hlt2 := sv4F_lt (st := (m, u, j) :: st) (c := 1) (fun x hx => by
            rcases List.mem_cons.mp hx with rfl | hx
            · show j ≤ 1000; omega
            · exact hlvi x hx) (by omega) (by rw [List.length_cons]; omega)
          refine kk (4096 ^ 9 - sv4F ((m, u, j) :: st) 1 + 1) _ _ _ (by omega) ⟨D, d1, ?_, kp34, d4, Or.inr ⟨(m, u, j) :: st, m ||| (gp (elP L (ffr m) n) j).2, u ||| 2 ^ (gp (elP L (ffr m) n) j).1, 1, rfl, rfl, by omega, by rw [List.length_cons]; omega, ?_, ?_, a1, or_lt hu hpw, by rw [List.length_cons]; omega, ⟨?_, ?_, ?_, hjl, hm, hne, hu, hcnt, ?_⟩, Or.inl ⟨rfl, ?_, ?_⟩⟩⟩
          · rw [e34, gup_o (by decide), e32, gup_o (by decide), e28, gup_o (by decide), e22, gup_o (by decide)]; exact d2
          · rw [List.length_cons, e34, gup_o (by decide), e32, gup_o (by decide), e28, gup_at]
          · rw [List.length_cons, e34, gup_o (by decide), e32, gup_at]
          · rw [z220 _ (by omega)]; exact u220
          · rw [z221 _ (by omega), e22, gup_o (by decide)]; exact f221
          · rw [z219 _ (by omega), e22, gup_at]
          · exact lvM_k lv22 (fun d hd => ⟨z219 d (by omega), z220 d (by omega), z221 d (by omega)⟩)
          · rw [List.length_cons, e34, gup_at]
          · rw [hA, hsk]
            rw [rk_push hjl hf hmo]
            rfl
        · have hjl : j = (elP L (ffr m) n).length := by
            have := (nI_eq (by omega) (by omega)).mp q2
            omega
          intro n36 e36
          unfold w_X10_seek_272
          refine pop D I22 J1 ?_ d1 (by rw [e22, gup_o (by decide)]; exact d2) kp22 d4 lv22 n36 e36
          rw [hA, hsk]
          have : rl mode (w * h) n L m u j = [] := by
            unfold rl
            rw [hjl, List.drop_length]
            rfl
          rw [this]
          rfl
      rcases hcase with ⟨hc1, f219, hA⟩ | ⟨i, hci, f219, _, hi, hA⟩
      · rw [f219]
        refine ⟨fun z => absurd rfl z, fun _ => ⟨vp_in_nI (by omega) (by decide), ?_⟩⟩
        rw [nI_clamp (by omega), hM1.1 _ (by omega)]
        refine go 0 (Nat.zero_le _) (by omega) ?_
        rw [hA, cv_step (mode := mode) (used := u) hE hwh.1 hm hne]
        unfold rl
        rw [List.drop_zero]
      · rw [f219]
        refine ⟨fun _ => ⟨vp_in_nI (by omega) (by decide), ?_⟩, fun z => absurd z (nI_m1 (by omega))⟩
        rw [nI_1, Nat.add_assoc]
        refine go (i + 1) (by omega) (by omega) ?_
        rw [hA, rk_c]
    · have he : m = 2 ^ (w * h) - 1 := (nI_eq (by omega) (by omega)).mp q
      have hA : ALL = D ++ ((cv mode (w * h) n (fun s => elP L s n) m u).map (· + st.length) ++ rk mode (w * h) n L st) := by
        rcases hcase with ⟨_, _, hA⟩ | ⟨i, _, _, hne, _⟩
        · exact hA
        · exact absurd he hne
      have hDl' := hDl ⟨_, hA⟩
      rw [he, cv_end] at hA
      have hit : ¬ (mode = 0 ∧ u ≠ 2 ^ n - 1) → w_X10_seek_80 Po K a3 (nI (2 ^ (w * h) - 1)) (nI st.length) I1 J1 := by
        intro hh
        rw [if_neg hh] at hA
        have hA : ALL = (D ++ [st.length]) ++ rk mode (w * h) n L st := by
          rw [hA, List.append_assoc, List.map_cons, List.map_nil, Nat.zero_add]
        unfold w_X10_seek_80
        rw [d1, lN_1, d2]
        intro J39 e39
        have mle : mnx 100 D ≤ 100 := by
          have : ∀ l : List Nat, mnx 100 l ≤ 100 := fun l => by
            induction l with
            | nil => exact Nat.le_refl _
            | cons x l ih => show min x (mnx 100 l) ≤ 100; omega
          exact this D
        have fin : ∀ s0 : Nat, s0 = min (mnx 100 D) st.length → w_X10_seek_109 Po K a3 (nI (2 ^ (w * h) - 1)) (nI st.length) (nI s0) I1 J39 := by
          intro s0 hs0
          unfold w_X10_seek_109
          intro I41 e41
          unfold w_X10_seek_112
          intro n42 e42
          refine pop (D ++ [st.length]) I41 J39 hA (by rw [e39, gup_at, List.length_append]; rfl) ?_ ⟨by rw [e41]; exact gSm_u d3.1 (by decide), fun j hj => by rw [e41, gup_ne hj]; exact d3.2 j hj⟩ (by rw [e39]; exact gJm_u d4 (by decide)) (lvM_k hlv (fun d _ => ⟨by rw [e41, gup_o (by decide)], by rw [e41, gup_o (by decide)], by rw [e41, gup_o (by decide)]⟩)) n42 e42
          rw [e41, gup_at, mnx_app, hs0]
          show nI (min (mnx 100 D) st.length) = nI (min (mnx 100 D) (min st.length 100))
          congr 1
          omega
        refine pk_le (mnx 100 D) st.length (fun z => fin _ (by omega)) (fun z => fin _ (by omega)) rfl rfl
      refine ⟨fun q3 => hit (fun z => (ha.mp q3) z.1), fun q3 => ⟨vp_in_nI (by omega) (by decide), ?_⟩⟩
      have hm0' : mode = 0 := Classical.byContradiction fun z => q3 (ha.mpr z)
      rw [show I1 200 11 = nI n by rw [d3.2 11 (by decide)]; exact hR.2.2.1.1, mk_pow _ (by omega)]
      refine ⟨fun q4 => ?_, fun q4 => hit (fun z => z.2 ((nI_eq (by omega) (by omega)).mp q4))⟩
      have hun : u ≠ 2 ^ n - 1 := fun e => q4 (by rw [e])
      rw [if_pos ⟨hm0', hun⟩] at hA
      unfold w_X10_seek_112
      intro n42 e42
      exact pop D I1 J1 hA d1 d2 d3 d4 hlv n42 e42
end
