/-! loops by a rank; rounds: the class -/
theorem gr1 {σ : Type} {s0 : σ} {m0 : Nat} (B : (σ → Prop) → σ → Prop) (P : Nat → σ → Prop) (h0 : P m0 s0) (st : ∀ m s, P m s → ∀ K : σ → Prop, (∀ m' s', m' < m → P m' s' → K s') → B K s) : ∃ (Inv : σ → Prop) (mu : σ → Nat), Inv s0 ∧ ∀ s, Inv s → B (fun s1 => Inv s1 ∧ mu s1 < mu s) s := by
  have hl : ∀ s, ∃ k, (∃ m, P m s) → P k s ∧ ∀ j, j < k → ¬ P j s := fun s => by
    by_cases h : ∃ m, P m s
    · obtain ⟨k, hk⟩ := g_least h; exact ⟨k, fun _ => hk⟩
    · exact ⟨0, fun q => absurd q h⟩
  refine ⟨fun s => ∃ m, P m s, fun s => Classical.choose (hl s), ⟨m0, h0⟩, fun s hs => ?_⟩
  have c := Classical.choose_spec (hl s) hs
  refine st _ s c.1 _ (fun m' s' hm hp => ⟨⟨m', hp⟩, ?_⟩)
  have c' := Classical.choose_spec (hl s') ⟨m', hp⟩
  rcases Nat.lt_or_ge m' (Classical.choose (hl s')) with z | z
  · exact absurd hp (c'.2 m' z)
  · exact Nat.lt_of_le_of_lt z hm
theorem gr2 {α β : Type} {a0 : α} {b0 : β} {m0 : Nat} (B : (α → β → Prop) → α → β → Prop) (P : Nat → α → β → Prop) (h0 : P m0 a0 b0) (st : ∀ m a b, P m a b → ∀ K : α → β → Prop, (∀ m' a' b', m' < m → P m' a' b' → K a' b') → B K a b) : ∃ (Inv : α → β → Prop) (mu : α → β → Nat), Inv a0 b0 ∧ ∀ a b, Inv a b → B (fun a1 b1 => Inv a1 b1 ∧ mu a1 b1 < mu a b) a b := by
  obtain ⟨Inv, mu, h1, h2⟩ := gr1 (s0 := (a0, b0)) (fun K s => B (fun a b => K (a, b)) s.1 s.2) (fun m s => P m s.1 s.2) h0 (fun m s hp K kk => st m s.1 s.2 hp _ (fun m' a' b' hm hp' => kk m' (a', b') hm hp'))
  exact ⟨fun a b => Inv (a, b), fun a b => mu (a, b), h1, fun a b h => h2 (a, b) h⟩
theorem gr3 {α β γ : Type} {a0 : α} {b0 : β} {c0 : γ} {m0 : Nat} (B : (α → β → γ → Prop) → α → β → γ → Prop) (P : Nat → α → β → γ → Prop) (h0 : P m0 a0 b0 c0) (st : ∀ m a b c, P m a b c → ∀ K : α → β → γ → Prop, (∀ m' a' b' c', m' < m → P m' a' b' c' → K a' b' c') → B K a b c) : ∃ (Inv : α → β → γ → Prop) (mu : α → β → γ → Nat), Inv a0 b0 c0 ∧ ∀ a b c, Inv a b c → B (fun a1 b1 c1 => Inv a1 b1 c1 ∧ mu a1 b1 c1 < mu a b c) a b c := by
  obtain ⟨Inv, mu, h1, h2⟩ := gr2 (a0 := a0) (b0 := (b0, c0)) (fun K a s => B (fun a b c => K a (b, c)) a s.1 s.2) (fun m a s => P m a s.1 s.2) h0 (fun m a s hp K kk => st m a s.1 s.2 hp _ (fun m' a' b' c' hm hp' => kk m' a' (b', c') hm hp'))
  exact ⟨fun a b c => Inv a (b, c), fun a b c => mu a (b, c), h1, fun a b c h => h2 a (b, c) h⟩
theorem gr4 {α β γ δ : Type} {a0 : α} {b0 : β} {c0 : γ} {d0 : δ} {m0 : Nat} (B : (α → β → γ → δ → Prop) → α → β → γ → δ → Prop) (P : Nat → α → β → γ → δ → Prop) (h0 : P m0 a0 b0 c0 d0) (st : ∀ m a b c d, P m a b c d → ∀ K : α → β → γ → δ → Prop, (∀ m' a' b' c' d', m' < m → P m' a' b' c' d' → K a' b' c' d') → B K a b c d) : ∃ (Inv : α → β → γ → δ → Prop) (mu : α → β → γ → δ → Nat), Inv a0 b0 c0 d0 ∧ ∀ a b c d, Inv a b c d → B (fun a1 b1 c1 d1 => Inv a1 b1 c1 d1 ∧ mu a1 b1 c1 d1 < mu a b c d) a b c d := by
  obtain ⟨Inv, mu, h1, h2⟩ := gr3 (a0 := a0) (b0 := b0) (c0 := (c0, d0)) (fun K a b s => B (fun a b c d => K a b (c, d)) a b s.1 s.2) (fun m a b s => P m a b s.1 s.2) h0 (fun m a b s hp K kk => st m a b s.1 s.2 hp _ (fun m' a' b' c' d' hm hp' => kk m' a' b' (c', d') hm hp'))
  exact ⟨fun a b c d => Inv a b (c, d), fun a b c d => mu a b (c, d), h1, fun a b c d h => h2 a b (c, d) h⟩
theorem gr5 {α β γ δ ε : Type} {a0 : α} {b0 : β} {c0 : γ} {d0 : δ} {e0 : ε} {m0 : Nat} (B : (α → β → γ → δ → ε → Prop) → α → β → γ → δ → ε → Prop) (P : Nat → α → β → γ → δ → ε → Prop) (h0 : P m0 a0 b0 c0 d0 e0) (st : ∀ m a b c d e, P m a b c d e → ∀ K : α → β → γ → δ → ε → Prop, (∀ m' a' b' c' d' e', m' < m → P m' a' b' c' d' e' → K a' b' c' d' e') → B K a b c d e) : ∃ (Inv : α → β → γ → δ → ε → Prop) (mu : α → β → γ → δ → ε → Nat), Inv a0 b0 c0 d0 e0 ∧ ∀ a b c d e, Inv a b c d e → B (fun a1 b1 c1 d1 e1 => Inv a1 b1 c1 d1 e1 ∧ mu a1 b1 c1 d1 e1 < mu a b c d e) a b c d e := by
  obtain ⟨Inv, mu, h1, h2⟩ := gr4 (a0 := a0) (b0 := b0) (c0 := c0) (d0 := (d0, e0)) (fun K a b c s => B (fun a b c d e => K a b c (d, e)) a b c s.1 s.2) (fun m a b c s => P m a b c s.1 s.2) h0 (fun m a b c s hp K kk => st m a b c s.1 s.2 hp _ (fun m' a' b' c' d' e' hm hp' => kk m' a' b' c' (d', e') hm hp'))
  exact ⟨fun a b c d e => Inv a b c (d, e), fun a b c d e => mu a b c (d, e), h1, fun a b c d e h => h2 a b c (d, e) h⟩
theorem i32_sac (x y z : Int32) : x - y + z = x + z - y := by
  rw [Int32.sub_eq_add_neg, Int32.sub_eq_add_neg, Int32.add_assoc, Int32.add_comm (-y) z, ← Int32.add_assoc]
theorem lsA_not {f g : Nat → Nat} {L k : Nat} (hk : ∀ i, i < k → f i = g i) (h : k = L ∨ g k < f k) : ¬ lsA f g L := by
  rintro ⟨i, h1, h2, h3⟩
  rcases Nat.lt_trichotomy i k with c | c | c
  · rw [hk i c] at h3; omega
  · subst c; omega
  · have := h2 k c; omega
theorem p_compareB {f : Nat → Nat} {L j : Nat} {I : gI} (hL : L ≤ 18) (hj : j < L) (hf : ∀ i, i < L → I 61 i = nI (f i) ∧ f i ≤ 18) {Po : Int32 → Prop} (h1 : lsA (fun i => f ((j + L - i) % L)) f L → Po 1) (h0 : ¬ lsA (fun i => f ((j + L - i) % L)) f L → ∀ r : Int32, r ≤ 0 → Po r) : wp_X1_compareBackwards (nI L) (nI j) I Po := by
  unfold wp_X1_compareBackwards w_X1_compareBackwards_2
  refine gl1 (N := L) (i0 := 0) (fun K v => w_X1_compareBackwards_2b Po K (nI L) (nI j) v I) (fun i => ∀ i', i' < i → f ((j + L - i') % L) = f i') (by omega) (by omega) (fun i' hi' => absurd hi' (by omega)) ?_
  rintro i hi g1 K kk
  unfold w_X1_compareBackwards_2b
  refine pk_le L i (fun hz => ?_) (fun hz => ?_) rfl rfl
  · exact h0 (lsA_not (k := i) g1 (Or.inl (by omega))) 0 (by decide)
  · have body : ∀ s : Nat, s = (j + L - i) % L → w_X1_compareBackwards_27 Po K (nI L) (nI j) (nI i) (nI s) I := by
      intro s hs
      have hsL : s < L := by rw [hs]; exact Nat.mod_lt _ (by omega)
      unfold w_X1_compareBackwards_27
      refine ⟨vp_in_nI (by omega) (by decide), ?_⟩
      rw [nI_clamp (n := s) (by omega), nI_clamp (n := i) (by omega), (hf s hsL).1, (hf i hz).1]
      intro n4 e4
      subst e4
      have a1 := (hf s hsL).2
      have a2 := (hf i hz).2
      refine ⟨vp_in_nI (by omega) (by decide), pk_eq (f i) (f s) (fun e => ?_) (fun e => ?_) rfl rfl⟩
      · intro n7 e7
        rw [nI_1] at e7
        subst e7
        refine kk hz (fun i' hi' => ?_)
        by_cases c : i' = i
        · subst c; rw [← hs, e]
        · exact g1 i' (by omega)
      · refine ⟨vp_in_nI (by omega) (by decide), ?_⟩
        unfold wp_J6_compare_7cf53
        refine pk_le (f s) (f i) (fun hle => ?_) (fun hlt => ?_) rfl rfl
        · refine ⟨fun _ => h1 ⟨i, hz, g1, ?_⟩, fun q => absurd ((nI_eq (by omega) (by omega)).mp q) e⟩
          show f ((j + L - i) % L) < f i
          rw [← hs]; omega
        · refine h0 (lsA_not (k := i) g1 (Or.inr ?_)) (-1) (by decide)
          show f i < f ((j + L - i) % L)
          rw [← hs]; exact hlt
    refine pk_lt j i (fun hlt => ?_) (fun hge => ?_) rfl rfl
    · rw [i32_sac, nI_add, pk_sub (by omega)]
      exact body _ (by rw [Nat.mod_eq_of_lt (by omega)])
    · rw [pk_sub (by omega)]
      refine body _ ?_
      rw [show j + L - i = (j - i) + L by omega, Nat.add_mod_right, Nat.mod_eq_of_lt (by omega)]
theorem p_backwards {f : Nat → Nat} {L : Nat} {I : gI} (hL : L ≤ 18) (hf : ∀ i, i < L → I 61 i = nI (f i) ∧ f i ≤ 18) {Po : Int32 → Prop} (h1 : (∀ j, j < L → ¬ lsA (fun i => f ((j + L - i) % L)) f L) → Po 1) (h0 : ¬ (∀ j, j < L → ¬ lsA (fun i => f ((j + L - i) % L)) f L) → Po 0) : wp_X1_comesFirstBackwards (nI L) I Po := by
  unfold wp_X1_comesFirstBackwards w_X1_comesFirstBackwards_2
  refine gl1 (N := L) (i0 := 0) (fun K v => w_X1_comesFirstBackwards_2b Po K (nI L) v I) (fun j => ∀ j', j' < j → ¬ lsA (fun i => f ((j' + L - i) % L)) f L) (by omega) (by omega) (fun i' hi' => absurd hi' (by omega)) ?_
  rintro j hj g1 K kk
  unfold w_X1_comesFirstBackwards_2b
  refine pk_le L j (fun hz => ?_) (fun hz => ?_) rfl rfl
  · exact h1 (fun j' hj' => g1 j' (by omega))
  · refine p_compareB hL hz hf (fun q => ⟨fun z => absurd z (by decide), fun _ => h0 (fun w => w j hz q)⟩) (fun q r hr => ⟨fun _ n4 e4 => ?_, fun z => absurd hr z⟩)
    rw [nI_1] at e4
    subst e4
    refine kk hz (fun j' hj' => ?_)
    by_cases c : j' = j
    · subst c; exact q
    · exact g1 j' (by omega)
/-- what the search finds there -/
def cEx (S : Nat → Bool) (mir : Prop) (w : Int32) (fd : Nat) (I : gI) : Prop := (∀ s, s < 32 → (bt (I 60 5) s = true ↔ S s = true)) ∧ (I 60 6 = 0 ↔ ¬ mir) ∧ I 60 7 = w ∧ I 60 8 = nI fd
def cKp (I I' : gI) : Prop := gSm [60, 61] I I' ∧ ∀ j, j ≠ 2 → j ≠ 8 → I' 60 j = I 60 j
theorem cKp_r (I : gI) : cKp I I := ⟨gSm_r I, fun _ _ _ => rfl⟩
theorem cKp_t {I I1 I2 : gI} (h1 : cKp I I1) (h2 : cKp I1 I2) : cKp I I2 := ⟨gSm_t h1.1 h2.1, fun j a b => (h2.2 j a b).trans (h1.2 j a b)⟩
theorem cEx_k {S : Nat → Bool} {mir : Prop} {w : Int32} {fd fd' : Nat} {I I' : gI} (h : cEx S mir w fd I) (k : cKp I I') (e : I' 60 8 = nI fd') : cEx S mir w fd' I' := by
  obtain ⟨h1, h2, h3, h4⟩ := h
  refine ⟨?_, ?_, ?_, e⟩
  · rw [k.2 5 (by decide) (by decide)]; exact h1
  · rw [k.2 6 (by decide) (by decide)]; exact h2
  · rw [k.2 7 (by decide) (by decide)]; exact h3
def rowIs (k : Nat) (t : List Nat) (I : gI) : Prop := ∀ i, i < t.length → I k i = nI (gt0 t i) ∧ gt0 t i ≤ 18 ∧ 1 ≤ gt0 t i
/-- what a search of the list G ends with, fd found before -/
def cNo (I : gI) (pre : List Nat) (w : Int32) (fd : Nat) (G : List (List Nat)) (I' : gI) : Prop := cKp I I' ∧ (∀ i, i < pre.length → I' 61 i = I 61 i) ∧ I' 60 8 = nI (fd + G.length) ∧ ∀ j, j < G.length → nI (fd + j) ≠ w
def cYes (I : gI) (w : Int32) (fd : Nat) (G : List (List Nat)) (I' : gI) : Prop := cKp I I' ∧ ∃ j t, G[j]? = some t ∧ nI (fd + j) = w ∧ (∀ j', j' < j → nI (fd + j') ≠ w) ∧ I' 60 2 = nI t.length ∧ rowIs 61 t I'
theorem p_isWanted {S : Nat → Bool} {mir : Prop} {w : Int32} {fd : Nat} {I : gI} {t : List Nat} {p : Nat} (hE : cEx S mir w fd I) (hL : t.length ≤ 18) (hr : rowIs 61 t I) (hf : fkm (gt0 t) t.length p) {Po : Int32 → gI → Prop} (hno : ∀ I', cNo I t w fd (if rGB mir t then [t] else []) I' → Po 0 I') (hyes : ∀ I', cYes I w fd (if rGB mir t then [t] else []) I' → Po 1 I') : wp_X1_isWanted (nI t.length) (nI p) I Po := by
  obtain ⟨h5, h6, h7, h8⟩ := hE
  have hp1 := hf.1
  have hp2 := hf.2.1
  have hend := fkm_end hf
  have isno : ¬ rGood mir t → Po 0 I := by
    intro hn
    rw [if_neg (by rw [rGB_t]; exact hn)] at hno
    exact hno I ⟨cKp_r I, fun _ _ => rfl, h8, fun j hj => absurd hj (Nat.not_lt_zero j)⟩
  have isyes : rGood mir t → w_X1_isWanted_37 Po (nI t.length) I := by
    intro hg
    rw [if_pos (by rw [rGB_t]; exact hg)] at hno hyes
    unfold w_X1_isWanted_37
    intro I4 e4 I5 e5
    have f8 : I4 60 8 = nI fd := by rw [e4, gup_ne (by decide)]; exact h8
    have g8 : I5 60 8 = nI (fd + 1) := by rw [e5, gup_at, f8, nI_1]
    have g7 : I5 60 7 = w := by rw [e5, gup_ne (by decide), e4, gup_ne (by decide)]; exact h7
    have g2 : I5 60 2 = nI t.length := by rw [e5, gup_ne (by decide), e4, gup_at]
    have ck : cKp I I5 := ⟨by rw [e5, e4]; exact gSm_u (gSm_u (gSm_r I) (by decide)) (by decide), fun j a b => by rw [e5, gup_ne b, e4, gup_ne a]⟩
    have c61 : I5 61 = I 61 := by rw [e5, gup_o (by decide), e4, gup_o (by decide)]
    rw [g8, g7, i_1, pk_sub (by omega), Nat.add_sub_cancel]
    refine ⟨fun q => hno I5 ⟨ck, fun i _ => by rw [c61], g8, fun j hj => ?_⟩, fun q => hyes I5 ⟨ck, 0, t, rfl, q, fun j' hj' => absurd hj' (by omega), g2, fun i hi => by rw [c61]; exact hr i hi⟩⟩
    obtain rfl : j = 0 := by simp at hj; omega
    exact q
  have split : ∀ s0 : Int32, (s0 = 0 ↔ ¬ t.length % p = 0) → w_X1_isWanted_15 Po (nI t.length) s0 I := by
    intro s0 hs
    unfold w_X1_isWanted_15
    refine ⟨fun q => isno (fun g => (hs.mp q) (hend.mp g.1)), fun q => ?_⟩
    have hm : t.length % p = 0 := Classical.byContradiction fun c => q (hs.mpr c)
    have h1 := hend.mpr hm
    refine ⟨fun q6 => isyes ⟨h1, fun m => absurd m (h6.mp q6)⟩, fun q6 => ?_⟩
    have hmir : mir := Classical.byContradiction fun c => q6 (h6.mpr c)
    exact p_backwards hL (fun i hi => ⟨(hr i hi).1, (hr i hi).2.1⟩) (fun z => ⟨fun _ => isyes ⟨h1, fun _ => z⟩, fun q => absurd q one_ne⟩) (fun z => ⟨fun q => absurd rfl q, fun _ => isno (fun g => z (g.2 hmir))⟩)
  unfold wp_X1_isWanted
  refine pk_le p 0 (fun hz => by omega) (fun hz => ?_) rfl rfl
  refine ⟨nI_ne0 (by omega) (by omega), ?_⟩
  rw [pk_rem (by omega) (by omega) (by omega)]
  have hlt : t.length % p < p := Nat.mod_lt _ (by omega)
  refine ⟨fun q => ?_, fun q => ?_⟩
  · unfold w_X1_isWanted_14
    exact split 0 ⟨fun _ e => q (by rw [e]; rfl), fun _ => rfl⟩
  · have e : t.length % p = 0 := (nI_eq (b := 0) (by omega) (by decide)).mp q
    exact split 1 ⟨fun z => absurd z one_ne, fun z => absurd e z⟩
theorem cYes_app {I I1 I2 : gI} {w : Int32} {fd : Nat} {D G R : List (List Nat)} (k : cKp I I1) (hd : ∀ j, j < D.length → nI (fd + j) ≠ w) (h : cYes I1 w (fd + D.length) G I2) : cYes I w fd (D ++ (G ++ R)) I2 := by
  obtain ⟨k2, j, t, h1, h2, h3, h4, h5⟩ := h
  have hj : j < G.length := by
    rcases Nat.lt_or_ge j G.length with z | z
    · exact z
    · rw [List.getElem?_eq_none z] at h1; cases h1
  refine ⟨cKp_t k k2, D.length + j, t, ?_, by rw [← Nat.add_assoc]; exact h2, fun j' hj' => ?_, h4, h5⟩
  · rw [List.getElem?_append_right (by omega), Nat.add_sub_cancel_left, List.getElem?_append_left hj]
    exact h1
  · by_cases c : j' < D.length
    · exact hd j' c
    · have := h3 (j' - D.length) (by omega)
      rw [show fd + D.length + (j' - D.length) = fd + j' by omega] at this
      exact this
theorem p_extend {S : Nat → Bool} (hS : ∀ s, S s = true → 1 ≤ s ∧ s ≤ 18) {mir : Prop} {w : Int32} : ∀ (f N : Nat), f < N → ∀ (pre : List Nat) (p left fd : Nat) (I : gI) (Po : Int32 → gI → Prop), pre.length + f = 18 → left ≤ f → (pre = [] ∧ p = 1 ∧ 0 < left ∨ fkm (gt0 pre) pre.length p) → rowIs 61 pre I → cEx S mir w fd I → (∀ I', cNo I pre w fd (rwG S (rGB mir) f pre left) I' → Po 0 I') → (∀ I', cYes I w fd (rwG S (rGB mir) f pre left) I' → Po 1 I') → wp_X1_extend N (nI pre.length) (nI p) (nI left) I Po
  | f, 0, hN, _, _, _, _, _, _, _, _, _, _, _, _, _ => absurd hN (by omega)
  | f, N + 1, hN, pre, p, left, fd, I, Po, hlen, hleft, hfk, hrow, hE, hno, hyes => by
    show wb_X1_extend (wp_X1_extend N) (nI pre.length) (nI p) (nI left) I Po
    unfold wb_X1_extend
    refine ⟨fun q => ?_, fun q => ?_⟩
    · have hl0 : 0 < left := by
        rcases Nat.eq_zero_or_pos left with z | z
        · rw [z] at q; exact absurd rfl q
        · exact z
      obtain ⟨f, rfl⟩ : ∃ f', f = f' + 1 := ⟨f - 1, by omega⟩
      refine pk_lt pre.length 18 (fun hlt => ?_) (fun hge => by omega) rfl rfl
      have loop : ∀ least : Nat, 1 ≤ least → least ≤ 18 → (∀ s, s < least → S s = true → ∀ v, ¬ rGood mir (pre ++ [s] ++ v)) → (∀ s, least ≤ s → S s = true → (pre.length < p ∨ pre.length - p < pre.length ∧ gt0 pre (pre.length - p) ≤ s)) → w_X1_extend_27 (wp_X1_extend N) Po (nI pre.length) (nI p) (nI left) (nI least) I := by
        intro least hle1 hle18 hskip hok
        rw [rwG_s hl0] at hno hyes
        unfold w_X1_extend_27
        refine gl2 (N := max (left + 1) least) (i0 := least) (fun K v I => w_X1_extend_27b (wp_X1_extend N) Po K (nI pre.length) (nI p) (nI left) v I) (fun s I' => least ≤ s ∧ ∃ D, cNo I pre w fd D I' ∧ rwH S (rwG S (rGB mir) f) pre left left 1 = D ++ rwH S (rwG S (rGB mir) f) pre left (left + 1 - s) s) (by omega) (by omega) ⟨Nat.le_refl _, [], ⟨cKp_r I, fun _ _ => rfl, hE.2.2.2, fun j hj => absurd hj (Nat.not_lt_zero j)⟩, ?_⟩ ?_
        · rw [List.nil_append]
          have nil : ∀ s', s' < least → S s' = true → rwG S (rGB mir) f (pre ++ [s']) (left - s') = [] := by
            intro s' h1 h2
            rw [List.eq_nil_iff_forall_not_mem]
            intro t ht
            obtain ⟨⟨v, rfl⟩, hg⟩ := rwG_mem ht
            exact hskip s' h1 h2 v (rGB_t.mp hg)
          by_cases c : least ≤ left + 1
          · have := rwH_skip (S := S) (G := rwG S (rGB mir) f) (pre := pre) (left := left) (least - 1) (n := left + 1 - least) (s := 1) (fun s' h1 h2 h3 => nil s' (by omega) h3)
            rw [show least - 1 + (left + 1 - least) = left by omega, show 1 + (least - 1) = least by omega] at this
            exact this
          · have := rwH_skip (S := S) (G := rwG S (rGB mir) f) (pre := pre) (left := left) left (n := 0) (s := 1) (fun s' h1 h2 h3 => nil s' (by omega) h3)
            rw [Nat.add_zero] at this
            rw [this, show left + 1 - least = 0 by omega]
            rfl
        rintro s I1 hs ⟨hs1, D, hD, hT⟩ K kk
        obtain ⟨d1, d2, d3, d4⟩ := hD
        unfold w_X1_extend_27b
        refine pk_lt left s (fun hz => ?_) (fun hz => ?_) rfl rfl
        · rw [show left + 1 - s = 0 by omega] at hT
          have hT : rwH S (rwG S (rGB mir) f) pre left left 1 = D ++ [] := hT
          rw [List.append_nil] at hT
          rw [hT] at hno
          exact hno I1 ⟨d1, d2, d3, d4⟩
        · rw [show left + 1 - s = (left - s) + 1 by omega] at hT
          have hT : rwH S (rwG S (rGB mir) f) pre left left 1 = D ++ ((if S s then rwG S (rGB mir) f (pre ++ [s]) (left - s) else []) ++ rwH S (rwG S (rGB mir) f) pre left (left - s) (s + 1)) := hT
          have hE1 := cEx_k hE d1 d3
          have nxt : ∀ I2 : gI, cNo I pre w fd (D ++ if S s then rwG S (rGB mir) f (pre ++ [s]) (left - s) else []) I2 → w_X1_extend_56 (wp_X1_extend N) Po K (nI pre.length) (nI p) (nI left) (nI s) I2 := by
            intro I2 h2
            unfold w_X1_extend_56
            intro n7 e7
            rw [nI_1] at e7
            subst e7
            refine kk (by omega) I2 ⟨by omega, _, h2, ?_⟩
            rw [hT, List.append_assoc, show left + 1 - (s + 1) = left - s by omega]
          unfold wp_X1_has
          have tb := bit_test (I1 60 5) (s := s) (by omega)
          refine ⟨fun q => ⟨fun _ => ?_, fun z => absurd rfl z⟩, fun q => ⟨fun z => absurd z one_ne, fun _ => ?_⟩⟩
          · have hn : ¬ S s = true := (lb_iff (hE1.1 s (by omega))).mp (tb.mp q)
            refine nxt I1 ?_
            rw [if_neg hn, List.append_nil]
            exact ⟨d1, d2, d3, d4⟩
          · have hp : S s = true := Classical.byContradiction fun hn => q (tb.mpr ((lb_iff (hE1.1 s (by omega))).mpr hn))
            have hs18 := hS s hp
            -- the recursive call
            have rcl : ∀ p' : Nat, fkm (gt0 (pre ++ [s])) (pre ++ [s]).length p' → ∀ I3 : gI, I3 = gup I1 61 pre.length (nI s) → w_X1_extendBy_47 (wp_X1_extend N) (fun r8 I9 => (r8 = 0 → w_X1_extend_56 (wp_X1_extend N) Po K (nI pre.length) (nI p) (nI left) (nI s) I9) ∧ (¬ r8 = 0 → Po 1 I9)) (nI s) (nI left) (nI p') (nI (pre.length + 1)) I3 := by
              intro p' hf' I3 e3
              unfold w_X1_extendBy_47
              rw [pk_sub (by omega)]
              have c3 : cKp I1 I3 := ⟨by rw [e3]; exact gSm_u (gSm_r I1) (by decide), fun j _ _ => by rw [e3, gup_o (by decide)]⟩
              have r3 : rowIs 61 (pre ++ [s]) I3 := by
                intro i hi
                rw [List.length_append, List.length_singleton] at hi
                by_cases c : i = pre.length
                · subst c; rw [gt0_at, e3, gup_at]; exact ⟨rfl, hs18.2, hs18.1⟩
                · rw [gt0_l (by omega), e3, gup_ne c, d2 i (by omega)]; exact hrow i (by omega)
              have e8 : I3 60 8 = nI (fd + D.length) := by rw [e3, gup_o (by decide)]; exact d3
              have len : (pre ++ [s]).length = pre.length + 1 := by rw [List.length_append, List.length_singleton]
              have ih := p_extend hS (mir := mir) (w := w) f N (by omega) (pre ++ [s]) p' (left - s) (fd + D.length) I3 (fun r8 I9 => (r8 = 0 ∨ r8 = 1) ∧ (r8 = 0 → w_X1_extend_56 (wp_X1_extend N) Po K (nI pre.length) (nI p) (nI left) (nI s) I9) ∧ (¬ r8 = 0 → Po 1 I9)) (by omega) (by omega) (Or.inr hf') r3 (cEx_k hE1 c3 e8) (fun I9 h9 => ?_) (fun I9 h9 => ?_)
              · rw [len] at ih
                exact ih
              · obtain ⟨o1, o2, o3, o4⟩ := h9
                refine ⟨Or.inl rfl, fun _ => nxt I9 ?_, fun z => absurd rfl z⟩
                rw [if_pos hp]
                refine ⟨cKp_t d1 (cKp_t c3 o1), fun i hi => ?_, ?_, fun j hj => ?_⟩
                · rw [o2 i (by omega), e3, gup_ne (by omega)]; exact d2 i hi
                · rw [o3, List.length_append, Nat.add_assoc]
                · rw [List.length_append] at hj
                  by_cases c : j < D.length
                  · exact d4 j c
                  · have := o4 (j - D.length) (by omega)
                    rw [show fd + D.length + (j - D.length) = fd + j by omega] at this
                    exact this
              · refine ⟨Or.inr rfl, fun z => absurd z one_ne, fun _ => hyes I9 ?_⟩
                rw [hT, if_pos hp]
                exact cYes_app (cKp_t d1 c3) d4 h9
            have len : (pre ++ [s]).length = pre.length + 1 := by rw [List.length_append, List.length_singleton]
            have go21 : (pre.length = 0 ∨ p ≤ pre.length ∧ fkm (gt0 pre) pre.length p ∧ gt0 pre (pre.length - p) < s) → w_X1_extendBy_21 (wp_X1_extend N) (fun r8 I9 => (r8 = 0 → w_X1_extend_56 (wp_X1_extend N) Po K (nI pre.length) (nI p) (nI left) (nI s) I9) ∧ (¬ r8 = 0 → Po 1 I9)) (nI s) (nI pre.length) (nI p) (nI left) I1 := by
              intro hc
              unfold w_X1_extendBy_21 w_X1_extendBy_22
              refine ⟨vp_in_nI (by omega) (by decide), ?_⟩
              rw [nI_clamp (by omega), nI_1]
              intro I3 e3
              refine ⟨fun _ => rcl _ ?_ I3 e3, fun z => absurd rfl z⟩
              rw [len]
              rcases hc with hc | ⟨hc1, hc2, hc3⟩
              · rw [hc]; exact fkm_one _
              · refine fkm_up (p := p) (fkm_cg hc2 (fun i hi => gt0_l hi)) ?_
                rw [gt0_at, gt0_l (by have := hc2.1; omega)]
                exact hc3
            unfold wp_X1_extendBy
            rcases hfk with ⟨rfl, rfl, _⟩ | hfk
            · exact ⟨fun _ => go21 (Or.inl rfl), fun z => absurd (by decide) z⟩
            · have hp1 := hfk.1
              have hp2 := hfk.2.1
              refine pk_lt pre.length p (fun z => by omega) (fun _ => ?_) rfl rfl
              rw [pk_sub hp2, nI_clamp (by omega), d2 _ (by omega), (hrow _ (by omega)).1]
              have g18 := (hrow (pre.length - p) (by omega)).2.1
              have hge : gt0 pre (pre.length - p) ≤ s := by
                rcases hok s hs1 hp with z | z
                · omega
                · exact z.2
              refine ⟨vp_in_nI (by omega) (by decide), fun q => ?_, fun q => ?_⟩
              · have hne : s ≠ gt0 pre (pre.length - p) := fun e => q (by rw [← e])
                exact go21 (Or.inr ⟨hp2, hfk, by omega⟩)
              · have he : s = gt0 pre (pre.length - p) := (nI_eq (by omega) (by omega)).mp q
                unfold w_X1_extendBy_22
                refine ⟨vp_in_nI (by omega) (by decide), ?_⟩
                rw [nI_clamp (by omega), nI_1]
                intro I3 e3
                refine ⟨fun z => absurd z one_ne, fun _ => rcl p ?_ I3 e3⟩
                rw [len]
                refine fkm_same (fkm_cg hfk (fun i hi => gt0_l hi)) ?_
                rw [gt0_at, gt0_l (by omega)]
                exact he
      unfold wp_X1_leastNext
      rcases hfk with ⟨rfl, rfl, _⟩ | hfk
      · refine ⟨fun z => absurd z (by decide), fun _ => ?_⟩
        exact loop 1 (by omega) (by omega) (fun s h1 h2 => by have := hS s h2; omega) (fun s h1 h2 => Or.inl (by decide))
      · have hp1 := hfk.1
        have hp2 := hfk.2.1
        refine pk_le p pre.length (fun _ => ?_) (fun z => by omega) rfl rfl
        rw [pk_sub hp2, nI_clamp (by omega), (hrow _ (by omega)).1]
        refine ⟨vp_in_nI (by omega) (by decide), ?_⟩
        have g18 := (hrow (pre.length - p) (by omega)).2
        · refine loop _ g18.2 g18.1 (fun s h1 h2 v hg => ?_) (fun s h1 h2 => Or.inr ⟨by omega, h1⟩)
          have hM : pre.length < (pre ++ [s] ++ v).length := by simp
          have hcg : fkm (gt0 (pre ++ [s] ++ v)) pre.length p := fkm_cg hfk (fun i hi => by rw [gt0_x (by simp; omega), gt0_l hi])
          have := fkm_skip hcg hM (by
            rw [gt0_x (by simp), gt0_at, gt0_x (by simp; omega), gt0_l (by omega)]
            exact h1)
          exact hg.1 p this.1 this.2
    · have hl0 : left = 0 := (nI_eq (b := 0) (by omega) (by decide)).mp q
      subst hl0
      rw [rwG_0] at hno hyes
      rcases hfk with ⟨_, _, z⟩ | hfk
      · omega
      · exact p_isWanted hE (by omega) hrow hfk (fun I' h => ⟨Or.inl rfl, hno I' h⟩) (fun I' h => ⟨Or.inr rfl, hyes I' h⟩)
