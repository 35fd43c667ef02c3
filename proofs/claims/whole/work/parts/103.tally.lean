/-! the class: tallies, climb, aim -/
theorem sN_set {p q : Nat → Bool} {f : Nat → Nat} {c : Nat} (hp : p c = false) (hq : q c = true) : ∀ {n : Nat}, (∀ i, i < n → i ≠ c → q i = p i) → c < n → sN q f n = sN p f n + f c
  | 0, _, h => absurd h (by omega)
  | n + 1, ho, h => by
    show sN q f n + (if q n then f n else 0) = sN p f n + (if p n then f n else 0) + f c
    by_cases e : c = n
    · subst e
      rw [hp, hq, sN_cg (p := q) (q := p) (g := f) (fun i hi => ⟨ho i (by omega) (by omega), fun _ => rfl⟩)]
      simp
    · rw [sN_set hp hq (fun i hi hne => ho i (by omega) hne) (by omega : c < n), ho n (by omega) (by omega)]
      omega
theorem sN_z {p q : Nat → Bool} {f : Nat → Nat} : ∀ {n : Nat}, (∀ i, i < n → (p i = true → q i = true) ∧ (q i = true → p i = false → f i = 0)) → sN p f n = sN q f n
  | 0, _ => rfl
  | n + 1, h => by
    show sN p f n + (if p n then f n else 0) = sN q f n + (if q n then f n else 0)
    rw [sN_z (fun i hi => h i (by omega))]
    obtain ⟨h1, h2⟩ := h n (by omega)
    cases hp : p n with
    | true => rw [h1 hp]
    | false =>
      cases hq : q n with
      | false => rfl
      | true => rw [h2 hq hp]; rfl
def Tl (d room : Nat) (F : Nat → Nat) (I : gI) (J : gL) : Prop := (∀ c, c < room → J (86 + d) c = lN (F c) ∧ F c < 4611686018427387904) ∧ ∃ (s : Nat) (cs : Nat → Nat), I (82 + d) 2 = nI s ∧ (∀ i, i < s → cs i < room ∧ F (cs i) ≠ 0 ∧ I (90 + d) i = nI (cs i)) ∧ (∀ c, c < room → F c ≠ 0 → ∃ i, i < s ∧ cs i = c) ∧ ∀ i j, i < s → j < s → cs i = cs j → i = j
theorem Tl_k {d room : Nat} {F : Nat → Nat} {I I' : gI} {J J' : gL} (h : Tl d room F I J) (h1 : I' (82 + d) 2 = I (82 + d) 2) (h2 : I' (90 + d) = I (90 + d)) (h3 : J' (86 + d) = J (86 + d)) : Tl d room F I' J' := by
  obtain ⟨a, s, cs, b⟩ := h
  exact ⟨by rw [h3]; exact a, s, cs, by rw [h1, h2]; exact b⟩
theorem Tl_cg {d room : Nat} {F F' : Nat → Nat} {I : gI} {J : gL} (h : Tl d room F I J) (e : ∀ c, c < room → F c = F' c) : Tl d room F' I J := by
  obtain ⟨a, s, cs, b1, b2, b3, b4⟩ := h
  exact ⟨fun c hc => by rw [← e c hc]; exact a c hc, s, cs, b1, fun i hi => ⟨(b2 i hi).1, by rw [← e _ (b2 i hi).1]; exact (b2 i hi).2.1, (b2 i hi).2.2⟩, fun c hc hf => b3 c hc (by rw [e c hc]; exact hf), b4⟩
theorem p_clear {d room : Nat} (hd : d < 4) (hr : room < 2147483647) {F : Nat → Nat} {I : gI} {J : gL} (hT : Tl d room F I J) {Po : gI → gL → Prop} (hk : ∀ I' J', gSm [82 + d] I I' → gJm [86 + d] J J' → Tl d room (fun _ => 0) I' J' → Po I' J') : wp_X7_clear d room I J Po := by
  obtain ⟨a, s, cs, b1, b2, b3, b4⟩ := hT
  have hs : s ≤ room := g_pig room s cs (fun i hi => (b2 i hi).1) b4
  unfold wp_X7_clear w_X7_clear_2
  refine gl2 (N := s) (i0 := 0) (fun K v J => w_X7_clear_2b d room Po K v I J) (fun j J' => gJm [86 + d] J J' ∧ ∀ c, c < room → J' (86 + d) c = if (∃ i, i < j ∧ cs i = c) then 0 else lN (F c)) (by omega) (by omega) ⟨gJm_r J, fun c hc => by rw [if_neg (fun ⟨i, h, _⟩ => absurd h (by omega))]; exact (a c hc).1⟩ ?_
  rintro j J1 hj ⟨g1, g2⟩ K kk
  unfold w_X7_clear_2b
  refine pk_le s j (fun hz => ?_) (fun hz => ?_) b1 rfl
  · obtain rfl : j = s := by omega
    intro I2 e2
    refine hk I2 J1 (by rw [e2]; exact gSm_u (gSm_r I) (by simp)) g1 ⟨fun c hc => ⟨?_, Nat.le_of_ble_eq_true rfl⟩, 0, fun _ => 0, by rw [e2, gup_at]; rfl, fun i hi => absurd hi (by omega), fun c _ h => absurd rfl h, fun i j hi => absurd hi (by omega)⟩
    rw [g2 c hc]
    by_cases e : F c = 0
    · rw [e]; split <;> rfl
    · rw [if_pos (b3 c hc e)]; rfl
  · obtain ⟨c1, c2, c3⟩ := b2 j hz
    rw [nI_clamp (n := j) (by omega), c3, nI_clamp (n := cs j) (by omega)]
    refine ⟨vp_in_nI (by omega) (by omega), vp_in_nI (by omega) (by omega), ?_⟩
    intro J5 e5 n6 e6
    rw [nI_1] at e6
    subst e6
    refine kk hz J5 ⟨by rw [e5]; exact gJm_u g1 (by simp), fun c hc => ?_⟩
    by_cases e : c = cs j
    · subst e
      rw [e5, gup_at, if_pos ⟨j, by omega, rfl⟩]
    · rw [e5, gup_ne e, g2 c hc]
      by_cases z : ∃ i, i < j ∧ cs i = c
      · obtain ⟨i, z1, z2⟩ := z
        rw [if_pos ⟨i, z1, z2⟩, if_pos ⟨i, by omega, z2⟩]
      · rw [if_neg z, if_neg (fun ⟨i, z1, z2⟩ => by
          by_cases y : i = j
          · subst y; exact e z2.symm
          · exact z ⟨i, by omega, z2⟩)]
theorem p_add {d room : Nat} (hd : d < 4) (hr : room < 2147483647) {F : Nat → Nat} {I : gI} {J : gL} (hT : Tl d room F I J) {code more : Nat} (hc : code < room) (hm : 1 ≤ more) (hb : F code + more < 4611686018427387904) {Po : gI → gL → Prop} (hk : ∀ I' J', gSm [82 + d, 90 + d] I I' → gJm [86 + d] J J' → Tl d room (fun c => F c + if c = code then more else 0) I' J' → Po I' J') : wp_X7_add d room (nI code) (lN more) I J Po := by
  obtain ⟨a, s, cs, b1, b2, b3, b4⟩ := hT
  have hs : s ≤ room := g_pig room s cs (fun i hi => (b2 i hi).1) b4
  obtain ⟨a1, a2⟩ := a code hc
  unfold wp_X7_add
  rw [nI_clamp (by omega), a1]
  have tb : ∀ J' : gL, J' = gup J (86 + d) code (lN (F code + more)) → ∀ c, c < room → J' (86 + d) c = lN (F c + if c = code then more else 0) ∧ (F c + if c = code then more else 0) < 4611686018427387904 := fun J' e c hcr => by
    rw [e]
    by_cases z : c = code
    · subst z; rw [gup_at, if_pos rfl]; exact ⟨rfl, hb⟩
    · rw [gup_ne z, if_neg z, Nat.add_zero]; exact a c hcr
  refine ⟨vp_in_nI hc (by omega), fun q => ?_, fun q => ?_⟩
  · have hne : F code ≠ 0 := fun e => q ((lg_cmp_eq _ _).mpr (by rw [e]; rfl))
    unfold w_X7_add_31
    rw [nI_clamp (by omega), a1, lN_add]
    refine ⟨vp_in_nI hc (by omega), vp_in_nI hc (by omega), ?_⟩
    intro J5 e5
    refine hk I J5 (gSm_r I) (by rw [e5]; exact gJm_u (gJm_r J) (by simp)) ⟨tb J5 e5, s, cs, b1, fun i hi => ⟨(b2 i hi).1, ?_, (b2 i hi).2.2⟩, fun c hcr hf => ?_, b4⟩
    · have := (b2 i hi).2.1
      show F (cs i) + (if cs i = code then more else 0) ≠ 0
      omega
    · by_cases z : c = code
      · exact b3 c hcr (by rw [z]; exact hne)
      · have hf : F c + (if c = code then more else 0) ≠ 0 := hf
        rw [if_neg z, Nat.add_zero] at hf
        exact b3 c hcr hf
  · have h0 : F code = 0 := (pk_lEQ (b := 0) (by omega) (by decide)).mp ((lg_cmp_eq _ _).mp q)
    have hnew : ∀ i, i < s → cs i ≠ code := fun i hi e => (b2 i hi).2.1 (by rw [e]; exact h0)
    have hs1 : s + 1 ≤ room := g_pig room (s + 1) (fun i => if i = s then code else cs i) (fun i hi => by
      show (if i = s then code else cs i) < room
      by_cases e : i = s
      · rw [if_pos e]; exact hc
      · rw [if_neg e]; exact (b2 i (by omega)).1) (fun i j hi hj e => by
      have e : (if i = s then code else cs i) = (if j = s then code else cs j) := e
      by_cases e1 : i = s
      · by_cases e2 : j = s
        · omega
        · rw [if_pos e1, if_neg e2] at e; exact absurd e.symm (hnew j (by omega))
      · by_cases e2 : j = s
        · rw [if_neg e1, if_pos e2] at e; exact absurd e (hnew i (by omega))
        · rw [if_neg e1, if_neg e2] at e; exact b4 i j (by omega) (by omega) e)
    rw [b1, nI_clamp (n := s) (by omega)]
    refine ⟨vp_in_nI (by omega) (by omega), ?_⟩
    intro I7 e7 I8 e8
    have x7 : I7 (82 + d) 2 = nI s := by rw [e7, gup_o (by omega)]; exact b1
    rw [x7, nI_1] at e8
    unfold w_X7_add_31
    rw [nI_clamp (by omega), a1, lN_add]
    refine ⟨vp_in_nI hc (by omega), vp_in_nI hc (by omega), ?_⟩
    intro J5 e5
    refine hk I8 J5 (by rw [e8, e7]; exact gSm_u (gSm_u (gSm_r I) (by simp)) (by simp)) (by rw [e5]; exact gJm_u (gJm_r J) (by simp)) ⟨tb J5 e5, s + 1, fun i => if i = s then code else cs i, by rw [e8, gup_at], fun i hi => ?_, fun c hcr hf => ?_, fun i j hi hj e => ?_⟩
    · show (if i = s then code else cs i) < room ∧ F (if i = s then code else cs i) + (if (if i = s then code else cs i) = code then more else 0) ≠ 0 ∧ I8 (90 + d) i = nI (if i = s then code else cs i)
      have x90 : I8 (90 + d) = gup I (90 + d) s (nI code) (90 + d) := by rw [e8, gup_o (by omega), e7]
      by_cases e : i = s
      · subst e; rw [if_pos rfl, if_pos rfl, x90, gup_at]; exact ⟨hc, by omega, rfl⟩
      · rw [if_neg e, if_neg (hnew i (by omega)), x90, gup_ne e]
        exact b2 i (by omega)
    · have hf : F c + (if c = code then more else 0) ≠ 0 := hf
      by_cases z : c = code
      · exact ⟨s, by omega, by show (if s = s then code else cs s) = c; rw [if_pos rfl, z]⟩
      · rw [if_neg z, Nat.add_zero] at hf
        obtain ⟨i, i1, i2⟩ := b3 c hcr hf
        exact ⟨i, by omega, by show (if i = s then code else cs i) = c; rw [if_neg (by omega)]; exact i2⟩
    · have e : (if i = s then code else cs i) = (if j = s then code else cs j) := e
      by_cases e1 : i = s
      · by_cases e2 : j = s
        · omega
        · rw [if_pos e1, if_neg e2] at e; exact absurd e.symm (hnew j (by omega))
      · by_cases e2 : j = s
        · rw [if_neg e1, if_pos e2] at e; exact absurd e (hnew i (by omega))
        · rw [if_neg e1, if_neg e2] at e; exact b4 i j (by omega) (by omega) e
/-- all four -/
def Tls (room : Nat) (Fs : Nat → Nat → Nat) (I : gI) (J : gL) : Prop := ∀ d, d < 4 → Tl d room (Fs d) I J
def tlI : List Nat := [82, 83, 84, 85, 90, 91, 92, 93]
def tlJ : List Nat := [86, 87, 88, 89]
theorem tlI_i {d : Nat} (hd : d < 4) : ∀ k, k ∈ [82 + d, 90 + d] → k ∈ tlI := fun k hk => by
  unfold tlI
  simp only [List.mem_cons, List.not_mem_nil, or_false] at hk ⊢
  omega
theorem tlJ_i {d : Nat} (hd : d < 4) : ∀ k, k ∈ [86 + d] → k ∈ tlJ := fun k hk => by
  unfold tlJ
  simp only [List.mem_cons, List.not_mem_nil, or_false] at hk ⊢
  omega
theorem Tls_up {room : Nat} {Fs : Nat → Nat → Nat} {I I' : gI} {J J' : gL} {d : Nat} (hd : d < 4) (h : Tls room Fs I J) (g1 : gSm [82 + d, 90 + d] I I') (g2 : gJm [86 + d] J J') {F : Nat → Nat} (hF : Tl d room F I' J') : Tls room (fun k => if k = d then F else Fs k) I' J' := fun k hk => by
  by_cases e : k = d
  · subst e
    have : (fun k' => if k' = k then F else Fs k') k = F := if_pos rfl
    rw [this]; exact hF
  · have : (fun k' => if k' = d then F else Fs k') k = Fs k := if_neg e
    rw [this]
    refine Tl_k (h k hk) ?_ ?_ ?_
    · rw [g1 (82 + k) (by simp only [List.mem_cons, List.not_mem_nil, or_false]; omega)]
    · exact g1 (90 + k) (by simp only [List.mem_cons, List.not_mem_nil, or_false]; omega)
    · exact g2 (86 + k) (by simp only [List.mem_cons, List.not_mem_nil, or_false]; omega)
/-- of the rows that count towards v: those whose south is a code before j, and of code j those before b -/
def gP (ok al : Nat → Bool) (N S cs : Nat → Nat) (j b v x : Nat) : Bool := (ok x && al x) && (decide (N x = v) && (decide (∃ i, i < j ∧ cs i = S x) || (decide (cs j = S x) && decide (x < b))))
theorem gP_t {ok al : Nat → Bool} {N S cs : Nat → Nat} {j b v x : Nat} : gP ok al N S cs j b v x = true ↔ ok x = true ∧ al x = true ∧ N x = v ∧ ((∃ i, i < j ∧ cs i = S x) ∨ (cs j = S x ∧ x < b)) := by
  unfold gP
  rw [Bool.and_eq_true, Bool.and_eq_true, Bool.and_eq_true, Bool.or_eq_true, Bool.and_eq_true, decide_eq_true_eq, decide_eq_true_eq, decide_eq_true_eq, decide_eq_true_eq, and_assoc]
theorem gP_f {ok al : Nat → Bool} {N S cs : Nat → Nat} {j b v x : Nat} (h : ¬ (ok x = true ∧ al x = true ∧ N x = v ∧ ((∃ i, i < j ∧ cs i = S x) ∨ (cs j = S x ∧ x < b)))) : gP ok al N S cs j b v x = false := by
  cases e : gP ok al N S cs j b v x with
  | false => rfl
  | true => exact absurd (gP_t.mp e) h
section
variable {room T w D : Nat} {c : Nat → Nat → Nat} {cl : Bool} {dig : Nat → Nat}
theorem Bld_k {I I' : gI} (h : Bld room T w D c cl dig I) (g : gSm tlI I I') : Bld room T w D c cl dig I' := by
  obtain ⟨a, b, c0, d, e, f, s0, s1⟩ := h
  have g70 : I' 70 = I 70 := g 70 (by decide)
  exact ⟨a, ⟨by rw [g70]; exact b.1, fun x h1 h2 => by rw [g 72 (by decide), g 73 (by decide), g 74 (by decide)]; exact b.2 x h1 h2⟩, by rw [g70]; exact c0, by rw [g70]; exact d, by rw [g70]; exact e, by rw [g70]; exact f, ⟨fun k hk => by rw [g 76 (by decide)]; exact s0.1 k hk, fun x h1 h2 h3 => by rw [g 77 (by decide)]; exact s0.2 x h1 h2 h3⟩, ⟨fun k hk => by rw [g 79 (by decide)]; exact s1.1 k hk, fun x h1 h2 h3 => by rw [g 80 (by decide)]; exact s1.2 x h1 h2 h3⟩⟩
/-- the class's ways -/
noncomputable def wyC (T w D : Nat) (c : Nat → Nat → Nat) (cl : Bool) (dig : Nat → Nat) (E : Nat → Nat) (k v : Nat) : Nat := wy (T ^ w) (fun x => okJ T w c cl w x && allP T (hasN T c) w x) (cd T D (fun t => dig (c t 0)) w) (cd T D (fun t => dig (c t 2)) w) E k v
theorem p_climb (hT8 : T ≤ 8) (hw1 : 1 ≤ w) (hw4 : w ≤ 4) (hroom : T ^ w ≤ room) (hr : room < 2147483647) {E : Nat → Nat} (hE : ∀ v, E v ≤ 1) (hEC : ∀ v, E v ≠ 0 → v < D ^ w) {Fs : Nat → Nat → Nat} {I : gI} {J : gL} (hB : Bld room T w D c cl dig I) (hT : Tls room Fs I J) (hF0 : ∀ v, v < room → Fs 0 v = E v) {depth : Nat} (hdep : depth ≤ 3) {Po : gI → gL → Prop} (hk : ∀ I' J' Fs', gSm tlI I I' → gJm tlJ J J' → Tls room Fs' I' J' → (∀ d, d ≤ depth → Fs' d = wyC T w D c cl dig E d) → Po I' J') : wp_X5_climb room (nI depth) I J Po := by
  have hTw : T ^ w ≤ 8 ^ w := Nat.pow_le_pow_left hT8 w
  have h8w := pw8 w hw4
  have hmX := cN_le (okJ T w c cl w) (T ^ w)
  have hDw : D ^ w ≤ T ^ w := Nat.pow_le_pow_left hB.1.1 w
  have hT0 : ∀ x, x < T ^ w → 0 < T := fun x hx => by
    rcases Nat.eq_zero_or_pos T with z | z
    · subst z; rw [Nat.zero_pow (by omega)] at hx; omega
    · exact z
  have wyb : ∀ k v, k ≤ 4 → wyC T w D c cl dig E k v ≤ 281474976710656 := fun k v hk4 => by
    have h1 : wyC T w D c cl dig E k v ≤ (T ^ w) ^ k := wy_le hE k v
    have h2 : (T ^ w) ^ k ≤ 4096 ^ k := Nat.pow_le_pow_left (by omega) k
    have h3 : 4096 ^ k ≤ 4096 ^ 4 := Nat.pow_le_pow_right (by decide) hk4
    have h4 : 4096 ^ 4 = 281474976710656 := by decide
    omega
  unfold wp_X5_climb w_X5_climb_2
  refine gl3 (N := depth) (i0 := 0) (fun K v I J => w_X5_climb_2b room Po K (nI depth) v I J) (fun d I' J' => gSm tlI I I' ∧ gJm tlJ J J' ∧ ∃ Fs', Tls room Fs' I' J' ∧ ∀ k, k ≤ d → ∀ v, v < room → Fs' k v = wyC T w D c cl dig E k v) (by omega) (by omega) ⟨gSm_r I, gJm_r J, Fs, hT, fun k hk0 v hv => by rw [show k = 0 by omega]; exact hF0 v hv⟩ ?_
  rintro d I1 J1 hd ⟨g1, g2, Fs1, g3, g4⟩ K kk
  unfold w_X5_climb_2b
  refine pk_le depth d (fun hz => ?_) (fun hz => ?_) rfl rfl
  · obtain rfl : d = depth := by omega
    refine hk I1 J1 (fun k => if k ≤ d then wyC T w D c cl dig E k else Fs1 k) g1 g2 (fun k hk4 => ?_) (fun k hkd => if_pos hkd)
    by_cases e : k ≤ d
    · have : (fun k => if k ≤ d then wyC T w D c cl dig E k else Fs1 k) k = wyC T w D c cl dig E k := if_pos e
      rw [this]; exact Tl_cg (g3 k hk4) (g4 k e)
    · have : (fun k => if k ≤ d then wyC T w D c cl dig E k else Fs1 k) k = Fs1 k := if_neg e
      rw [this]; exact g3 k hk4
  · rw [nI_1, nI_clamp (by omega), nI_clamp (by omega)]
    refine ⟨vp_in_nI (by omega) (by decide), vp_in_nI (by omega) (by decide), ?_⟩
    refine p_clear (by omega) hr (g3 (d + 1) (by omega)) (fun I2 J2 y1 y2 y3 => ?_)
    have y1' : gSm [82 + (d + 1), 90 + (d + 1)] I1 I2 := gSm_w y1 (fun k hk => by simp only [List.mem_cons, List.not_mem_nil, or_false] at hk ⊢; omega)
    have hT2 := Tls_up (by omega) g3 y1' y2 y3
    -- what stands at d does not change any more
    obtain ⟨fa, s, cs, fb1, fb2, fb3, fb4⟩ := Tl_cg (g3 d (by omega)) (g4 d (Nat.le_refl _))
    have hs : s ≤ room := g_pig room s cs (fun i hi => (fb2 i hi).1) fb4
    have frm : ∀ (I' : gI) (J' : gL), gSm [82 + (d + 1), 90 + (d + 1)] I1 I' → gJm [86 + (d + 1)] J1 J' → I' (82 + d) 2 = nI s ∧ I' (90 + d) = I1 (90 + d) ∧ J' (86 + d) = J1 (86 + d) := fun I' J' h1 h2 => by
      refine ⟨?_, ?_, ?_⟩
      · rw [h1 (82 + d) (by simp only [List.mem_cons, List.not_mem_nil, or_false]; omega)]; exact fb1
      · exact h1 (90 + d) (by simp only [List.mem_cons, List.not_mem_nil, or_false]; omega)
      · exact h2 (86 + d) (by simp only [List.mem_cons, List.not_mem_nil, or_false]; omega)
    have csD : ∀ j, j < s → cs j < D ^ w := fun j hj => by
      have hne := (fb2 j hj).2.1
      cases d with
      | zero => exact hEC _ hne
      | succ d =>
        have hp : 0 < sN (fun x => (okJ T w c cl w x && allP T (hasN T c) w x) && decide (cd T D (fun t => dig (c t 0)) w x = cs j)) (fun x => wyC T w D c cl dig E d (cd T D (fun t => dig (c t 2)) w x)) (T ^ w) := Nat.pos_of_ne_zero hne
        obtain ⟨x, x1, x2, _⟩ := sN_pos.mp hp
        rw [Bool.and_eq_true, Bool.and_eq_true, decide_eq_true_eq] at x2
        rw [← x2.2]
        exact cdN_lt (hT0 x x1) hB.1.2.1 w x x2.1.2
    -- the tally so far: codes before j, and of code j the rows before b
    have hwyd : ∀ x, wyC T w D c cl dig E d (cd T D (fun t => dig (c t 2)) w x) ≤ 68719476736 := fun x => by
      have h1 : wyC T w D c cl dig E d (cd T D (fun t => dig (c t 2)) w x) ≤ (T ^ w) ^ d := wy_le hE d _
      have h3 : (T ^ w) ^ d ≤ 4096 ^ d := Nat.pow_le_pow_left (by omega) d
      have h4 : 4096 ^ d ≤ 4096 ^ 3 := Nat.pow_le_pow_right (by decide) (by omega)
      have h5 : 4096 ^ 3 = 68719476736 := by decide
      omega
    have Gle : ∀ j b v, sN (gP (okJ T w c cl w) (allP T (hasN T c) w) (cd T D (fun t => dig (c t 0)) w) (cd T D (fun t => dig (c t 2)) w) cs j b v) (fun x => wyC T w D c cl dig E d (cd T D (fun t => dig (c t 2)) w x)) (T ^ w) ≤ 281474976710656 := fun j b v => by
      have h1 := sN_le (p := gP (okJ T w c cl w) (allP T (hasN T c) w) (cd T D (fun t => dig (c t 0)) w) (cd T D (fun t => dig (c t 2)) w) cs j b v) (f := fun x => wyC T w D c cl dig E d (cd T D (fun t => dig (c t 2)) w x)) (B := 68719476736) (n := T ^ w) (fun x _ _ => hwyd x)
      have h2 := cN_le (gP (okJ T w c cl w) (allP T (hasN T c) w) (cd T D (fun t => dig (c t 0)) w) (cd T D (fun t => dig (c t 2)) w) cs j b v) (T ^ w)
      omega
    have bldOf : ∀ I' : gI, gSm [82 + (d + 1), 90 + (d + 1)] I1 I' → Bld room T w D c cl dig I' := fun I' h => Bld_k hB (gSm_t g1 (gSm_w h (tlI_i (by omega))))
    unfold w_X5_climb_32
    refine gl3 (N := s) (i0 := 0) (fun K2 v I J => w_X5_climb_32b room Po K K2 (nI depth) (nI d) d (d + 1) v I J) (fun j I' J' => gSm [82 + (d + 1), 90 + (d + 1)] I1 I' ∧ gJm [86 + (d + 1)] J1 J' ∧ Tl (d + 1) room (fun v => sN (gP (okJ T w c cl w) (allP T (hasN T c) w) (cd T D (fun t => dig (c t 0)) w) (cd T D (fun t => dig (c t 2)) w) cs j 0 v) (fun x => wyC T w D c cl dig E d (cd T D (fun t => dig (c t 2)) w x)) (T ^ w)) I' J') (by omega) (by omega) ⟨y1', y2, Tl_cg y3 (fun v hv => ?_)⟩ ?_
    · exact (sN_zero (fun x _ hx => by
        obtain ⟨_, _, _, h⟩ := gP_t.mp hx
        rcases h with ⟨i, h, _⟩ | ⟨_, h⟩ <;> omega)).symm
    rintro j I3 J3 hj ⟨p1, p2, p3⟩ K2 kk2
    obtain ⟨q1, q2, q3⟩ := frm I3 J3 p1 p2
    have hB3 := bldOf I3 p1
    unfold w_X5_climb_32b
    refine pk_le s j (fun hz2 => ?_) (fun hz2 => ?_) q1 rfl
    · obtain rfl : j = s := by omega
      intro n7 e7
      rw [nI_1] at e7
      subst e7
      have hT3 := Tls_up (by omega) g3 p1 p2 p3
      refine kk hz I3 J3 ⟨gSm_t g1 (gSm_w p1 (tlI_i (by omega))), gJm_t g2 (gJm_w p2 (tlJ_i (by omega))), _, hT3, fun k hk v hv => ?_⟩
      by_cases e : k = d + 1
      · subst e
        show (if d + 1 = d + 1 then _ else Fs1 (d + 1)) v = _
        rw [if_pos rfl]
        refine sN_z (p := gP (okJ T w c cl w) (allP T (hasN T c) w) (cd T D (fun t => dig (c t 0)) w) (cd T D (fun t => dig (c t 2)) w) cs j 0 v) (q := fun x => (okJ T w c cl w x && allP T (hasN T c) w x) && decide (cd T D (fun t => dig (c t 0)) w x = v)) (fun x hx => ⟨fun h1 => ?_, fun h1 h2 => ?_⟩)
        · obtain ⟨z1, z2, z3, _⟩ := gP_t.mp h1
          rw [Bool.and_eq_true, Bool.and_eq_true, decide_eq_true_eq]
          exact ⟨⟨z1, z2⟩, z3⟩
        · apply Classical.byContradiction
          intro hne
          have hsl : cd T D (fun t => dig (c t 2)) w x < room := by
            have := cd_lt (T := T) (b := D) (f := fun t => dig (c t 2)) (hT0 x hx) (fun t ht => hB.1.2.1 t ht) w x
            omega
          obtain ⟨i, i1, i2⟩ := fb3 _ hsl hne
          rw [Bool.and_eq_true, Bool.and_eq_true, decide_eq_true_eq] at h1
          rw [gP_t.mpr ⟨h1.1.1, h1.1.2, h1.2, Or.inl ⟨i, i1, i2⟩⟩] at h2
          exact absurd h2 (by decide)
      · show (if k = d + 1 then _ else Fs1 k) v = _
        rw [if_neg e]
        exact g4 k (by omega) v hv
    · obtain ⟨c1, c2, c3⟩ := fb2 j hz2
      have hcD := csD j hz2
      obtain ⟨_, _, _, _, _, hC12, _, sh1⟩ := id hB3
      have hbl := bX_le (X := T ^ w) (ok := okJ T w c cl w) (cnd := fun _ => true) (cf := cd T D (fun t => dig (c t 2)) w) (c := cs j + 1)
      have hbs := bX_s (X := T ^ w) (ok := okJ T w c cl w) (cnd := fun _ => true) (cf := cd T D (fun t => dig (c t 2)) w) (c := cs j)
      have e79 : I3 79 (cs j) = nI (bX (T ^ w) (okJ T w c cl w) (fun _ => true) (cd T D (fun t => dig (c t 2)) w) (cs j)) := sh1.1 (cs j) (by omega)
      rw [nI_clamp (n := j) (by omega), q2, c3]
      refine ⟨vp_in_nI (by omega) (by omega), ?_⟩
      intro n9 e9
      subst e9
      rw [nI_clamp (n := cs j) (by omega), e79]
      refine ⟨vp_in_nI (by omega) (by omega), ?_⟩
      intro n11 e11
      subst e11
      unfold w_X5_climb_62
      refine gl3 (N := bX (T ^ w) (okJ T w c cl w) (fun _ => true) (cd T D (fun t => dig (c t 2)) w) (cs j + 1)) (i0 := bX (T ^ w) (okJ T w c cl w) (fun _ => true) (cd T D (fun t => dig (c t 2)) w) (cs j)) (fun K3 v I J => w_X5_climb_62b room Po K K2 K3 (nI depth) (nI d) d (d + 1) (nI j) (nI (cs j)) v I J) (fun i I' J' => ∃ b, b ≤ T ^ w ∧ i = bX (T ^ w) (okJ T w c cl w) (fun _ => true) (cd T D (fun t => dig (c t 2)) w) (cs j) + cN (pX (okJ T w c cl w) (fun _ => true) (cd T D (fun t => dig (c t 2)) w) (cs j)) b ∧ gSm [82 + (d + 1), 90 + (d + 1)] I1 I' ∧ gJm [86 + (d + 1)] J1 J' ∧ Tl (d + 1) room (fun v => sN (gP (okJ T w c cl w) (allP T (hasN T c) w) (cd T D (fun t => dig (c t 0)) w) (cd T D (fun t => dig (c t 2)) w) cs j b v) (fun x => wyC T w D c cl dig E d (cd T D (fun t => dig (c t 2)) w x)) (T ^ w)) I' J') (by omega) (by omega) ⟨0, Nat.zero_le _, rfl, p1, p2, p3⟩ ?_
      rintro i I4 J4 hi ⟨b, hb, rfl, o1, o2, o3⟩ K3 kk3
      have hB4 := bldOf I4 o1
      obtain ⟨_, rws, _, _, _, _, _, sh4⟩ := id hB4
      have e79' : I4 79 (cs j + 1) = nI (bX (T ^ w) (okJ T w c cl w) (fun _ => true) (cd T D (fun t => dig (c t 2)) w) (cs j + 1)) := sh4.1 (cs j + 1) (by omega)
      unfold w_X5_climb_62b
      rw [nI_1, nI_clamp (n := cs j + 1) (by omega), e79']
      refine ⟨vp_in_nI (by omega) (by omega), pk_le _ _ (fun hz3 => ?_) (fun hz3 => ?_) rfl rfl⟩
      · intro n14 e14
        rw [nI_1] at e14
        subst e14
        have hfull : cN (pX (okJ T w c cl w) (fun _ => true) (cd T D (fun t => dig (c t 2)) w) (cs j)) (T ^ w) ≤ cN (pX (okJ T w c cl w) (fun _ => true) (cd T D (fun t => dig (c t 2)) w) (cs j)) b := by omega
        have stop := cN_stop hfull hb
        refine kk2 hz2 I4 J4 ⟨o1, o2, Tl_cg o3 (fun v hv => sN_cg (fun x hx => ⟨?_, fun _ => rfl⟩))⟩
        rw [Bool.eq_iff_iff, gP_t, gP_t]
        constructor
        · rintro ⟨z1, z2, z3, z4⟩
          refine ⟨z1, z2, z3, Or.inl ?_⟩
          rcases z4 with ⟨i, y1, y2⟩ | ⟨y1, _⟩
          · exact ⟨i, by omega, y2⟩
          · exact ⟨j, by omega, y1⟩
        · rintro ⟨z1, z2, z3, z4⟩
          refine ⟨z1, z2, z3, ?_⟩
          rcases z4 with ⟨i, y1, y2⟩ | ⟨_, y2⟩
          · by_cases e : i = j
            · subst e
              refine Or.inr ⟨y2, ?_⟩
              rcases Nat.lt_or_ge x b with z | z
              · exact z
              · have := stop x z hx
                rw [pX_t.mpr ⟨z1, rfl, y2.symm⟩] at this
                exact absurd this (by decide)
            · exact Or.inl ⟨i, by omega, y2⟩
          · omega
      · obtain ⟨x, x1, x2, x3, x4, x5, x6⟩ := Shx_nx sh4 (c := cs j) (y := b) (by omega)
        obtain ⟨z1, _, z3⟩ := pX_t.mp x3
        have gap := cN_gap x3 x4 x1
        obtain ⟨_, r73, _⟩ := rws.2 x x2 z1
        have x5 : I4 80 (bX (T ^ w) (okJ T w c cl w) (fun _ => true) (cd T D (fun t => dig (c t 2)) w) (cs j) + cN (pX (okJ T w c cl w) (fun _ => true) (cd T D (fun t => dig (c t 2)) w) (cs j)) b) = nI (cN (okJ T w c cl w) x) := x5
        rw [nI_clamp (by omega), x5, nI_clamp (n := cN (okJ T w c cl w) x) (by omega), r73]
        refine ⟨vp_in_nI (by omega) (by omega), vp_in_nI (by omega) (by omega), ?_⟩
        intro n17 e17
        have nxt : ∀ (I' : gI) (J' : gL), gSm [82 + (d + 1), 90 + (d + 1)] I1 I' → gJm [86 + (d + 1)] J1 J' → Tl (d + 1) room (fun v => sN (gP (okJ T w c cl w) (allP T (hasN T c) w) (cd T D (fun t => dig (c t 0)) w) (cd T D (fun t => dig (c t 2)) w) cs j (x + 1) v) (fun x => wyC T w D c cl dig E d (cd T D (fun t => dig (c t 2)) w x)) (T ^ w)) I' J' → w_X5_climb_116 room Po K K2 K3 (nI depth) (nI d) d (d + 1) (nI j) (nI (cs j)) (nI (bX (T ^ w) (okJ T w c cl w) (fun _ => true) (cd T D (fun t => dig (c t 2)) w) (cs j) + cN (pX (okJ T w c cl w) (fun _ => true) (cd T D (fun t => dig (c t 2)) w) (cs j)) b)) I' J' := by
          intro I' J' u1 u2 u3
          unfold w_X5_climb_116
          intro n19 e19
          rw [nI_1] at e19
          subst e19
          exact kk3 (by omega) I' J' ⟨x + 1, by omega, by rw [cN_su x3, x4, Nat.add_assoc], u1, u2, u3⟩
        -- the rows before x + 1 are those before b, and x
        have same : ∀ v y, y < T ^ w → y ≠ x → gP (okJ T w c cl w) (allP T (hasN T c) w) (cd T D (fun t => dig (c t 0)) w) (cd T D (fun t => dig (c t 2)) w) cs j (x + 1) v y = gP (okJ T w c cl w) (allP T (hasN T c) w) (cd T D (fun t => dig (c t 0)) w) (cd T D (fun t => dig (c t 2)) w) cs j b v y := fun v y hy hne => by
          rw [Bool.eq_iff_iff, gP_t, gP_t]
          constructor
          · rintro ⟨w1, w2, w3, w4⟩
            refine ⟨w1, w2, w3, ?_⟩
            rcases w4 with w4 | ⟨w4, w5⟩
            · exact Or.inl w4
            · refine Or.inr ⟨w4, ?_⟩
              rcases Nat.lt_or_ge y b with z | z
              · exact z
              · have := gap y z (by omega)
                rw [pX_t.mpr ⟨w1, rfl, w4.symm⟩] at this
                exact absurd this (by decide)
          · rintro ⟨w1, w2, w3, w4⟩
            refine ⟨w1, w2, w3, ?_⟩
            rcases w4 with w4 | ⟨w4, w5⟩
            · exact Or.inl w4
            · exact Or.inr ⟨w4, by omega⟩
        have notb : ¬ ((∃ i, i < j ∧ cs i = cd T D (fun t => dig (c t 2)) w x) ∨ (cs j = cd T D (fun t => dig (c t 2)) w x ∧ x < b)) := by
          rintro (⟨i, w1, w2⟩ | ⟨_, w2⟩)
          · have := fb4 i j (by omega) hz2 (by rw [w2, z3]); omega
          · omega
        unfold nbI at e17
        refine ⟨fun q => ?_, fun q => ?_⟩
        · have hno : ¬ allP T (hasN T c) w x = true := fun z => by
            rw [if_pos z] at e17
            have := cdN_lt (dig := dig) (c := c) (hT0 x x2) hB.1.2.1 w x z
            rw [e17] at q
            exact nI_m1 (by omega) q
          refine nxt I4 J4 o1 o2 (Tl_cg o3 (fun v hv => sN_cg (fun y hy => ⟨?_, fun _ => rfl⟩)))
          by_cases e : y = x
          · subst e
            rw [gP_f (fun z => hno z.2.1), gP_f (fun z => hno z.2.1)]
          · exact (same v y hy e).symm
        · have hal : allP T (hasN T c) w x = true := Classical.byContradiction fun z => q (by rw [e17, if_neg z])
          rw [if_pos hal] at e17
          subst e17
          have hNl := cdN_lt (dig := dig) (c := c) (hT0 x x2) hB.1.2.1 w x hal
          obtain ⟨_, _, q3'⟩ := frm I4 J4 o1 o2
          rw [nI_clamp (n := cs j) (by omega), q3', (fa (cs j) c1).1]
          refine ⟨vp_in_nI (by omega) (by omega), ?_⟩
          have hw0 : 1 ≤ wyC T w D c cl dig E d (cs j) := Nat.pos_of_ne_zero c2
          have hwl := hwyd x
          rw [z3] at hwl
          refine p_add (by omega) hr o3 (by omega) hw0 (by have := Gle j b (cd T D (fun t => dig (c t 0)) w x); omega) (fun I5 J5 u1 u2 u3 => nxt I5 J5 (gSm_t o1 u1) (gJm_t o2 u2) (Tl_cg u3 (fun v hv => ?_)))
          by_cases e : v = cd T D (fun t => dig (c t 0)) w x
          · subst e
            rw [if_pos rfl, sN_set (q := gP (okJ T w c cl w) (allP T (hasN T c) w) (cd T D (fun t => dig (c t 0)) w) (cd T D (fun t => dig (c t 2)) w) cs j (x + 1) (cd T D (fun t => dig (c t 0)) w x)) (c := x) (gP_f (fun z => notb z.2.2.2)) (gP_t.mpr ⟨z1, hal, rfl, Or.inr ⟨z3.symm, by omega⟩⟩) (fun y hy hne => same _ y hy hne) x2, z3]
          · rw [if_neg e, Nat.add_zero]
            refine sN_cg (fun y hy => ⟨?_, fun _ => rfl⟩)
            by_cases e2 : y = x
            · subst e2
              rw [gP_f (fun z => e z.2.2.1.symm), gP_f (fun z => e z.2.2.1.symm)]
            · exact (same v y hy e2).symm
/-- aiming at one code, or anywhere -/
theorem p_aimAt (hT8 : T ≤ 8) (hw1 : 1 ≤ w) (hw4 : w ≤ 4) (hroom : T ^ w ≤ room) (hr : room < 2147483647) {Fs : Nat → Nat → Nat} {I : gI} {J : gL} (hB : Bld room T w D c cl dig I) (hT : Tls room Fs I J) {code depth : Nat} (hcode : code < D ^ w) (hdep : depth ≤ 3) {Po : gI → gL → Prop} (hk : ∀ I' J' Fs', gSm tlI I I' → gJm tlJ J J' → Tls room Fs' I' J' → (∀ d, d ≤ depth → Fs' d = wyC T w D c cl dig (fun v => if v = code then 1 else 0) d) → Po I' J') : wp_X5_aimAt room (nI code) (nI depth) I J Po := by
  have hDw : D ^ w ≤ T ^ w := Nat.pow_le_pow_left hB.1.1 w
  unfold wp_X5_aimAt
  refine ⟨vp_in_nI (n := 0) (by decide) (by decide), ?_⟩
  rw [show ((0 : Int32)).toNatClampNeg = 0 from rfl]
  refine p_clear (by decide) hr (hT 0 (by decide)) (fun I1 J1 a1 a2 a3 => ⟨vp_in_nI (n := 0) (by decide) (by decide), ?_⟩)
  have t1 := Tls_up (d := 0) (by decide) hT (gSm_w a1 (by decide)) a2 a3
  rw [i_64_1]
  refine p_add (by decide) hr a3 (by omega) (Nat.le_refl 1) (by decide) (fun I2 J2 b1 b2 b3 => ?_)
  have t2 := Tls_up (d := 0) (by decide) t1 b1 b2 b3
  have s2 : gSm tlI I I2 := gSm_t (gSm_w a1 (by decide)) (gSm_w b1 (by decide))
  have j2 : gJm tlJ J J2 := gJm_t (gJm_w a2 (by decide)) (gJm_w b2 (by decide))
  refine p_climb hT8 hw1 hw4 hroom hr (E := fun v => if v = code then 1 else 0) (fun v => by show (if v = code then 1 else 0) ≤ 1; split <;> omega) (fun v hv => ?_) (Bld_k hB s2) t2 (fun v hv => ?_) hdep (fun I3 J3 Fs3 e1 e2 e3 e4 => hk I3 J3 Fs3 (gSm_t s2 e1) (gJm_t j2 e2) e3 e4)
  · have hv : (if v = code then 1 else 0) ≠ 0 := hv
    by_cases e : v = code
    · rw [e]; exact hcode
    · rw [if_neg e] at hv; exact absurd rfl hv
  · show (if (0 : Nat) = 0 then (fun v => 0 + if v = code then 1 else 0) else _) v = _
    rw [if_pos rfl, Nat.zero_add]
theorem p_aimAny (hT8 : T ≤ 8) (hw1 : 1 ≤ w) (hw4 : w ≤ 4) (hroom : T ^ w ≤ room) (hr : room < 2147483647) {Fs : Nat → Nat → Nat} {I : gI} {J : gL} (hB : Bld room T w D c cl dig I) (hT : Tls room Fs I J) {depth : Nat} (hdep : depth ≤ 3) {Po : gI → gL → Prop} (hk : ∀ I' J' Fs', gSm tlI I I' → gJm tlJ J J' → Tls room Fs' I' J' → (∀ d, d ≤ depth → Fs' d = wyC T w D c cl dig (fun v => if v < D ^ w then 1 else 0) d) → Po I' J') : wp_X5_aimAnywhere room (nI depth) I J Po := by
  have hDw : D ^ w ≤ T ^ w := Nat.pow_le_pow_left hB.1.1 w
  unfold wp_X5_aimAnywhere
  refine ⟨vp_in_nI (n := 0) (by decide) (by decide), ?_⟩
  rw [show ((0 : Int32)).toNatClampNeg = 0 from rfl]
  refine p_clear (by decide) hr (hT 0 (by decide)) (fun I1 J1 a1 a2 a3 => ?_)
  have t1 := Tls_up (d := 0) (by decide) hT (gSm_w a1 (by decide)) a2 a3
  have s1 : gSm tlI I I1 := gSm_w a1 (by decide)
  have j1 : gJm tlJ J J1 := gJm_w a2 (by decide)
  unfold w_X5_aimAnywhere_11
  refine gl3 (N := D ^ w) (i0 := 0) (fun K v I J => w_X5_aimAnywhere_11b room Po K (nI depth) v I J) (fun k I' J' => gSm tlI I I' ∧ gJm tlJ J J' ∧ ∃ Fs', Tls room Fs' I' J' ∧ ∀ v, v < room → Fs' 0 v = if v < k then 1 else 0) (by omega) (by omega) ⟨s1, j1, _, t1, fun v hv => by rw [if_neg (Nat.not_lt_zero v)]; rfl⟩ ?_
  rintro k I2 J2 hk2 ⟨g1, g2, Fs2, g3, g4⟩ K kk
  have hB2 := Bld_k hB g1
  unfold w_X5_aimAnywhere_11b
  refine pk_le (D ^ w) k (fun hz => ?_) (fun hz => ?_) hB2.2.2.2.2.2.1 rfl
  · obtain rfl : k = D ^ w := by omega
    refine p_climb hT8 hw1 hw4 hroom hr (E := fun v => if v < D ^ w then 1 else 0) (fun v => by show (if v < D ^ w then 1 else 0) ≤ 1; split <;> omega) (fun v hv => ?_) hB2 g3 g4 hdep (fun I3 J3 Fs3 e1 e2 e3 e4 => hk I3 J3 Fs3 (gSm_t g1 e1) (gJm_t g2 e2) e3 e4)
    have hv : (if v < D ^ w then 1 else 0) ≠ 0 := hv
    by_cases e : v < D ^ w
    · exact e
    · rw [if_neg e] at hv; exact absurd rfl hv
  · refine ⟨vp_in_nI (n := 0) (by decide) (by decide), ?_⟩
    rw [show ((0 : Int32)).toNatClampNeg = 0 from rfl, i_64_1]
    refine p_add (by decide) hr (g3 0 (by decide)) (by omega) (Nat.le_refl 1) (by rw [g4 k (by omega), if_neg (Nat.lt_irrefl k)]; decide) (fun I3 J3 b1 b2 b3 => ?_)
    intro n10 e10
    rw [nI_1] at e10
    subst e10
    refine kk hz I3 J3 ⟨gSm_t g1 (gSm_w b1 (by decide)), gJm_t g2 (gJm_w b2 (by decide)), _, Tls_up (d := 0) (by decide) g3 b1 b2 b3, fun v hv => ?_⟩
    show (if (0 : Nat) = 0 then (fun c => Fs2 0 c + if c = k then 1 else 0) else _) v = _
    rw [if_pos rfl]
    show Fs2 0 v + (if v = k then 1 else 0) = _
    rw [g4 v hv]
    by_cases e : v = k
    · subst e; rw [if_neg (Nat.lt_irrefl v), if_pos rfl, if_pos (by omega)]
    · rw [if_neg e, Nat.add_zero]
      by_cases z : v < k
      · rw [if_pos z, if_pos (by omega)]
      · rw [if_neg z, if_neg (by omega)]
end
