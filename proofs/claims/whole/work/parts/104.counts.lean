/-! the RowGraph told by short names; what it counts -/
theorem sN_if {p : Nat → Bool} {P : Nat → Bool} {f : Nat → Nat} : ∀ {n : Nat}, sN p (fun i => if P i = true then f i else 0) n = sN (fun i => p i && P i) f n
  | 0 => rfl
  | n + 1 => by
    show sN p (fun i => if P i = true then f i else 0) n + (if p n = true then (if P n = true then f n else 0) else 0) = sN (fun i => p i && P i) f n + (if (p n && P n) = true then f n else 0)
    rw [sN_if]
    cases p n <;> cases P n <;> rfl
/-- just one counts -/
theorem sN_one {p : Nat → Bool} {f : Nat → Nat} {j n : Nat} (hj : j < n) (hp : p j = true) (ho : ∀ i, i < n → p i = true → i = j) : sN p f n = f j := by
  have h1 := sN_set (p := fun _ => false) (q := p) (f := f) (c := j) (n := n) rfl hp (fun i hi hne => by
    cases e : p i with
    | false => rfl
    | true => exact absurd (ho i hi e) hne) hj
  rw [h1, sN_zero (fun i _ h => absurd h (by decide)), Nat.zero_add]
theorem xr_lt {ok : Nat → Bool} {X r : Nat} (h : r < cN ok X) : xr ok r < X ∧ ok (xr ok r) = true ∧ cN ok (xr ok r) = r := by
  obtain ⟨x, h1, h2, h3⟩ := cN_nth h
  have : xr ok r = x := by rw [← h3]; exact xr_at h2
  rw [this]
  exact ⟨h1, h2, h3⟩
theorem sN_xr {ok : Nat → Bool} (f : Nat → Nat) : ∀ x, sN (fun _ => true) (fun r => f (xr ok r)) (cN ok x) = sN ok f x
  | 0 => rfl
  | x + 1 => by
    show sN (fun _ => true) (fun r => f (xr ok r)) (cN ok x + (if ok x = true then 1 else 0)) = sN ok f x + (if ok x = true then f x else 0)
    cases h : ok x with
    | false => exact sN_xr f x
    | true =>
      show sN (fun _ => true) (fun r => f (xr ok r)) (cN ok x) + f (xr ok (cN ok x)) = _
      rw [xr_at h, sN_xr f x]; rfl
theorem sN_ts {f : Nat → Nat} {k : Nat} : sN (fun _ => true) f (k + 1) = sN (fun _ => true) f k + f k := rfl
theorem Shx_xr {b X : Nat} {ok cnd : Nat → Bool} {cf : Nat → Nat} {C c k : Nat} {I : gI} (h : Shx b X ok cnd cf C I) (hk : k < cN (pX ok cnd cf c) X) : I (77 + 3 * b) (bX X ok cnd cf c + k) = nI (cN ok (xr (pX ok cnd cf c) k)) ∧ xr (pX ok cnd cf c) k < X ∧ ok (xr (pX ok cnd cf c) k) = true ∧ cnd (xr (pX ok cnd cf c) k) = true ∧ cf (xr (pX ok cnd cf c) k) = c ∧ cN (pX ok cnd cf c) (xr (pX ok cnd cf c) k) = k := by
  obtain ⟨h1, h2, h3⟩ := xr_lt hk
  obtain ⟨q1, q2, q3⟩ := pX_t.mp h2
  have := h.2 _ h1 q1 q2
  rw [q3, h3] at this
  exact ⟨this, h1, q1, q2, q3, h3⟩
def Bla (room X C w : Nat) (cl : Bool) (ok al : Nat → Bool) (N S tc : Nat → Nat) (I : gI) : Prop := ∃ (T D : Nat) (c : Nat → Nat → Nat) (dig : Nat → Nat), X = T ^ w ∧ C = D ^ w ∧ ok = okJ T w c cl w ∧ al = allP T (hasN T c) w ∧ N = cd T D (fun t => dig (c t 0)) w ∧ S = cd T D (fun t => dig (c t 2)) w ∧ tc = cd T 8 (fun t => t) w ∧ T ≤ 8 ∧ 1 ≤ w ∧ w ≤ 4 ∧ T ^ w ≤ room ∧ room < 2147483647 ∧ Bld room T w D c cl dig I
section
variable {room X C w : Nat} {cl : Bool} {ok al : Nat → Bool} {N S tc : Nat → Nat} {I I' : gI} {J : gL}
theorem Bla_n (h : Bla room X C w cl ok al N S tc I) : X ≤ room ∧ X ≤ 4096 ∧ C ≤ X ∧ room < 2147483647 ∧ 1 ≤ w ∧ w ≤ 4 ∧ cN ok X ≤ X := by
  obtain ⟨T, D, c, dig, rfl, rfl, rfl, rfl, rfl, rfl, rfl, h1, h2, h3, h4, h5, h6⟩ := h
  have hTw : T ^ w ≤ 8 ^ w := Nat.pow_le_pow_left h1 w
  have h8w := pw8 w h3
  have hDw : D ^ w ≤ T ^ w := Nat.pow_le_pow_left h6.1.1 w
  have := cN_le (okJ T w c cl w) (T ^ w)
  exact ⟨h4, by omega, hDw, h5, h2, h3, this⟩
theorem Bla_m (h : Bla room X C w cl ok al N S tc I) : I 70 13 = nI (cN ok X) := by
  obtain ⟨T, D, c, dig, rfl, rfl, rfl, rfl, rfl, rfl, rfl, h1, h2, h3, h4, h5, h6⟩ := h
  exact h6.2.1.1
theorem Bla_c (h : Bla room X C w cl ok al N S tc I) : I 70 9 = nI w ∧ (I 70 10 = 0 ↔ cl = false) ∧ I 70 12 = nI C ∧ I 70 0 = nI room := by
  obtain ⟨T, D, c, dig, rfl, rfl, rfl, rfl, rfl, rfl, rfl, h1, h2, h3, h4, h5, _, _, h6, h7, h8, h9, _⟩ := h
  exact ⟨h7, h8, h9, h6⟩
theorem Bla_0 (h : Bla room X C w cl ok al N S tc I) : Shx 0 X ok al N C I := by
  obtain ⟨T, D, c, dig, rfl, rfl, rfl, rfl, rfl, rfl, rfl, h1, h2, h3, h4, h5, _, _, h6, h7, h8, h9, h10, h11⟩ := h
  exact h10
theorem Bla_1 (h : Bla room X C w cl ok al N S tc I) : Shx 1 X ok (fun _ => true) S C I := by
  obtain ⟨T, D, c, dig, rfl, rfl, rfl, rfl, rfl, rfl, rfl, h1, h2, h3, h4, h5, _, _, h6, h7, h8, h9, h10, h11⟩ := h
  exact h11
theorem Bla_r (h : Bla room X C w cl ok al N S tc I) {x : Nat} (hx : x < X) (ho : ok x = true) : I 72 (cN ok x) = nI (tc x) ∧ I 73 (cN ok x) = (if al x = true then nI (N x) else -1) ∧ I 74 (cN ok x) = nI (S x) ∧ S x < C ∧ (al x = true → N x < C) ∧ cN ok x < cN ok X ∧ tc x < 4096 := by
  obtain ⟨T, D, c, dig, rfl, rfl, rfl, rfl, rfl, rfl, rfl, h1, h2, h3, h4, h5, h6⟩ := h
  have hT0 : 0 < T := by
    rcases Nat.eq_zero_or_pos T with z | z
    · subst z; rw [Nat.zero_pow (by omega)] at hx; omega
    · exact z
  obtain ⟨r1, r2, r3⟩ := h6.2.1.2 x hx ho
  have h8w := pw8 w h3
  exact ⟨r1, r2, r3, cd_lt hT0 h6.1.2.1 w x, fun h => cdN_lt hT0 h6.1.2.1 w x h, cN_ms hx ho, Nat.lt_of_lt_of_le (cd_lt hT0 (fun t ht => by omega) w x) h8w⟩
theorem Bla_al (h : Bla room X C w cl ok al N S tc I) (hcl : cl = true) {x : Nat} (ho : ok x = true) : al x = true := by
  obtain ⟨T, D, c, dig, rfl, rfl, rfl, rfl, rfl, rfl, rfl, h1, h2, h3, h4, h5, h6⟩ := h
  subst hcl
  unfold okJ at ho
  rw [Bool.and_eq_true, Bool.not_true, Bool.false_or, Bool.and_eq_true] at ho
  exact ho.2.1
theorem Bla_k (h : Bla room X C w cl ok al N S tc I) (g : gSm tlI I I') : Bla room X C w cl ok al N S tc I' := by
  obtain ⟨T, D, c, dig, q1, q2, q3, q4, q5, q6, q7, h1, h2, h3, h4, h5, h6⟩ := h
  exact ⟨T, D, c, dig, q1, q2, q3, q4, q5, q6, q7, h1, h2, h3, h4, h5, Bld_k h6 g⟩
theorem Bla_any (h : Bla room X C w cl ok al N S tc I) {Fs : Nat → Nat → Nat} (hT : Tls room Fs I J) {depth : Nat} (hdep : depth ≤ 3) {Po : gI → gL → Prop} (hk : ∀ I' J' Fs', gSm tlI I I' → gJm tlJ J J' → Bla room X C w cl ok al N S tc I' → Tls room Fs' I' J' → (∀ d, d ≤ depth → Fs' d = wy X (fun x => ok x && al x) N S (fun v => if v < C then 1 else 0) d) → Po I' J') : wp_X5_aimAnywhere room (nI depth) I J Po := by
  have hb := h
  obtain ⟨T, D, c, dig, rfl, rfl, rfl, rfl, rfl, rfl, rfl, h1, h2, h3, h4, h5, h6⟩ := h
  exact p_aimAny h1 h2 h3 h4 h5 h6 hT hdep (fun I' J' Fs' a1 a2 a3 a4 => hk I' J' Fs' a1 a2 (Bla_k hb a1) a3 a4)
theorem Bla_at (h : Bla room X C w cl ok al N S tc I) {Fs : Nat → Nat → Nat} (hT : Tls room Fs I J) {code depth : Nat} (hcode : code < C) (hdep : depth ≤ 3) {Po : gI → gL → Prop} (hk : ∀ I' J' Fs', gSm tlI I I' → gJm tlJ J J' → Bla room X C w cl ok al N S tc I' → Tls room Fs' I' J' → (∀ d, d ≤ depth → Fs' d = wy X (fun x => ok x && al x) N S (fun v => if v = code then 1 else 0) d) → Po I' J') : wp_X5_aimAt room (nI code) (nI depth) I J Po := by
  have hb := h
  obtain ⟨T, D, c, dig, rfl, rfl, rfl, rfl, rfl, rfl, rfl, h1, h2, h3, h4, h5, h6⟩ := h
  exact p_aimAt h1 h2 h3 h4 h5 h6 hT hcode hdep (fun I' J' Fs' a1 a2 a3 a4 => hk I' J' Fs' a1 a2 (Bla_k hb a1) a3 a4)
/-- ways by a shelf -/
theorem wy_pX {E : Nat → Nat} {k v : Nat} : wy X (fun x => ok x && al x) N S E (k + 1) v = sN (pX ok al N v) (fun x => wy X (fun x => ok x && al x) N S E k (S x)) X := by
  refine sN_cg (fun x _ => ⟨?_, fun _ => rfl⟩)
  show (ok x && al x && decide (N x = v)) = (ok x && (al x && decide (N x = v)))
  rw [Bool.and_assoc]
theorem p_countOpen (h : Bla room X C w cl ok al N S tc I) {Fs : Nat → Nat → Nat} (hT : Tls room Fs I J) {ht : Nat} (h1 : 1 ≤ ht) (h4 : ht ≤ 4) {Po : Int64 → gI → gL → Prop} (hk : ∀ I' J', gSm tlI I I' → gJm tlJ J J' → (∃ Fs', Tls room Fs' I' J') → Po (lN (sN ok (fun x => wy X (fun x => ok x && al x) N S (fun v => if v < C then 1 else 0) (ht - 1) (S x)) X)) I' J') : wp_X5_countOpen room (nI ht) I J Po := by
  unfold wp_X5_countOpen
  rw [i_1, pk_sub h1]
  refine Bla_any h hT (by omega) (fun I1 J1 Fs1 a1 a2 a3 a4 a5 => ⟨vp_in_nI (by omega) (by decide), ?_⟩)
  rw [nI_clamp (by omega)]
  obtain ⟨n1, n2, n3, n4, n5, n6, n7⟩ := Bla_n a3
  unfold w_X5_countOpen_21
  refine gl2b (N := cN ok X) (i0 := 0) (fun K a v => w_X5_countOpen_21b room Po K (ht - 1) a v I1 J1) (fun r a => a = lN (sN (fun _ => true) (fun r => wy X (fun x => ok x && al x) N S (fun v => if v < C then 1 else 0) (ht - 1) (S (xr ok r))) r)) (by omega) (by omega) rfl ?_
  rintro r _ hr rfl K kk
  unfold w_X5_countOpen_21b
  refine pk_le (cN ok X) r (fun hz => ?_) (fun hz => ?_) (Bla_m a3) rfl
  · obtain rfl : r = cN ok X := by omega
    rw [sN_xr (fun x => wy X (fun x => ok x && al x) N S (fun v => if v < C then 1 else 0) (ht - 1) (S x))]
    exact hk I1 J1 a1 a2 ⟨Fs1, a4⟩
  · obtain ⟨x1, x2, x3⟩ := xr_lt hz
    obtain ⟨_, _, r74, rS, _⟩ := Bla_r a3 x1 x2
    rw [x3] at r74
    rw [nI_clamp (n := r) (by omega), r74, nI_clamp (n := S (xr ok r)) (by omega)]
    refine ⟨vp_in_nI (by omega) (by omega), vp_in_nI (by omega) (by omega), ?_⟩
    have hJ := ((a4 (ht - 1) (by omega)).1 (S (xr ok r)) (by omega)).1
    rw [a5 (ht - 1) (Nat.le_refl _)] at hJ
    rw [hJ, lN_add, nI_1]
    intro n7' e7 n8 e8
    subst e7 e8
    exact kk hz _ rfl
theorem p_countLoops (h : Bla room X C w cl ok al N S tc I) {code : Nat} (hc : code < C) {Po : Int64 → Prop} (hk : Po (lN (wy X (fun x => ok x && al x) N S (fun v => if v = code then 1 else 0) 1 code))) : wp_X5_countLoops room (nI code) I Po := by
  obtain ⟨n1, n2, n3, n4, n5, n6, n7⟩ := Bla_n h
  have sh := Bla_0 h
  have hbl := bX_le (X := X) (ok := ok) (cnd := al) (cf := N) (c := code + 1)
  have hbs := bX_s (X := X) (ok := ok) (cnd := al) (cf := N) (c := code)
  have e76 : I 76 code = nI (bX X ok al N code) := sh.1 code (by omega)
  have e76' : I 76 (code + 1) = nI (bX X ok al N (code + 1)) := sh.1 (code + 1) (by omega)
  unfold wp_X5_countLoops
  refine ⟨vp_in_nI (by omega) (by omega), ?_⟩
  rw [nI_clamp (n := code) (by omega), e76]
  intro n2' e2
  subst e2
  unfold w_X5_countLoops_13
  refine gl2b (N := bX X ok al N (code + 1)) (i0 := bX X ok al N code) (fun K a v => w_X5_countLoops_13b room Po K (nI code) a v I) (fun i a => ∃ k, i = bX X ok al N code + k ∧ a = lN (sN (fun _ => true) (fun r => if S (xr (pX ok al N code) r) = code then 1 else 0) k)) (by omega) (by omega) ⟨0, rfl, rfl⟩ ?_
  rintro _ _ hi ⟨k, rfl, rfl⟩ K kk
  unfold w_X5_countLoops_13b
  rw [nI_1, nI_clamp (n := code + 1) (by omega), e76']
  refine ⟨vp_in_nI (by omega) (by omega), pk_le _ _ (fun hz => ?_) (fun hz => ?_) rfl rfl⟩
  · obtain rfl : k = cN (pX ok al N code) X := by omega
    rw [sN_xr (fun x => if S x = code then 1 else 0)]
    rw [wy_pX] at hk
    exact hk
  · obtain ⟨y1, y2, y3, y4, y5, y6⟩ := Shx_xr sh (c := code) (k := k) (by omega)
    have y1 : I 77 (bX X ok al N code + k) = _ := y1
    obtain ⟨_, _, r74, rS, _, r6, _⟩ := Bla_r h y2 y3
    rw [nI_clamp (by omega), y1, nI_clamp (n := cN ok _) (by omega), r74]
    refine ⟨vp_in_nI (by omega) (by omega), vp_in_nI (by omega) (by omega), fun q => ?_, fun q => ?_⟩
    · unfold w_X5_countLoops_54
      intro n8 e8 n9 e9
      rw [nI_1] at e9
      subst e8 e9
      refine kk (by omega) _ ⟨k + 1, by omega, ?_⟩
      rw [sN_ts, if_neg (fun z => q (by rw [z])), Nat.add_zero]
      exact lN_add _ 0
    · unfold w_X5_countLoops_54
      intro n8 e8 n9 e9
      rw [nI_1] at e9
      subst e8 e9
      refine kk (by omega) _ ⟨k + 1, by omega, ?_⟩
      rw [sN_ts, if_pos ((nI_eq (by omega) (by omega)).mp q)]
      exact lN_add _ 1
end
