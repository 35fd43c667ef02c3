/-! rings counted from each code -/
section
variable {room X C w : Nat} {cl : Bool} {ok al : Nat → Bool} {N S tc : Nat → Nat} {I I' : gI} {J : gL}
theorem p_countRingsFrom (h : Bla room X C w cl ok al N S tc I) {Fs : Nat → Nat → Nat} (hT : Tls room Fs I J) {code ht : Nat} (hc : code < C) (h1 : 2 ≤ ht) (h4 : ht ≤ 4) {Po : Int64 → gI → gL → Prop} (hk : ∀ I' J', gSm tlI I I' → gJm tlJ J J' → (∃ Fs', Tls room Fs' I' J') → Po (lN (wy X (fun x => ok x && al x) N S (fun v => if v = code then 1 else 0) ht code)) I' J') : wp_X5_countRingsFrom room (nI code) (nI ht) I J Po := by
  unfold wp_X5_countRingsFrom
  rw [i_2, pk_sub h1]
  refine Bla_at h hT hc (by omega) (fun I1 J1 Fs1 a1 a2 a3 a4 a5 => ⟨vp_in_nI (by omega) (by decide), vp_in_nI (n := 3) (by decide) (by decide), ?_⟩)
  obtain ⟨n1, n2, n3, n4, n5, n6, n7⟩ := Bla_n a3
  rw [show ((3 : Int32)).toNatClampNeg = 3 from rfl]
  have c3 : ((3 : Nat) < 4) := by decide
  refine p_clear c3 n4 (a4 3 c3) (fun I2 J2 b1 b2 b3 => ⟨vp_in_nI (by omega) (by omega), ?_⟩)
  have t2 := Tls_up (d := 3) c3 a4 (gSm_w b1 (by decide)) b2 b3
  have s2 : gSm tlI I1 I2 := gSm_w b1 (by decide)
  have bl2 := Bla_k a3 s2
  rw [nI_clamp (n := ht - 2) (by omega), nI_clamp (n := code) (by omega)]
  have shOf : ∀ {I' : gI}, Bla room X C w cl ok al N S tc I' → ∀ v, v ≤ C → I' 76 v = nI (bX X ok al N v) := fun b v hv => (Bla_0 b).1 v hv
  rw [shOf bl2 code (by omega)]
  intro n8 e8
  subst e8
  have hbl := fun v => bX_le (X := X) (ok := ok) (cnd := al) (cf := N) (c := v)
  have hbs := fun v => bX_s (X := X) (ok := ok) (cnd := al) (cf := N) (c := v)
  have hb1 := hbl (code + 1)
  have hb2 := hbs code
  unfold w_X5_countRingsFrom_41
  refine gl3 (N := bX X ok al N (code + 1)) (i0 := bX X ok al N code) (fun K v I J => w_X5_countRingsFrom_41b room Po K (nI code) (ht - 2) 3 v I J) (fun i I' J' => ∃ k, i = bX X ok al N code + k ∧ gSm [85, 93] I2 I' ∧ gJm [89] J2 J' ∧ Tl 3 room (fun v => sN (fun _ => true) (fun r => if S (xr (pX ok al N code) r) = v then 1 else 0) k) I' J') (by omega) (by omega) ⟨0, rfl, gSm_r _, gJm_r _, b3⟩ ?_
  rintro _ I3 J3 hi ⟨k, rfl, g1, g2, g3⟩ K kk
  have s3 : gSm tlI I1 I3 := gSm_t s2 (gSm_w g1 (by decide))
  have bl3 := Bla_k a3 s3
  have j3 : gJm tlJ J1 J3 := gJm_t (gJm_w b2 (by decide)) (gJm_w g2 (by decide))
  unfold w_X5_countRingsFrom_41b
  rw [nI_1, nI_clamp (n := code + 1) (by omega), shOf bl3 (code + 1) (by omega)]
  refine ⟨vp_in_nI (by omega) (by omega), pk_le _ _ (fun hz => ?_) (fun hz => ?_) rfl rfl⟩
  · obtain rfl : k = cN (pX ok al N code) X := by omega
    have t3 := Tls_up (d := 3) c3 t2 g1 g2 g3
    have e3 : ∀ v, sN (fun _ => true) (fun r => if S (xr (pX ok al N code) r) = v then 1 else 0) (cN (pX ok al N code) X) = sN (pX ok al N code) (fun x => if S x = v then 1 else 0) X := fun v => sN_xr (fun x => if S x = v then 1 else 0) X
    have g3 := Tl_cg g3 (fun v _ => e3 v)
    obtain ⟨fa, s, cs, fb1, fb2, fb3, fb4⟩ := g3
    have hs : s ≤ room := g_pig room s cs (fun i hi => (fb2 i hi).1) fb4
    have fin : sN (fun _ => true) (fun j => sN (pX ok al N code) (fun x => if S x = cs j then 1 else 0) X * wy X (fun x => ok x && al x) N S (fun v => if v = code then 1 else 0) (ht - 1) (cs j)) s = wy X (fun x => ok x && al x) N S (fun v => if v = code then 1 else 0) ht code := by
      obtain ⟨m, rfl⟩ : ∃ m, ht = m + 1 := ⟨ht - 1, by omega⟩
      rw [Nat.add_sub_cancel, wy_pX]
      have u1 : sN (fun _ => true) (fun j => sN (pX ok al N code) (fun x => if S x = cs j then 1 else 0) X * wy X (fun x => ok x && al x) N S (fun v => if v = code then 1 else 0) m (cs j)) s = sN (fun _ => true) (fun j => sN (fun x => pX ok al N code x && decide (S x = cs j)) (fun x => wy X (fun x => ok x && al x) N S (fun v => if v = code then 1 else 0) m (cs j)) X) s := by
        refine sN_cg (fun j _ => ⟨rfl, fun _ => ?_⟩)
        show sN (pX ok al N code) (fun x => if S x = cs j then 1 else 0) X * _ = _
        rw [sN_mul, ← sN_if]
        refine sN_cg (fun x _ => ⟨rfl, fun _ => ?_⟩)
        show (if S x = cs j then 1 else 0) * _ = (if decide (S x = cs j) = true then _ else 0)
        by_cases e : S x = cs j
        · rw [if_pos e, if_pos (decide_eq_true e), Nat.one_mul]
        · rw [if_neg e, if_neg (by rw [decide_eq_false e]; decide), Nat.zero_mul]
      rw [u1, sN_swap (p := fun j x => decide (S x = cs j)) (f := fun j _ => wy X (fun x => ok x && al x) N S (fun v => if v = code then 1 else 0) m (cs j)) (q := fun _ => true) (r := pX ok al N code) X s]
      refine sN_cg (fun x hx => ⟨rfl, fun hp => ?_⟩)
      obtain ⟨p1, p2, p3⟩ := pX_t.mp hp
      have hS := (Bla_r a3 hx p1).2.2.2.1
      have hF : sN (pX ok al N code) (fun x' => if S x' = S x then 1 else 0) X ≠ 0 := by
        have := (sN_pos (p := pX ok al N code) (f := fun x' => if S x' = S x then 1 else 0) (n := X)).mpr ⟨x, hx, hp, by show 0 < (if S x = S x then 1 else 0); rw [if_pos rfl]; decide⟩
        omega
      obtain ⟨j, j1, j2⟩ := fb3 (S x) (by omega) hF
      rw [sN_one (j := j) j1 (by show (true && decide (S x = cs j)) = true; rw [Bool.true_and, decide_eq_true_eq, j2]) (fun i hi hpi => by
        have hpi : (true && decide (S x = cs i)) = true := hpi
        rw [Bool.true_and, decide_eq_true_eq] at hpi
        exact fb4 i j hi j1 (by rw [j2, ← hpi])), j2]
    unfold w_X5_countRingsFrom_90
    refine gl2b (N := s) (i0 := 0) (fun K a v => w_X5_countRingsFrom_90b room Po K (ht - 2) 3 a v I3 J3) (fun j a => a = lN (sN (fun _ => true) (fun j => sN (pX ok al N code) (fun x => if S x = cs j then 1 else 0) X * wy X (fun x => ok x && al x) N S (fun v => if v = code then 1 else 0) (ht - 1) (cs j)) j)) (by omega) (by omega) rfl ?_
    rintro j _ hj rfl K2 kk2
    unfold w_X5_countRingsFrom_90b
    refine pk_le s j (fun hz2 => ?_) (fun hz2 => ?_) fb1 rfl
    · obtain rfl : j = s := by omega
      rw [fin]
      exact hk I3 J3 (gSm_t a1 s3) (gJm_t a2 j3) ⟨_, t3⟩
    · obtain ⟨c1, c2, c3'⟩ := fb2 j hz2
      have hcC : cs j < C := by
        obtain ⟨x, x1, x2, x3⟩ := sN_pos.mp (Nat.pos_of_ne_zero c2)
        have x3 : 0 < (if S x = cs j then 1 else 0) := x3
        by_cases e : S x = cs j
        · rw [← e]; exact (Bla_r a3 x1 (pX_t.mp x2).1).2.2.2.1
        · rw [if_neg e] at x3; omega
      rw [nI_clamp (n := j) (by omega), c3']
      refine ⟨vp_in_nI (by omega) (by omega), ?_⟩
      intro n13 e13
      subst e13
      rw [nI_clamp (n := cs j) (by omega), shOf bl3 (cs j) (by omega)]
      refine ⟨vp_in_nI (by omega) (by omega), ?_⟩
      intro n15 e15
      subst e15
      have hb3 := hbl (cs j + 1)
      have hb4 := hbs (cs j)
      unfold w_X5_countRingsFrom_125
      refine gl2b (N := bX X ok al N (cs j + 1)) (i0 := bX X ok al N (cs j)) (fun K3 a v => w_X5_countRingsFrom_125b room Po K2 K3 (ht - 2) 3 (lN (sN (fun _ => true) (fun j => sN (pX ok al N code) (fun x => if S x = cs j then 1 else 0) X * wy X (fun x => ok x && al x) N S (fun v => if v = code then 1 else 0) (ht - 1) (cs j)) j)) (nI j) (nI (cs j)) a v I3 J3) (fun i a => ∃ k, i = bX X ok al N (cs j) + k ∧ a = lN (sN (fun _ => true) (fun r => wy X (fun x => ok x && al x) N S (fun v => if v = code then 1 else 0) (ht - 2) (S (xr (pX ok al N (cs j)) r))) k)) (by omega) (by omega) ⟨0, rfl, rfl⟩ ?_
      rintro _ _ hi3 ⟨k, rfl, rfl⟩ K3 kk3
      unfold w_X5_countRingsFrom_125b
      rw [nI_1, nI_clamp (n := cs j + 1) (by omega), shOf bl3 (cs j + 1) (by omega)]
      refine ⟨vp_in_nI (by omega) (by omega), pk_le _ _ (fun hz3 => ?_) (fun hz3 => ?_) rfl rfl⟩
      · obtain rfl : k = cN (pX ok al N (cs j)) X := by omega
        refine ⟨vp_in_nI (by omega) (by omega), ?_⟩
        have hJ : J3 89 (cs j) = _ := (fa (cs j) c1).1
        have e2 : sN (fun _ => true) (fun r => wy X (fun x => ok x && al x) N S (fun v => if v = code then 1 else 0) (ht - 2) (S (xr (pX ok al N (cs j)) r))) (cN (pX ok al N (cs j)) X) = wy X (fun x => ok x && al x) N S (fun v => if v = code then 1 else 0) (ht - 1) (cs j) := by
          rw [sN_xr (fun x => wy X (fun x => ok x && al x) N S (fun v => if v = code then 1 else 0) (ht - 2) (S x)), ← wy_pX, show ht - 2 + 1 = ht - 1 by omega]
        rw [nI_clamp (n := cs j) (by omega), hJ, e2, lN_mul, lN_add, nI_1]
        intro n19 e19 n20 e20
        subst e19 e20
        exact kk2 hz2 _ rfl
      · obtain ⟨y1, y2, y3, y4, y5, y6⟩ := Shx_xr (Bla_0 bl3) (c := cs j) (k := k) (by omega)
        have y1 : I3 77 (bX X ok al N (cs j) + k) = _ := y1
        obtain ⟨_, _, r74, rS, _, r6, _⟩ := Bla_r bl3 y2 y3
        have hJ : J3 (86 + (ht - 2)) (S (xr (pX ok al N (cs j)) k)) = lN (wy X (fun x => ok x && al x) N S (fun v => if v = code then 1 else 0) (ht - 2) (S (xr (pX ok al N (cs j)) k))) := by
          have q := ((a4 (ht - 2) (by omega)).1 (S (xr (pX ok al N (cs j)) k)) (by omega)).1
          rw [a5 (ht - 2) (Nat.le_refl _)] at q
          have q2 : J3 (86 + (ht - 2)) = J1 (86 + (ht - 2)) := by
            rw [g2 (86 + (ht - 2)) (by simp only [List.mem_cons, List.not_mem_nil, or_false]; omega)]
            exact b2 (86 + (ht - 2)) (by simp only [List.mem_cons, List.not_mem_nil, or_false]; omega)
          rw [q2]; exact q
        rw [nI_clamp (by omega), y1, nI_clamp (n := cN ok _) (by omega), r74, nI_clamp (n := S _) (by omega), hJ, lN_add, nI_1]
        refine ⟨vp_in_nI (by omega) (by omega), vp_in_nI (by omega) (by omega), vp_in_nI (by omega) (by omega), ?_⟩
        intro n24 e24 n25 e25
        subst e24 e25
        exact kk3 (by omega) _ ⟨k + 1, by omega, rfl⟩
  · obtain ⟨y1, y2, y3, y4, y5, y6⟩ := Shx_xr (Bla_0 bl3) (c := code) (k := k) (by omega)
    have y1 : I3 77 (bX X ok al N code + k) = _ := y1
    obtain ⟨_, _, r74, rS, _, r6, _⟩ := Bla_r bl3 y2 y3
    rw [nI_clamp (by omega), y1, nI_clamp (n := cN ok _) (by omega), r74, i_64_1]
    refine ⟨vp_in_nI (by omega) (by omega), vp_in_nI (by omega) (by omega), ?_⟩
    refine p_add c3 n4 g3 (by omega) (Nat.le_refl 1) ?_ (fun I5 J5 u1 u2 u3 => ?_)
    · have q1 := sN_le (p := fun _ => true) (f := fun r => if S (xr (pX ok al N code) r) = S (xr (pX ok al N code) k) then 1 else 0) (B := 1) (n := k) (fun i _ _ => by
        show (if S (xr (pX ok al N code) i) = S (xr (pX ok al N code) k) then 1 else 0) ≤ 1
        split <;> omega)
      have q2 := cN_le (fun _ => true) k
      rw [Nat.mul_one] at q1
      have q3 : k ≤ 4096 := by omega
      clear hk kk hi hz g3 t2 b3 a5
      omega
    · intro n30 e30
      rw [nI_1] at e30
      subst e30
      refine kk (by omega) I5 J5 ⟨k + 1, by omega, gSm_t g1 u1, gJm_t g2 u2, Tl_cg u3 (fun v _ => ?_)⟩
      rw [sN_ts]
      by_cases e : v = S (xr (pX ok al N code) k)
      · rw [if_pos e, if_pos e.symm]
      · rw [if_neg e, if_neg (fun z => e z.symm)]
theorem rings_sum {ht : Nat} (h1 : 1 ≤ ht) (hN : ∀ x, x < X → ok x = true → al x = true → N x < C) : sN (fun _ => true) (fun code => wy X (fun x => ok x && al x) N S (fun v => if v = code then 1 else 0) ht code) C = sN (fun x => ok x && al x) (fun x => wy X (fun x => ok x && al x) N S (fun v => if v = N x then 1 else 0) (ht - 1) (S x)) X := by
  obtain ⟨m, rfl⟩ : ∃ m, ht = m + 1 := ⟨ht - 1, by omega⟩
  rw [Nat.add_sub_cancel]
  have e := sN_swap (p := fun code x => decide (N x = code)) (f := fun code x => wy X (fun x => ok x && al x) N S (fun v => if v = code then 1 else 0) m (S x)) (q := fun _ => true) (r := fun x => ok x && al x) X C
  refine Eq.trans e (sN_cg (fun x hx => ⟨rfl, fun hp => ?_⟩))
  rw [Bool.and_eq_true] at hp
  exact sN_one (f := fun code => wy X (fun x => ok x && al x) N S (fun v => if v = code then 1 else 0) m (S x)) (hN x hx hp.1 hp.2) (by show (true && decide (N x = N x)) = true; rw [Bool.true_and, decide_eq_true_eq]) (fun i hi hpi => by
    have hpi : (true && decide (N x = i)) = true := hpi
    rw [Bool.true_and, decide_eq_true_eq] at hpi
    exact hpi.symm)
theorem p_countRings (h : Bla room X C w cl ok al N S tc I) {Fs : Nat → Nat → Nat} (hT : Tls room Fs I J) {ht : Nat} (h1 : 1 ≤ ht) (h4 : ht ≤ 4) {Po : Int64 → gI → gL → Prop} (hk : ∀ I' J', gSm tlI I I' → gJm tlJ J J' → (∃ Fs', Tls room Fs' I' J') → Po (lN (sN (fun x => ok x && al x) (fun x => wy X (fun x => ok x && al x) N S (fun v => if v = N x then 1 else 0) (ht - 1) (S x)) X)) I' J') : wp_X5_countRings room (nI ht) I J Po := by
  obtain ⟨n1, n2, n3, n4, n5, n6, n7⟩ := Bla_n h
  rw [← rings_sum h1 (fun x hx ho ha => (Bla_r h hx ho).2.2.2.2.1 ha)] at hk
  unfold wp_X5_countRings w_X5_countRings_5
  refine gl4b (N := C) (i0 := 0) (fun K a v I J => w_X5_countRings_5b room Po K (nI ht) a v I J) (fun i a I' J' => a = lN (sN (fun _ => true) (fun code => wy X (fun x => ok x && al x) N S (fun v => if v = code then 1 else 0) ht code) i) ∧ gSm tlI I I' ∧ gJm tlJ J J' ∧ ∃ Fs', Tls room Fs' I' J') (by omega) (by omega) ⟨rfl, gSm_r _, gJm_r _, Fs, hT⟩ ?_
  rintro i _ I1 J1 hi ⟨rfl, g1, g2, Fs1, g3⟩ K kk
  have b1 := Bla_k h g1
  unfold w_X5_countRings_5b
  refine pk_le C i (fun hz => ?_) (fun hz => ?_) (Bla_c b1).2.2.1 rfl
  · obtain rfl : i = C := by omega
    exact hk I1 J1 g1 g2 ⟨Fs1, g3⟩
  · have hbl := bX_le (X := X) (ok := ok) (cnd := al) (cf := N) (c := i + 1)
    have hbs := bX_s (X := X) (ok := ok) (cnd := al) (cf := N) (c := i)
    have e76 : I1 76 i = nI (bX X ok al N i) := (Bla_0 b1).1 i (by omega)
    have e76' : I1 76 (i + 1) = nI (bX X ok al N (i + 1)) := (Bla_0 b1).1 (i + 1) (by omega)
    rw [nI_1, nI_clamp (n := i) (by omega), nI_clamp (n := i + 1) (by omega), e76, e76']
    refine ⟨vp_in_nI (by omega) (by omega), vp_in_nI (by omega) (by omega), pk_le _ _ (fun hz2 => ?_) (fun hz2 => ?_) rfl rfl⟩
    · unfold w_X5_countRings_63
      intro n5' e5
      rw [nI_1] at e5
      subst e5
      refine kk hz _ I1 J1 ⟨?_, g1, g2, Fs1, g3⟩
      rw [sN_ts]
      have z : wy X (fun x => ok x && al x) N S (fun v => if v = i then 1 else 0) ht i = 0 := by
        obtain ⟨m, rfl⟩ : ∃ m, ht = m + 1 := ⟨ht - 1, by omega⟩
        rw [wy_pX]
        refine sN_zero (fun x hx hp => ?_)
        have := cN_ms hx hp
        omega
      rw [z, Nat.add_zero]
    · have nxt : ∀ (r : Int64) (I2 : gI) (J2 : gL), r = lN (wy X (fun x => ok x && al x) N S (fun v => if v = i then 1 else 0) ht i) → gSm tlI I I2 → gJm tlJ J J2 → (∃ Fs', Tls room Fs' I2 J2) → w_X5_countRings_61 room Po K (nI ht) (nI i) r (lN (sN (fun _ => true) (fun code => wy X (fun x => ok x && al x) N S (fun v => if v = code then 1 else 0) ht code) i)) I2 J2 := by
        intro r I2 J2 er s1 s2 s3
        unfold w_X5_countRings_61 w_X5_countRings_63
        intro n10 e10 n5' e5
        rw [nI_1] at e5
        subst e5
        rw [er, lN_add] at e10
        subst e10
        exact kk hz _ I2 J2 ⟨rfl, s1, s2, s3⟩
      refine ⟨fun q => ?_, fun q => ?_⟩
      · have hne : ht ≠ 1 := fun e => q (by rw [e]; rfl)
        exact p_countRingsFrom b1 g3 hz (by omega) h4 (fun I2 J2 u1 u2 u3 => nxt _ I2 J2 rfl (gSm_t g1 u1) (gJm_t g2 u2) u3)
      · have e1 : ht = 1 := (nI_eq (by omega) (by decide)).mp q
        refine p_countLoops b1 hz ?_
        exact nxt _ I1 J1 (by rw [e1]) g1 g2 ⟨Fs1, g3⟩
end
