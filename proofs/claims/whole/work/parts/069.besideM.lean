section
variable {n a : Nat} {bl : Nat → Nat → Nat} {l d : Nat}
/-- a node whose distance is d - 1 -/
def ndD (n a : Nat) (bl : Nat → Nat → Nat) (l d u : Nat) : Prop := mdW n a bl l (d - 1) u ∧ ∀ j, j < d - 1 → ¬ mdW n a bl l j u
def xxA (n a : Nat) (bl : Nat → Nat → Nat) (l d : Nat) (P : Nat → Prop) (v : Nat) : Prop := ∃ u, P u ∧ ndD n a bl l d u ∧ mdR n a bl u v
theorem xx_add {P P' : Nat → Prop} {u0 : Nat} (h : ∀ u, P' u ↔ P u ∨ u = u0) (v : Nat) : xxA n a bl l d P' v ↔ xxA n a bl l d P v ∨ (ndD n a bl l d u0 ∧ mdR n a bl u0 v) := by
  constructor
  · rintro ⟨u, h1, h2, h3⟩
    rcases (h u).mp h1 with z | rfl
    · exact Or.inl ⟨u, z, h2, h3⟩
    · exact Or.inr ⟨h2, h3⟩
  · rintro (⟨u, h1, h2, h3⟩ | ⟨h2, h3⟩)
    · exact ⟨u, (h u).mpr (Or.inl h1), h2, h3⟩
    · exact ⟨u0, (h u0).mpr (Or.inr rfl), h2, h3⟩
theorem xx_c {P P' : Nat → Prop} (h : ∀ u, P' u ↔ P u) (v : Nat) : xxA n a bl l d P' v ↔ xxA n a bl l d P v := ⟨fun ⟨u, h1, h2⟩ => ⟨u, (h u).mp h1, h2⟩, fun ⟨u, h1, h2⟩ => ⟨u, (h u).mpr h1, h2⟩⟩
def prA (n i' i ze zs u : Nat) : Prop := (u < n ∧ u < i') ∨ (∃ x y, u = 6 + (6 * x + y) ∧ y < n ∧ (x < i ∨ x = i ∧ y < ze)) ∨ ∃ x y, u = 42 + (6 * x + y) ∧ y < n ∧ (x < i ∨ x = i ∧ y < zs)
theorem fb_test {X : Nat → Prop} {I : gI} (hd1 : 1 ≤ d) (hd : d < 100) (hf : fbI (mdW n a bl l) d X I) {u : Nat} (hu : u < 78) : I 225 u = nI d - 1 ↔ ndD n a bl l d u := by
  rw [i_1, pk_sub hd1]
  rcases hf u hu with ⟨k, h1, h2, h3, h4⟩ | ⟨h1, ⟨h2, h3⟩ | ⟨h2, h3⟩⟩
  · rw [h4, nI_eq (by omega) (by omega)]
    constructor
    · rintro rfl; exact ⟨h2, h3⟩
    · rintro ⟨h5, h6⟩
      rcases Nat.lt_trichotomy k (d - 1) with z | z | z
      · exact absurd h2 (h6 k z)
      · exact z
      · omega
  · rw [h3, nI_eq (by omega) (by omega)]
    exact ⟨fun e => by omega, fun z => absurd z.1 (h1 (d - 1) (by omega))⟩
  · rw [h3]
    exact ⟨fun e => absurd e.symm (nI_m1 (by omega)), fun z => absurd z.1 (h1 (d - 1) (by omega))⟩
theorem md_l {u v : Nat} (hu : u < n) (hn : n ≤ 6) (h2 : 2 ≤ a) (h3 : a ≤ 3) : mdR n a bl u v ↔ inA a bl u 0 a v := by
  rw [inA_all hu h2 h3]
  constructor
  · rintro (⟨_, h⟩ | ⟨x, y, c, _, _, e, _⟩ | ⟨x, y, c, _, _, e, _⟩)
    · exact h
    · omega
    · omega
  · exact fun h => Or.inl ⟨hu, h⟩
theorem md_e {x y v : Nat} (hx : x < n) (hy : y < n) (hn : n ≤ 6) : mdR n a bl (6 + (6 * x + y)) v ↔ ∃ t, t < a ∧ v = 6 + 6 * bl x (a * t + (a - 1)) + bl y (a * t + 0) := by
  constructor
  · rintro (⟨h, _⟩ | ⟨x', y', c, h1, h2, e, ⟨p, q, ⟨_, t, ht, rfl, rfl⟩ | ⟨h0, _⟩, rfl⟩, rfl⟩ | ⟨x', y', c, _, _, e, _⟩)
    · omega
    · obtain rfl : x = x' := by omega
      obtain rfl : y = y' := by omega
      exact ⟨t, ht, by omega⟩
    · exact absurd h0 (by decide)
    · omega
  · rintro ⟨t, ht, rfl⟩
    exact Or.inr (Or.inl ⟨x, y, _, hx, hy, rfl, ⟨_, _, Or.inl ⟨rfl, t, ht, rfl, rfl⟩, rfl⟩, by omega⟩)
theorem md_s {x y v : Nat} (hx : x < n) (hy : y < n) (hn : n ≤ 6) : mdR n a bl (42 + (6 * x + y)) v ↔ ∃ t, t < a ∧ v = 42 + 6 * bl x (a * (a - 1) + t) + bl y (a * 0 + t) := by
  constructor
  · rintro (⟨h, _⟩ | ⟨x', y', c, _, _, e, _⟩ | ⟨x', y', c, h1, h2, e, ⟨p, q, ⟨h0, _⟩ | ⟨_, t, ht, rfl, rfl⟩, rfl⟩, rfl⟩)
    · omega
    · omega
    · exact absurd h0 (by decide)
    · obtain rfl : x = x' := by omega
      obtain rfl : y = y' := by omega
      exact ⟨t, ht, by omega⟩
  · rintro ⟨t, ht, rfl⟩
    exact Or.inr (Or.inr ⟨x, y, _, hx, hy, rfl, ⟨_, _, Or.inr ⟨rfl, t, ht, rfl, rfl⟩, rfl⟩, by omega⟩)
theorem fb_round {I : gI} (h2 : 2 ≤ a) (h3 : a ≤ 3) (hn : n ≤ 6) (hb : ∀ x, x < 6 → ∀ i, i < 9 → bl x i < n) (hl : l < n) (hd1 : 1 ≤ d) (h : fbI (mdW n a bl l) d (xxA n a bl l d (prA n n n 0 0)) I) : fbI (mdW n a bl l) (d + 1) (fun _ => False) I := by
  intro v hv
  rcases h v hv with ⟨k, k1, k2⟩ | ⟨g1, ⟨g2, g3⟩ | ⟨g2, g3⟩⟩
  · exact Or.inl ⟨k, by omega, k2⟩
  · refine Or.inl ⟨d, by omega, ?_, g1, g3⟩
    obtain ⟨u, _, k2, k3⟩ := g2
    have := (mdW_step (k := d - 1) h2 h3 hn hb hl).mpr ⟨u, k2.1, k3⟩
    rw [show d - 1 + 1 = d by omega] at this
    exact this
  · refine Or.inr ⟨fun j hj hw => ?_, Or.inr ⟨id, g3⟩⟩
    rcases Nat.lt_or_ge j d with z | z
    · exact g1 j z hw
    · obtain rfl : j = d := by omega
      have hw' := hw
      rw [show j = j - 1 + 1 by omega] at hw'
      obtain ⟨u, h5, h6⟩ := (mdW_step h2 h3 hn hb hl).mp hw'
      refine g2 ⟨u, ?_, ⟨h5, fun i hi hiw => ?_⟩, h6⟩
      · rcases h6 with ⟨h, _⟩ | ⟨x', y', c, hx, hy, e, _⟩ | ⟨x', y', c, hx, hy, e, _⟩
        · exact Or.inl ⟨h, h⟩
        · exact Or.inr (Or.inl ⟨x', y', e, hy, Or.inl hx⟩)
        · exact Or.inr (Or.inr ⟨x', y', e, hy, Or.inl hx⟩)
      · exact g1 (i + 1) (by omega) ((mdW_step h2 h3 hn hb hl).mpr ⟨u, hiw, h6⟩)
theorem p_besideM {I : gI} (hR : RelL n a bl I) (hl : l < n) {i m w : Nat} (hi : i < n) (hm : m < n) (hw : w < 2) {Po : Int32 → gI → Prop}
    (h1 : ∀ k I', gSm [225] I I' → k < 90 → wk (bsR n a bl w) k l (6 + (6 * i + m)) → (∀ j, j < k → ¬ wk (bsR n a bl w) j l (6 + (6 * i + m))) → Po (nI k) I')
    (h2 : ∀ I', gSm [225] I I' → (∀ j, j < 90 → ¬ wk (bsR n a bl w) j l (6 + (6 * i + m))) → Po (-1) I') : w_X10_beside_40 Po (nI l) (nI i) (nI m) (nI w) (0 : Int32) I := by
  have hR0 := hR
  obtain ⟨hn1, hn6, ha2, ha3, l0, m0, l1, m1, hb⟩ := hR0
  have hb' : ∀ x, x < 6 → ∀ i, i < 9 → bl x i < n := fun x hx i hi => (hb x hx i hi).1
  unfold w_X10_beside_40
  refine gl2 (N := 78) (i0 := 0) (fun K v I => w_X10_beside_40b Po K (nI l) (nI i) (nI m) (nI w) v I) (fun z I' => gSm [225] I I' ∧ ∀ u, u < z → I' 225 u = -1) (by omega) (by omega) ⟨gSm_r I, fun u hu => absurd hu (by omega)⟩ ?_
  rintro z I1 hz ⟨g1, g2⟩ K kk
  unfold w_X10_beside_40b
  refine pk_le 78 z (fun hz2 => ?_) (fun hz2 => ?_) rfl rfl
  · obtain rfl : z = 78 := by omega
    refine ⟨vp_in_nI (by omega) (by decide), ?_⟩
    intro I11 e11
    rw [nI_clamp (by omega)] at e11
    have g3 : gSm [225] I I11 := by rw [e11]; exact gSm_u g1 (by decide)
    have g4 : fbI (mdW n a bl l) 1 (fun _ => False) I11 := by
      intro v hv
      by_cases e : v = l
      · subst e
        exact Or.inl ⟨0, by omega, Or.inl ⟨by omega, rfl⟩, fun j hj => absurd hj (by omega), by rw [e11, gup_at]; rfl⟩
      · refine Or.inr ⟨fun j hj hw => ?_, Or.inr ⟨id, by rw [e11, gup_ne e]; exact g2 v hv⟩⟩
        obtain rfl : j = 0 := by omega
        rcases hw with ⟨_, h⟩ | ⟨c, _, _, h⟩ | ⟨c, _, _, h⟩
        · exact e h.symm
        · have : l = 6 + c := h
          omega
        · have : l = 6 + c := h
          omega
    unfold w_X10_beside_71
    refine gl2 (N := 90) (i0 := 1) (fun K v I => w_X10_beside_71b Po K (nI i) (nI m) (nI w) v I) (fun d I' => 1 ≤ d ∧ gSm [225] I I' ∧ fbI (mdW n a bl l) d (fun _ => False) I') (by omega) (by omega) ⟨Nat.le_refl _, g3, g4⟩ ?_
    rintro d I2 hd ⟨d1, g5, g6⟩ K2 kk2
    unfold w_X10_beside_71b
    refine pk_le 90 d (fun hz3 => ?_) (fun hz3 => ?_) rfl rfl
    · obtain rfl : d = 90 := by omega
      have fin : ∀ b, (w = 0 ∧ b = 6 ∨ w = 1 ∧ b = 42) → w_X10_beside_312 Po (nI i) (nI m) (nI b) I2 := by
        intro b hwb
        have hW : ∀ j, mdW n a bl l j (b + 6 * i + m) ↔ wk (bsR n a bl w) j l (6 + (6 * i + m)) := fun j => by
          constructor
          · rcases hwb with ⟨rfl, rfl⟩ | ⟨rfl, rfl⟩
            · rintro (⟨h, _⟩ | ⟨c, _, e, h⟩ | ⟨c, _, e, h⟩)
              · omega
              · obtain rfl : c = 6 * i + m := by omega
                exact h
              · omega
            · rintro (⟨h, _⟩ | ⟨c, _, e, h⟩ | ⟨c, _, e, h⟩)
              · omega
              · omega
              · obtain rfl : c = 6 * i + m := by omega
                exact h
          · intro h
            rcases hwb with ⟨rfl, rfl⟩ | ⟨rfl, rfl⟩
            · exact Or.inr (Or.inl ⟨6 * i + m, by omega, by omega, h⟩)
            · exact Or.inr (Or.inr ⟨6 * i + m, by omega, by omega, h⟩)
        unfold w_X10_beside_312
        rw [i_6, pk_mul, nI_add, nI_add, nI_clamp (by omega)]
        refine ⟨vp_in_nI (by omega) (by decide), ?_⟩
        rcases g6 (b + 6 * i + m) (by omega) with ⟨k, k1, k2, k3, k4⟩ | ⟨k1, ⟨k2, _⟩ | ⟨_, k2⟩⟩
        · rw [k4]
          exact h1 k I2 g5 k1 ((hW k).mp k2) (fun j hj z => k3 j hj ((hW j).mpr z))
        · exact k2.elim
        · rw [k2]
          exact h2 I2 g5 (fun j hj z => k1 j hj ((hW j).mpr z))
      rcases (show w = 0 ∨ w = 1 by omega) with rfl | rfl
      · exact ⟨fun q => absurd rfl q, fun _ => fin 6 (Or.inl ⟨rfl, rfl⟩)⟩
      · exact ⟨fun _ => fin 42 (Or.inr ⟨rfl, rfl⟩), fun q => absurd q one_ne⟩
    · unfold w_X10_beside_81
      refine gl2 (N := n) (i0 := 0) (fun K v I => w_X10_beside_81b Po K2 K (nI i) (nI m) (nI w) (nI d) v I) (fun x I' => gSm [225] I I' ∧ fbI (mdW n a bl l) d (xxA n a bl l d (prA n x x 0 0)) I') (by omega) (by omega) ⟨g5, fbI_c g6 (fun v => ⟨False.elim, fun ⟨u, h, _⟩ => by rcases h with ⟨_, h⟩ | ⟨_, _, _, _, h⟩ | ⟨_, _, _, _, h⟩ <;> omega⟩)⟩ ?_
      rintro x I3 hx ⟨g7, g8⟩ K3 kk3
      have f3 : I3 200 31 = nI n := by rw [g7 200 (by decide)]; exact m0
      unfold w_X10_beside_81b
      refine pk_le n x (fun hz4 => ?_) (fun hz4 => ?_) f3 rfl
      · obtain rfl : x = n := by omega
        intro n16 e16
        rw [nI_1] at e16
        subst e16
        exact kk2 hz3 I3 ⟨by omega, g7, fb_round ha2 ha3 hn6 hb' hl d1 g8⟩
      · rw [nI_clamp (by omega)]
        have inner : ∀ I4, gSm [225] I I4 → fbI (mdW n a bl l) d (xxA n a bl l d (prA n (x + 1) x 0 0)) I4 → w_X10_beside_112 Po K2 K3 (nI i) (nI m) (nI w) (nI d) (nI x) I4 := by
          intro I4 o1 o2
          unfold w_X10_beside_112 w_X10_beside_115
          refine gl2 (N := n) (i0 := 0) (fun K v I => w_X10_beside_115b Po K2 K3 K (nI i) (nI m) (nI w) (nI d) (nI x) v I) (fun y I' => gSm [225] I I' ∧ fbI (mdW n a bl l) d (xxA n a bl l d (prA n (x + 1) x y y)) I') (by omega) (by omega) ⟨o1, o2⟩ ?_
          rintro y I5 hy ⟨o3, o4⟩ K4 kk4
          have f5 : I5 200 31 = nI n := by rw [o3 200 (by decide)]; exact m0
          unfold w_X10_beside_115b
          refine pk_le n y (fun hz5 => ?_) (fun hz5 => ?_) f5 rfl
          · obtain rfl : y = n := by omega
            intro n20 e20
            rw [nI_1] at e20
            subst e20
            refine kk3 hz4 I5 ⟨o3, fbI_c o4 (xx_c (fun u => ?_))⟩
            constructor
            · rintro (h | ⟨x', y', h1, h2, h3⟩ | ⟨x', y', h1, h2, h3⟩)
              · exact Or.inl h
              · exact Or.inr (Or.inl ⟨x', y', h1, h2, by omega⟩)
              · exact Or.inr (Or.inr ⟨x', y', h1, h2, by omega⟩)
            · rintro (h | ⟨x', y', h1, h2, h3⟩ | ⟨x', y', h1, h2, h3⟩)
              · exact Or.inl h
              · exact Or.inr (Or.inl ⟨x', y', h1, h2, by omega⟩)
              · exact Or.inr (Or.inr ⟨x', y', h1, h2, by omega⟩)
          · have p1 : ∀ u, prA n (x + 1) x (y + 1) y u ↔ prA n (x + 1) x y y u ∨ u = 6 + (6 * x + y) := fun u => by
              constructor
              · rintro (h | ⟨x', y', h1, h2, h3⟩ | h)
                · exact Or.inl (Or.inl h)
                · by_cases e : x' = x ∧ y' = y
                  · obtain ⟨rfl, rfl⟩ := e; exact Or.inr h1
                  · exact Or.inl (Or.inr (Or.inl ⟨x', y', h1, h2, by omega⟩))
                · exact Or.inl (Or.inr (Or.inr h))
              · rintro ((h | ⟨x', y', h1, h2, h3⟩ | h) | h)
                · exact Or.inl h
                · exact Or.inr (Or.inl ⟨x', y', h1, h2, by omega⟩)
                · exact Or.inr (Or.inr h)
                · exact Or.inr (Or.inl ⟨x, y, h, hz5, by omega⟩)
            have p2 : ∀ u, prA n (x + 1) x (y + 1) (y + 1) u ↔ prA n (x + 1) x (y + 1) y u ∨ u = 42 + (6 * x + y) := fun u => by
              constructor
              · rintro (h | h | ⟨x', y', h1, h2, h3⟩)
                · exact Or.inl (Or.inl h)
                · exact Or.inl (Or.inr (Or.inl h))
                · by_cases e : x' = x ∧ y' = y
                  · obtain ⟨rfl, rfl⟩ := e; exact Or.inr h1
                  · exact Or.inl (Or.inr (Or.inr ⟨x', y', h1, h2, by omega⟩))
              · rintro ((h | h | ⟨x', y', h1, h2, h3⟩) | h)
                · exact Or.inl h
                · exact Or.inr (Or.inl h)
                · exact Or.inr (Or.inr ⟨x', y', h1, h2, by omega⟩)
                · exact Or.inr (Or.inr ⟨x, y, h, hz5, by omega⟩)
            have last : ∀ I6, gSm [225] I I6 → fbI (mdW n a bl l) d (xxA n a bl l d (prA n (x + 1) x (y + 1) (y + 1))) I6 → w_X10_beside_278 Po K2 K3 K4 (nI i) (nI m) (nI w) (nI d) (nI x) (nI y) I6 := by
              intro I6 r1 r2
              unfold w_X10_beside_278
              intro n25 e25
              rw [nI_1] at e25
              subst e25
              exact kk4 hz5 I6 ⟨r1, r2⟩
            have mid : ∀ I6, gSm [225] I I6 → fbI (mdW n a bl l) d (xxA n a bl l d (prA n (x + 1) x (y + 1) y)) I6 → w_X10_beside_201 Po K2 K3 K4 (nI i) (nI m) (nI w) (nI d) (nI x) (nI y) I6 := by
              intro I6 r1 r2
              unfold w_X10_beside_201
              rw [i_42, i_6, pk_mul, nI_add, nI_add, show 42 + 6 * x + y = 42 + (6 * x + y) by omega, nI_clamp (by omega)]
              refine ⟨vp_in_nI (by omega) (by decide), fun q => ?_, fun q => ?_⟩
              · have hno : ¬ ndD n a bl l d (42 + (6 * x + y)) := fun z => q ((fb_test d1 (by omega) r2 (by omega)).mpr z)
                refine last I6 r1 (fbI_c r2 (fun v => ?_))
                rw [xx_add p2]
                exact ⟨Or.inl, fun z => z.elim id (fun z => absurd z.1 hno)⟩
              · have hyes : ndD n a bl l d (42 + (6 * x + y)) := (fb_test d1 (by omega) r2 (by omega)).mp q
                unfold w_X10_beside_227
                refine gl2 (N := a) (i0 := 0) (fun K v I => w_X10_beside_227b Po K2 K3 K4 K (nI i) (nI m) (nI w) (nI d) (nI x) (nI y) v I) (fun t I' => gSm [225] I I' ∧ fbI (mdW n a bl l) d (fun v => xxA n a bl l d (prA n (x + 1) x (y + 1) y) v ∨ ∃ t', t' < t ∧ v = 42 + 6 * bl x (a * (a - 1) + t') + bl y (a * 0 + t')) I') (by omega) (by omega) ⟨r1, fbI_c r2 (fun v => ⟨Or.inl, fun z => z.elim id (fun ⟨_, h, _⟩ => absurd h (by omega))⟩)⟩ ?_
                rintro t I7 ht ⟨r3, r4⟩ K5 kk5
                have f7 : I7 200 32 = nI a := by rw [r3 200 (by decide)]; exact m1
                have hR7 := RelL_225 hR r3
                unfold w_X10_beside_227b
                refine pk_le a t (fun hz6 => ?_) (fun hz6 => ?_) f7 rfl
                · obtain rfl : t = a := by omega
                  refine last I7 r3 (fbI_c r4 (fun v => ?_))
                  rw [xx_add p2, md_s hz4 hz5 hn6]
                  exact or_congr Iff.rfl ⟨fun z => ⟨hyes, z⟩, fun z => z.2⟩
                · rw [f7, i_1, pk_sub (by omega)]
                  refine p_atM hR7 (by omega) hz6 (by omega) (p_atM hR7 (by omega) (y := 0) hz6 (by omega) ?_)
                  have b1 := hb' x (by omega) (a * (a - 1) + t) (RelL_ix ha2 ha3 hz6 (by omega))
                  have b2 := hb' y (by omega) (a * 0 + t) (RelL_ix ha2 ha3 hz6 (by omega))
                  rw [i_42, i_6, pk_mul, nI_add, nI_add]
                  refine p_reach (by omega) (by omega) r4 (fun I8 r5 r6 => ?_)
                  intro n30 e30
                  rw [nI_add] at e30
                  subst e30
                  refine kk5 hz6 I8 ⟨gSm_t r3 r5, fbI_c r6 (fun v => ?_)⟩
                  rw [or_assoc]
                  refine or_congr Iff.rfl ?_
                  constructor
                  · rintro (⟨t', h1, h2⟩ | h)
                    · exact ⟨t', by omega, h2⟩
                    · exact ⟨t, by omega, h⟩
                  · rintro ⟨t', h1, h2⟩
                    by_cases e : t' = t
                    · subst e; exact Or.inr h2
                    · exact Or.inl ⟨t', by omega, h2⟩
            rw [i_6, pk_mul, nI_add, nI_add, show 6 + 6 * x + y = 6 + (6 * x + y) by omega, nI_clamp (by omega)]
            refine ⟨vp_in_nI (by omega) (by decide), fun q => ?_, fun q => ?_⟩
            · have hno : ¬ ndD n a bl l d (6 + (6 * x + y)) := fun z => q ((fb_test d1 (by omega) o4 (by omega)).mpr z)
              refine mid I5 o3 (fbI_c o4 (fun v => ?_))
              rw [xx_add p1]
              exact ⟨Or.inl, fun z => z.elim id (fun z => absurd z.1 hno)⟩
            · have hyes : ndD n a bl l d (6 + (6 * x + y)) := (fb_test d1 (by omega) o4 (by omega)).mp q
              unfold w_X10_beside_150
              refine gl2 (N := a) (i0 := 0) (fun K v I => w_X10_beside_150b Po K2 K3 K4 K (nI i) (nI m) (nI w) (nI d) (nI x) (nI y) v I) (fun t I' => gSm [225] I I' ∧ fbI (mdW n a bl l) d (fun v => xxA n a bl l d (prA n (x + 1) x y y) v ∨ ∃ t', t' < t ∧ v = 6 + 6 * bl x (a * t' + (a - 1)) + bl y (a * t' + 0)) I') (by omega) (by omega) ⟨o3, fbI_c o4 (fun v => ⟨Or.inl, fun z => z.elim id (fun ⟨_, h, _⟩ => absurd h (by omega))⟩)⟩ ?_
              rintro t I7 ht ⟨r3, r4⟩ K5 kk5
              have f7 : I7 200 32 = nI a := by rw [r3 200 (by decide)]; exact m1
              have hR7 := RelL_225 hR r3
              unfold w_X10_beside_150b
              refine pk_le a t (fun hz6 => ?_) (fun hz6 => ?_) f7 rfl
              · obtain rfl : t = a := by omega
                refine mid I7 r3 (fbI_c r4 (fun v => ?_))
                rw [xx_add p1, md_e hz4 hz5 hn6]
                exact or_congr Iff.rfl ⟨fun z => ⟨hyes, z⟩, fun z => z.2⟩
              · rw [f7, i_1, pk_sub (by omega)]
                refine p_atM hR7 (by omega) (by omega) hz6 (p_atM hR7 (by omega) (x := 0) (by omega) hz6 ?_)
                have b1 := hb' x (by omega) (a * t + (a - 1)) (RelL_ix ha2 ha3 (by omega) hz6)
                have b2 := hb' y (by omega) (a * t + 0) (RelL_ix ha2 ha3 (by omega) hz6)
                rw [i_6, pk_mul, nI_add, nI_add]
                refine p_reach (by omega) (by omega) r4 (fun I8 r5 r6 => ?_)
                intro n35 e35
                rw [nI_add] at e35
                subst e35
                refine kk5 hz6 I8 ⟨gSm_t r3 r5, fbI_c r6 (fun v => ?_)⟩
                rw [or_assoc]
                refine or_congr Iff.rfl ?_
                constructor
                · rintro (⟨t', h1, h2⟩ | h)
                  · exact ⟨t', by omega, h2⟩
                  · exact ⟨t, by omega, h⟩
                · rintro ⟨t', h1, h2⟩
                  by_cases e : t' = t
                  · subst e; exact Or.inr h2
                  · exact Or.inl ⟨t', by omega, h2⟩
        have p0 : ∀ u, prA n (x + 1) x 0 0 u ↔ prA n x x 0 0 u ∨ u = x := fun u => by
          constructor
          · rintro (h | h | h)
            · by_cases e : u = x
              · exact Or.inr e
              · exact Or.inl (Or.inl ⟨h.1, by omega⟩)
            · exact Or.inl (Or.inr (Or.inl h))
            · exact Or.inl (Or.inr (Or.inr h))
          · rintro ((h | h | h) | h)
            · exact Or.inl ⟨h.1, by omega⟩
            · exact Or.inr (Or.inl h)
            · exact Or.inr (Or.inr h)
            · exact Or.inl ⟨by omega, by omega⟩
        refine ⟨vp_in_nI (by omega) (by decide), fun q => ?_, fun q => ?_⟩
        · have hno : ¬ ndD n a bl l d x := fun z => q ((fb_test d1 (by omega) g8 (by omega)).mpr z)
          refine inner I3 g7 (fbI_c g8 (fun v => ?_))
          rw [xx_add p0]
          exact ⟨Or.inl, fun z => z.elim id (fun z => absurd z.1 hno)⟩
        · have hyes : ndD n a bl l d x := (fb_test d1 (by omega) g8 (by omega)).mp q
          refine p_inside (RelL_225 hR g7) hz4 (by omega) g8 (fun I4 o1 o2 => inner I4 (gSm_t g7 o1) (fbI_c o2 (fun v => ?_)))
          rw [xx_add p0, md_l hz4 hn6 ha2 ha3]
          exact or_congr Iff.rfl ⟨fun z => ⟨hyes, z⟩, fun z => z.2⟩
  · rw [nI_clamp (by omega)]
    refine ⟨vp_in_nI (by omega) (by decide), ?_⟩
    intro I38 e38 n39 e39
    rw [nI_1] at e39
    subst e39
    refine kk hz2 I38 ⟨by rw [e38]; exact gSm_u g1 (by decide), fun u hu => ?_⟩
    by_cases e : u = z
    · subst e; rw [e38, gup_at]
    · rw [e38, gup_ne e]; exact g2 u (by omega)
end
