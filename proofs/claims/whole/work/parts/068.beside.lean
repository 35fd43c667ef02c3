/-! beside: the model's search by distance -/
theorem insW_lt {n a : Nat} {bl : Nat → Nat → Nat} (h2 : 2 ≤ a) (h3 : a ≤ 3) (hn : n ≤ 6) (hb : ∀ x, x < 6 → ∀ i, i < 9 → bl x i < n) {w x c : Nat} (hx : x < 6) (h : insW a bl w x c) : c < 36 := by
  obtain ⟨p, q, ⟨_, x', y', h4, h5, rfl, rfl⟩ | ⟨_, x', y', h4, h5, rfl, rfl⟩, rfl⟩ := h
  · have := hb x hx _ (RelL_ix h2 h3 (show x' < a by omega) h5)
    have := hb x hx _ (RelL_ix h2 h3 h4 h5)
    omega
  · have := hb x hx _ (RelL_ix h2 h3 h4 (show y' < a by omega))
    have := hb x hx _ (RelL_ix h2 h3 h4 h5)
    omega
theorem acrW_lt {n a : Nat} {bl : Nat → Nat → Nat} (h2 : 2 ≤ a) (h3 : a ≤ 3) (hn : n ≤ 6) (hb : ∀ x, x < 6 → ∀ i, i < 9 → bl x i < n) {w x y c : Nat} (hx : x < 6) (hy : y < 6) (h : acrW a bl w x y c) : c < 36 := by
  obtain ⟨p, q, ⟨_, t, h4, rfl, rfl⟩ | ⟨_, t, h4, rfl, rfl⟩, rfl⟩ := h
  · have := hb x hx _ (RelL_ix h2 h3 (show a - 1 < a by omega) h4)
    have := hb y hy _ (RelL_ix h2 h3 (show 0 < a by omega) h4)
    omega
  · have := hb x hx _ (RelL_ix h2 h3 h4 (show a - 1 < a by omega))
    have := hb y hy _ (RelL_ix h2 h3 h4 (show 0 < a by omega))
    omega
def mdR (n a : Nat) (bl : Nat → Nat → Nat) (u v : Nat) : Prop := (u < n ∧ ((∃ i, i < a * a ∧ bl u i = v) ∨ (∃ c, insW a bl 0 u c ∧ v = 6 + c) ∨ ∃ c, insW a bl 1 u c ∧ v = 42 + c)) ∨ (∃ x y c, x < n ∧ y < n ∧ u = 6 + (6 * x + y) ∧ acrW a bl 0 x y c ∧ v = 6 + c) ∨ ∃ x y c, x < n ∧ y < n ∧ u = 42 + (6 * x + y) ∧ acrW a bl 1 x y c ∧ v = 42 + c
/-- node u is come to in k steps from l -/
def mdW (n a : Nat) (bl : Nat → Nat → Nat) (l k u : Nat) : Prop := (u < 6 ∧ wk (mxR n (a * a) bl) k l u) ∨ (∃ c, c < 36 ∧ u = 6 + c ∧ wk (bsR n a bl 0) k l (6 + c)) ∨ ∃ c, c < 36 ∧ u = 42 + c ∧ wk (bsR n a bl 1) k l (6 + c)
theorem mdW_step {n a : Nat} {bl : Nat → Nat → Nat} {l : Nat} (h2 : 2 ≤ a) (h3 : a ≤ 3) (hn : n ≤ 6) (hb : ∀ x, x < 6 → ∀ i, i < 9 → bl x i < n) (hl : l < n) {k v : Nat} : mdW n a bl l (k + 1) v ↔ ∃ u, mdW n a bl l k u ∧ mdR n a bl u v := by
  have hq : a * a ≤ 9 := by rcases (show a = 2 ∨ a = 3 by omega) with rfl | rfl <;> decide
  constructor
  · rintro (⟨h1, h4⟩ | ⟨c, h1, rfl, h4⟩ | ⟨c, h1, rfl, h4⟩)
    · obtain ⟨m, h5, hm, h6⟩ := wk_last.mp h4
      exact ⟨m, Or.inl ⟨by omega, h5⟩, Or.inl ⟨hm, Or.inl h6⟩⟩
    · obtain ⟨x, h5, h6, h7⟩ | ⟨x, y, h5, h6, h7⟩ := (bs_step hn hb hq hl).mpr h4
      · exact ⟨x, Or.inl ⟨by omega, h6⟩, Or.inl ⟨h5, Or.inr (Or.inl ⟨c, h7, rfl⟩)⟩⟩
      · exact ⟨_, Or.inr (Or.inl ⟨6 * x + y, by omega, rfl, h6⟩), Or.inr (Or.inl ⟨x, y, c, by omega, by omega, rfl, h7, rfl⟩)⟩
    · obtain ⟨x, h5, h6, h7⟩ | ⟨x, y, h5, h6, h7⟩ := (bs_step hn hb hq hl).mpr h4
      · exact ⟨x, Or.inl ⟨by omega, h6⟩, Or.inl ⟨h5, Or.inr (Or.inr ⟨c, h7, rfl⟩)⟩⟩
      · exact ⟨_, Or.inr (Or.inr ⟨6 * x + y, by omega, rfl, h6⟩), Or.inr (Or.inr ⟨x, y, c, by omega, by omega, rfl, h7, rfl⟩)⟩
  · rintro ⟨u, hu, ⟨hun, ⟨i, hi, rfl⟩ | ⟨c, hc, rfl⟩ | ⟨c, hc, rfl⟩⟩ | ⟨x, y, c, hx, hy, rfl, hc, rfl⟩ | ⟨x, y, c, hx, hy, rfl, hc, rfl⟩⟩
    · have := hb u (by omega) i (by omega)
      obtain ⟨_, hw⟩ | ⟨c, _, e, _⟩ | ⟨c, _, e, _⟩ := hu
      · exact Or.inl ⟨by omega, wk_last.mpr ⟨u, hw, hun, i, hi, rfl⟩⟩
      · omega
      · omega
    · obtain ⟨_, hw⟩ | ⟨c, _, e, _⟩ | ⟨c, _, e, _⟩ := hu
      · exact Or.inr (Or.inl ⟨c, insW_lt h2 h3 hn hb (by omega) hc, rfl, (bs_step hn hb hq hl).mp (Or.inl ⟨u, hun, hw, hc⟩)⟩)
      · omega
      · omega
    · obtain ⟨_, hw⟩ | ⟨c, _, e, _⟩ | ⟨c, _, e, _⟩ := hu
      · exact Or.inr (Or.inr ⟨c, insW_lt h2 h3 hn hb (by omega) hc, rfl, (bs_step hn hb hq hl).mp (Or.inl ⟨u, hun, hw, hc⟩)⟩)
      · omega
      · omega
    · obtain ⟨_, hw⟩ | ⟨c', _, e, hw⟩ | ⟨c', _, e, _⟩ := hu
      · omega
      · obtain rfl : c' = 6 * x + y := by omega
        exact Or.inr (Or.inl ⟨c, acrW_lt h2 h3 hn hb (by omega) (by omega) hc, rfl, (bs_step hn hb hq hl).mp (Or.inr ⟨x, y, by omega, hw, hc⟩)⟩)
      · omega
    · obtain ⟨_, hw⟩ | ⟨c', _, e, _⟩ | ⟨c', _, e, hw⟩ := hu
      · omega
      · omega
      · obtain rfl : c' = 6 * x + y := by omega
        exact Or.inr (Or.inr ⟨c, acrW_lt h2 h3 hn hb (by omega) (by omega) hc, rfl, (bs_step hn hb hq hl).mp (Or.inr ⟨x, y, by omega, hw, hc⟩)⟩)
/-- far, in round d, with the nodes of X newly come to -/
def fbI (W : Nat → Nat → Prop) (d : Nat) (X : Nat → Prop) (I : gI) : Prop := ∀ v, v < 78 → (∃ k, k < d ∧ W k v ∧ (∀ j, j < k → ¬ W j v) ∧ I 225 v = nI k) ∨ ((∀ j, j < d → ¬ W j v) ∧ ((X v ∧ I 225 v = nI d) ∨ (¬ X v ∧ I 225 v = -1)))
theorem fbI_c {W : Nat → Nat → Prop} {d : Nat} {X Y : Nat → Prop} {I : gI} (h : fbI W d X I) (e : ∀ v, X v ↔ Y v) : fbI W d Y I := fun v hv => by
  rcases h v hv with h | ⟨h1, ⟨h2, h3⟩ | ⟨h2, h3⟩⟩
  · exact Or.inl h
  · exact Or.inr ⟨h1, Or.inl ⟨(e v).mp h2, h3⟩⟩
  · exact Or.inr ⟨h1, Or.inr ⟨fun z => h2 ((e v).mpr z), h3⟩⟩
theorem nI_m1 {k : Nat} (h : k < 2147483648) : ¬ nI k = -1 := fun e => by
  have h1 := congrArg Int32.toInt e
  rw [nI_toInt h] at h1
  have h2 : (-1 : Int32).toInt = -1 := by decide
  omega
theorem p_reach {W : Nat → Nat → Prop} {d v : Nat} {X : Nat → Prop} {I : gI} (hd : d < 100) (hv : v < 78) (h : fbI W d X I) {Po : gI → Prop} (k : ∀ I', gSm [225] I I' → fbI W d (fun u => X u ∨ u = v) I' → Po I') : wp_X10_reach (nI v) (nI d) I Po := by
  unfold wp_X10_reach
  rw [nI_clamp (by omega)]
  refine ⟨vp_in_nI hv (by decide), fun q => ?_, fun q => ⟨vp_in_nI hv (by decide), fun I4 e4 => ?_⟩⟩
  · refine k I (gSm_r I) (fun u hu => ?_)
    rcases h u hu with g | ⟨g1, ⟨g2, g3⟩ | ⟨g2, g3⟩⟩
    · exact Or.inl g
    · exact Or.inr ⟨g1, Or.inl ⟨Or.inl g2, g3⟩⟩
    · refine Or.inr ⟨g1, Or.inr ⟨?_, g3⟩⟩
      rintro (z | rfl)
      · exact g2 z
      · exact q g3
  · refine k I4 (by rw [e4]; exact gSm_u (gSm_r I) (by decide)) (fun u hu => ?_)
    by_cases e : u = v
    · subst e
      rcases h u hu with ⟨k', k1, k2, k3, k4⟩ | ⟨g1, ⟨g2, g3⟩ | ⟨g2, g3⟩⟩
      · exact absurd (k4.symm.trans q) (nI_m1 (by omega))
      · exact absurd (g3.symm.trans q) (nI_m1 (by omega))
      · exact Or.inr ⟨g1, Or.inl ⟨Or.inr rfl, by rw [e4, gup_at]⟩⟩
    · rw [e4, gup_ne e]
      rcases h u hu with g | ⟨g1, ⟨g2, g3⟩ | ⟨g2, g3⟩⟩
      · exact Or.inl g
      · exact Or.inr ⟨g1, Or.inl ⟨Or.inl g2, g3⟩⟩
      · exact Or.inr ⟨g1, Or.inr ⟨fun z => z.elim g2 e, g3⟩⟩
section
variable {n a : Nat} {bl : Nat → Nat → Nat} {W : Nat → Nat → Prop} {d : Nat}
/-- what inside adds, up to place (x, y) -/
def inA (a : Nat) (bl : Nat → Nat → Nat) (l x y v : Nat) : Prop := ∃ x' y', x' < a ∧ y' < a ∧ (y' < y ∨ y' = y ∧ x' < x) ∧ (v = bl l (a * y' + x') ∨ (x' + 1 < a ∧ v = 6 + 6 * bl l (a * y' + x') + bl l (a * y' + (x' + 1))) ∨ (y' + 1 < a ∧ v = 42 + 6 * bl l (a * y' + x') + bl l (a * (y' + 1) + x')))
theorem inA_step {l x y v : Nat} (hx : x < a) (hy : y < a) : inA a bl l (x + 1) y v ↔ inA a bl l x y v ∨ (v = bl l (a * y + x) ∨ (x + 1 < a ∧ v = 6 + 6 * bl l (a * y + x) + bl l (a * y + (x + 1))) ∨ (y + 1 < a ∧ v = 42 + 6 * bl l (a * y + x) + bl l (a * (y + 1) + x))) := by
  constructor
  · rintro ⟨x', y', h1, h2, h3, h4⟩
    by_cases e : y' = y ∧ x' = x
    · obtain ⟨rfl, rfl⟩ := e
      exact Or.inr h4
    · exact Or.inl ⟨x', y', h1, h2, by omega, h4⟩
  · rintro (⟨x', y', h1, h2, h3, h4⟩ | h)
    · exact ⟨x', y', h1, h2, by omega, h4⟩
    · exact ⟨x, y, hx, hy, by omega, h⟩
theorem inA_all {l v : Nat} (hl : l < n) (h2 : 2 ≤ a) (h3 : a ≤ 3) : inA a bl l 0 a v ↔ ((∃ i, i < a * a ∧ bl l i = v) ∨ (∃ c, insW a bl 0 l c ∧ v = 6 + c) ∨ ∃ c, insW a bl 1 l c ∧ v = 42 + c) := by
  constructor
  · rintro ⟨x, y, hx, hy, _, h | ⟨hx2, h⟩ | ⟨hy2, h⟩⟩
    · refine Or.inl ⟨a * y + x, ?_, h.symm⟩
      rcases (show a = 2 ∨ a = 3 by omega) with rfl | rfl <;> omega
    · exact Or.inr (Or.inl ⟨_, ⟨_, _, Or.inl ⟨rfl, x, y, hx2, hy, rfl, rfl⟩, rfl⟩, by omega⟩)
    · exact Or.inr (Or.inr ⟨_, ⟨_, _, Or.inr ⟨rfl, x, y, hx, hy2, rfl, rfl⟩, rfl⟩, by omega⟩)
  · rintro (⟨i, hi, rfl⟩ | ⟨c, ⟨p, q, ⟨_, x, y, h4, h5, rfl, rfl⟩ | ⟨h0, _⟩, rfl⟩, rfl⟩ | ⟨c, ⟨p, q, ⟨h0, _⟩ | ⟨_, x, y, h4, h5, rfl, rfl⟩, rfl⟩, rfl⟩)
    · refine ⟨i % a, i / a, Nat.mod_lt _ (by omega), Nat.div_lt_of_lt_mul hi, Or.inl (Nat.div_lt_of_lt_mul hi), Or.inl ?_⟩
      rw [Nat.div_add_mod]
    · exact ⟨x, y, by omega, h5, Or.inl h5, Or.inr (Or.inl ⟨h4, by omega⟩)⟩
    · exact absurd h0 (by decide)
    · exact absurd h0 (by decide)
    · exact ⟨x, y, h4, by omega, by omega, Or.inr (Or.inr ⟨h5, by omega⟩)⟩
theorem RelL_225 {I I' : gI} (hR : RelL n a bl I) (g : gSm [225] I I') : RelL n a bl I' := RelL_sm hR (g 40 (by decide)) (fun j _ => by rw [g 200 (by decide)]) (fun l hl => g _ (by simp only [List.mem_cons, List.not_mem_nil, or_false]; omega)) (g 222 (by decide))
theorem p_inside {I : gI} (hR : RelL n a bl I) {l : Nat} (hl : l < n) (hd : d < 100) {X : Nat → Prop} (hf : fbI W d X I) {Po : gI → Prop} (k : ∀ I', gSm [225] I I' → fbI W d (fun v => X v ∨ inA a bl l 0 a v) I' → Po I') : wp_X10_inside (nI l) (nI d) I Po := by
  have hR0 := hR
  obtain ⟨hn1, hn6, ha2, ha3, l0, m0, l1, m1, hb⟩ := hR0
  unfold wp_X10_inside w_X10_inside_2
  refine gl2 (N := a) (i0 := 0) (fun K v I => w_X10_inside_2b Po K (nI l) (nI d) v I) (fun y I' => gSm [225] I I' ∧ fbI W d (fun v => X v ∨ inA a bl l 0 y v) I') (by omega) (by omega) ⟨gSm_r I, fbI_c hf (fun v => ⟨Or.inl, fun z => z.elim id (fun ⟨_, _, _, _, h, _⟩ => by omega)⟩)⟩ ?_
  rintro y I1 hy ⟨g1, g2⟩ K kk
  have f1 : I1 200 32 = nI a := by rw [g1 200 (by decide)]; exact m1
  unfold w_X10_inside_2b
  refine pk_le a y (fun hz => ?_) (fun hz => ?_) f1 rfl
  · obtain rfl : y = a := by omega
    exact k I1 g1 g2
  · unfold w_X10_inside_13
    refine gl2 (N := a) (i0 := 0) (fun K2 v I => w_X10_inside_13b Po K K2 (nI l) (nI d) (nI y) v I) (fun x I' => gSm [225] I I' ∧ fbI W d (fun v => X v ∨ inA a bl l x y v) I') (by omega) (by omega) ⟨g1, g2⟩ ?_
    rintro x I2 hx ⟨g3, g4⟩ K2 kk2
    have f2 : I2 200 32 = nI a := by rw [g3 200 (by decide)]; exact m1
    unfold w_X10_inside_13b
    refine pk_le a x (fun hz2 => ?_) (fun hz2 => ?_) f2 rfl
    · obtain rfl : x = a := by omega
      intro n3 e3
      rw [nI_1] at e3
      subst e3
      refine kk hz I2 ⟨g3, fbI_c g4 (fun v => or_congr Iff.rfl ?_)⟩
      constructor
      · rintro ⟨x', y', h1, h2, h3, h4⟩; exact ⟨x', y', h1, h2, by omega, h4⟩
      · rintro ⟨x', y', h1, h2, h3, h4⟩; exact ⟨x', y', h1, h2, by omega, h4⟩
    · have hR2 := RelL_225 hR g3
      have bx : ∀ x y, x < a → y < a → bl l (a * y + x) < n := fun x y hx hy => (hb l (by omega) _ (RelL_ix ha2 ha3 hx hy)).1
      refine p_atM hR2 (by omega) hz2 hz ?_
      have b0 := bx x y hz2 hz
      refine p_reach hd (by omega) g4 (fun I3 g5 g6 => ?_)
      have g5' := gSm_t g3 g5
      have hR3 := RelL_225 hR g5'
      have f3 : I3 200 32 = nI a := by rw [g5' 200 (by decide)]; exact m1
      -- behind the south pair
      have fin : ∀ I5, gSm [225] I I5 → fbI W d (fun v => (((X v ∨ inA a bl l x y v) ∨ v = bl l (a * y + x)) ∨ (x + 1 < a ∧ v = 6 + 6 * bl l (a * y + x) + bl l (a * y + (x + 1)))) ∨ (y + 1 < a ∧ v = 42 + 6 * bl l (a * y + x) + bl l (a * (y + 1) + x))) I5 → w_X10_inside_116 Po K K2 (nI l) (nI d) (nI y) (nI x) I5 := by
        intro I5 g7 g8
        unfold w_X10_inside_116
        intro n8 e8
        rw [nI_1] at e8
        subst e8
        refine kk2 hz2 I5 ⟨g7, fbI_c g8 (fun v => ?_)⟩
        rw [inA_step hz2 hz]
        simp only [or_assoc]
      have mid : ∀ I4, gSm [225] I I4 → fbI W d (fun v => ((X v ∨ inA a bl l x y v) ∨ v = bl l (a * y + x)) ∨ (x + 1 < a ∧ v = 6 + 6 * bl l (a * y + x) + bl l (a * y + (x + 1)))) I4 → w_X10_inside_76 Po K K2 (nI l) (nI d) (nI y) (nI x) I4 := by
        intro I4 g7 g8
        have hR4 := RelL_225 hR g7
        have f4 : I4 200 32 = nI a := by rw [g7 200 (by decide)]; exact m1
        unfold w_X10_inside_76
        rw [nI_1]
        refine pk_le a (y + 1) (fun hz3 => ?_) (fun hz3 => ?_) f4 rfl
        · exact fin I4 g7 (fbI_c g8 (fun v => ⟨Or.inl, fun z => z.elim id (fun q => absurd q.1 (by omega))⟩))
        · refine p_atM hR4 (by omega) hz2 hz (p_atM hR4 (by omega) hz2 hz3 ?_)
          have b1 := bx x (y + 1) hz2 hz3
          rw [i_42, i_6, pk_mul, nI_add, nI_add]
          refine p_reach hd (by omega) g8 (fun I5 g9 g10 => ?_)
          exact fin I5 (gSm_t g7 g9) (fbI_c g10 (fun v => or_congr Iff.rfl ⟨fun e => ⟨hz3, e⟩, fun e => e.2⟩))
      rw [nI_1]
      refine pk_le a (x + 1) (fun hz3 => ?_) (fun hz3 => ?_) f3 rfl
      · exact mid I3 g5' (fbI_c g6 (fun v => ⟨Or.inl, fun z => z.elim id (fun q => absurd q.1 (by omega))⟩))
      · refine p_atM hR3 (by omega) hz2 hz (p_atM hR3 (by omega) hz3 hz ?_)
        have b1 := bx (x + 1) y hz3 hz
        rw [i_6, pk_mul, nI_add, nI_add]
        refine p_reach hd (by omega) g6 (fun I4 g9 g10 => ?_)
        exact mid I4 (gSm_t g5' g9) (fbI_c g10 (fun v => or_congr Iff.rfl ⟨fun e => ⟨hz3, e⟩, fun e => e.2⟩))
end
