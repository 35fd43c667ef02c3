/-! many: counted backwards (class) and forwards (model) -/
def sm : Nat → (Nat → Nat) → Nat
  | 0, _ => 0
  | n + 1, f => sm n f + f n
theorem sm_congr {n : Nat} {f g : Nat → Nat} (h : ∀ i, i < n → f i = g i) : sm n f = sm n g := by
  induction n with
  | zero => rfl
  | succ n ih => rw [sm, sm, ih (fun i hi => h i (by omega)), h n (by omega)]
theorem sm_add (n : Nat) (f g : Nat → Nat) : sm n (fun i => f i + g i) = sm n f + sm n g := by
  induction n with
  | zero => rfl
  | succ n ih => simp only [sm]; rw [ih]; omega
theorem sm_mulr (n c : Nat) (f : Nat → Nat) : sm n (fun i => f i * c) = sm n f * c := by
  induction n with
  | zero => simp [sm]
  | succ n ih => simp only [sm]; rw [ih, Nat.add_mul]
theorem sm_mull (n c : Nat) (f : Nat → Nat) : sm n (fun i => c * f i) = c * sm n f := by
  induction n with
  | zero => simp [sm]
  | succ n ih => simp only [sm]; rw [ih, Nat.mul_add]
theorem sm_zero (n : Nat) : sm n (fun _ => 0) = 0 := by
  induction n with
  | zero => rfl
  | succ n ih => simp only [sm]; rw [ih]
theorem sm_swap (n m : Nat) (f : Nat → Nat → Nat) : sm n (fun i => sm m (fun j => f i j)) = sm m (fun j => sm n (fun i => f i j)) := by
  induction n with
  | zero => simp only [sm]; rw [sm_zero]
  | succ n ih => simp only [sm]; rw [ih, ← sm_add]
theorem sm_one {n x : Nat} (hx : x < n) (g : Nat → Nat) : sm n (fun c => if c = x then g c else 0) = g x := by
  induction n with
  | zero => omega
  | succ n ih =>
    simp only [sm]
    by_cases e : x = n
    · subst e
      rw [sm_congr (g := fun _ => 0) (fun i hi => if_neg (by omega)), sm_zero, if_pos rfl]; omega
    · rw [ih (by omega), if_neg (fun h => e h.symm)]; omega
/-- how many m there are in GROWN(c, k) -/
def cntB (q : Nat) (bl : Nat → Nat → Nat) : Nat → Nat → Nat → Nat
  | 0, m, c => if c = m then 1 else 0
  | k + 1, m, c => sm q (fun i => cntB q bl k m (bl c i))
def cntF (n q : Nat) (bl : Nat → Nat → Nat) : Nat → Nat → Nat → Nat
  | 0, l, c => if c = l then 1 else 0
  | k + 1, l, c => sm n (fun c' => sm q (fun i => if bl c' i = c then cntF n q bl k l c' else 0))
theorem cnt_move {n q : Nat} {bl : Nat → Nat → Nat} (hb : ∀ c, c < n → ∀ i, i < q → bl c i < n) (l m j k : Nat) : sm n (fun c => cntF n q bl (j + 1) l c * cntB q bl k m c) = sm n (fun c => cntF n q bl j l c * cntB q bl (k + 1) m c) := by
  have e1 : sm n (fun c => cntF n q bl (j + 1) l c * cntB q bl k m c) = sm n (fun c => sm n (fun c' => sm q (fun i => if c = bl c' i then cntF n q bl j l c' * cntB q bl k m c else 0))) := by
    apply sm_congr
    intro c hc
    show sm n (fun c' => sm q (fun i => if bl c' i = c then cntF n q bl j l c' else 0)) * cntB q bl k m c = _
    rw [← sm_mulr]
    apply sm_congr
    intro c' hc'
    rw [← sm_mulr]
    apply sm_congr
    intro i hi
    by_cases e : bl c' i = c
    · rw [if_pos e, if_pos e.symm]
    · rw [if_neg e, if_neg (fun h => e h.symm), Nat.zero_mul]
  rw [e1, sm_swap]
  apply sm_congr
  intro c' hc'
  rw [sm_swap]
  show _ = cntF n q bl j l c' * sm q (fun i => cntB q bl k m (bl c' i))
  rw [← sm_mull]
  apply sm_congr
  intro i hi
  exact sm_one (hb c' hc' i hi) (fun c => cntF n q bl j l c' * cntB q bl k m c)
theorem cnt_eq {n q : Nat} {bl : Nat → Nat → Nat} (hb : ∀ c, c < n → ∀ i, i < q → bl c i < n) {l m : Nat} (hl : l < n) (hm : m < n) (k : Nat) : cntB q bl k m l = cntF n q bl k l m := by
  have key : ∀ j i, sm n (fun c => cntF n q bl j l c * cntB q bl i m c) = sm n (fun c => cntF n q bl 0 l c * cntB q bl (i + j) m c) := by
    intro j
    induction j with
    | zero => intro i; rfl
    | succ j ih => intro i; rw [cnt_move hb, ih (i + 1), show i + 1 + j = i + (j + 1) by omega]
  have h := key k 0
  have h1 : sm n (fun c => cntF n q bl k l c * cntB q bl 0 m c) = cntF n q bl k l m := by
    rw [← sm_one hm (fun c => cntF n q bl k l c)]
    apply sm_congr
    intro c _
    show cntF n q bl k l c * (if c = m then 1 else 0) = _
    by_cases e : c = m
    · rw [if_pos e, if_pos e, Nat.mul_one]
    · rw [if_neg e, if_neg e, Nat.mul_zero]
  have h2 : sm n (fun c => cntF n q bl 0 l c * cntB q bl (0 + k) m c) = cntB q bl k m l := by
    rw [Nat.zero_add, ← sm_one hl (fun c => cntB q bl k m c)]
    apply sm_congr
    intro c _
    show (if c = l then 1 else 0) * cntB q bl k m c = _
    by_cases e : c = l
    · rw [if_pos e, if_pos e, Nat.one_mul]
    · rw [if_neg e, if_neg e, Nat.zero_mul]
  rw [← h1, h, h2]
theorem RelL_q {a : Nat} (h2 : 2 ≤ a) (h3 : a ≤ 3) : a * a ≤ 9 := by rcases (show a = 2 ∨ a = 3 by omega) with rfl | rfl <;> decide
theorem p_countGrown {n a : Nat} {bl : Nat → Nat → Nat} {I : gI} {J : gL} (hR : RelL n a bl I) {l k m : Nat} (hl : l < n) (hk : k ≤ 18) (hm : m < n) {Po : Int64 → gL → Prop} (h : ∀ J' : gL, gJm [48, 49] J J' → Po (lN (cntB (a * a) bl k m l)) J') : wp_X0_countGrown (nI l) (nI k) (nI m) I J Po := by
  obtain ⟨hn1, hn6, ha2, ha3, l0, m0, l1, m1, hb⟩ := hR
  have hq := RelL_q ha2 ha3
  unfold wp_X0_countGrown
  refine p_fillL (by decide) (fun J1 f1 f2 f3 => ?_)
  refine ⟨vp_in_nI (by omega) (by decide), ?_⟩
  rw [nI_clamp (by omega)]
  intro J3 e3
  unfold w_X0_countGrown_18
  refine ⟨fun v J' => ∃ s : Nat, s ≤ k ∧ v = nI s ∧ gJm [48, 49] J J' ∧ ∀ c, c < n → J' 48 c = lN (cntB (a * a) bl s m c), fun v _ => k - v.toNatClampNeg, ⟨0, by omega, rfl, fun z hz => ?_, fun c hc => ?_⟩, ?_⟩
  · simp only [List.mem_cons, List.not_mem_nil, or_false, not_or] at hz
    rw [e3, gup_o hz.1, f1 z hz.1]
  · rw [e3]
    show gup J1 48 m 1 48 c = lN (if c = m then 1 else 0)
    by_cases e : c = m
    · subst e; rw [gup_at, if_pos rfl]; rfl
    · rw [gup_ne e, if_neg e, f2 c (by omega)]; rfl
  rintro v J4 ⟨s, hs, rfl, g1, g2⟩
  unfold w_X0_countGrown_18b
  refine ⟨fun q => ?_, fun q => ?_⟩
  · have hle := (nI_leI (a := k) (b := s) (by omega) (by omega)).mp q
    obtain rfl : s = k := by omega
    refine ⟨vp_in_nI (by omega) (by decide), ?_⟩
    rw [nI_clamp (by omega), g2 l hl]
    exact h J4 g1
  · have hlt : s < k := by
      rcases Nat.lt_or_ge s k with z | z
      · exact z
      · exact absurd ((nI_leI (a := k) (b := s) (by omega) (by omega)).mpr z) q
    unfold w_X0_countGrown_27
    refine ⟨fun v J' => ∃ f : Nat, f ≤ n ∧ v = nI f ∧ gJm [48, 49] J J' ∧ (∀ c, c < n → J' 48 c = lN (cntB (a * a) bl s m c)) ∧ ∀ c, c < f → J' 49 c = lN (cntB (a * a) bl (s + 1) m c), fun v _ => n - v.toNatClampNeg, ⟨0, by omega, rfl, g1, g2, fun c hc => absurd hc (by omega)⟩, ?_⟩
    rintro v J5 ⟨f, hf, rfl, g3, g4, g5⟩
    unfold w_X0_countGrown_27b
    rw [l0]
    refine ⟨fun q2 => ?_, fun q2 => ?_⟩
    · have hle := (nI_leI (a := n) (b := f) (by omega) (by omega)).mp q2
      obtain rfl : f = n := by omega
      intro J7 e7 n8 e8
      rw [i_1, nI_add] at e8
      subst e7 e8
      refine ⟨⟨s + 1, by omega, rfl, fun z hz => ?_, fun c hc => ?_⟩, mu_lt hlt (by omega)⟩
      · have hz' := hz
        simp only [List.mem_cons, List.not_mem_nil, or_false, not_or] at hz
        rw [guc_o hz.1]; exact g3 z hz'
      · rw [guc_s, pk_cpy_in (by omega) (by omega), show 0 + (c - 0) = c by omega]
        exact g5 c hc
    · have hfn : f < n := by
        rcases Nat.lt_or_ge f n with z | z
        · exact z
        · exact absurd ((nI_leI (a := n) (b := f) (by omega) (by omega)).mpr z) q2
      refine ⟨vp_in_nI (by omega) (by decide), ?_⟩
      rw [nI_clamp (by omega)]
      intro J10 e10
      unfold w_X0_countGrown_47
      refine ⟨fun v J' => ∃ i : Nat, i ≤ a * a ∧ v = nI i ∧ gJm [48, 49] J J' ∧ (∀ c, c < n → J' 48 c = lN (cntB (a * a) bl s m c)) ∧ (∀ c, c < f → J' 49 c = lN (cntB (a * a) bl (s + 1) m c)) ∧ J' 49 f = lN (sm i (fun z => cntB (a * a) bl s m (bl f z))), fun v _ => a * a - v.toNatClampNeg, ⟨0, by omega, rfl, fun z hz => ?_, fun c hc => ?_, fun c hc => ?_, ?_⟩, ?_⟩
      · have hz' := hz
        simp only [List.mem_cons, List.not_mem_nil, or_false, not_or] at hz
        rw [e10, gup_o hz.2]; exact g3 z hz'
      · rw [e10, gup_o (by decide)]; exact g4 c hc
      · rw [e10, gup_ne (by omega)]; exact g5 c hc
      · rw [e10, gup_at]; rfl
      rintro v J6 ⟨i, hi, rfl, k1, k2, k3, k4⟩
      unfold w_X0_countGrown_47b
      rw [l1, pk_mul]
      refine ⟨fun q3 => ?_, fun q3 => ?_⟩
      · have hle := (nI_leI (a := a * a) (b := i) (by omega) (by omega)).mp q3
        obtain rfl : i = a * a := by omega
        intro n12 e12
        rw [i_1, nI_add] at e12
        subst e12
        refine ⟨⟨f + 1, by omega, rfl, k1, k2, fun c hc => ?_⟩, mu_lt hfn (by omega)⟩
        by_cases e : c = f
        · subst e; exact k4
        · exact k3 c (by omega)
      · have hia : i < a * a := by
          rcases Nat.lt_or_ge i (a * a) with z | z
          · exact z
          · exact absurd ((nI_leI (a := a * a) (b := i) (by omega) (by omega)).mpr z) q3
        have hbf := hb f (by omega) i (by omega)
        rw [nI_clamp (by omega), nI_clamp (by omega), hbf.2.1, nI_clamp (by omega)]
        refine ⟨vp_in_nI (by omega) (by decide), vp_in_nI (by omega) (by decide), vp_in_nI (by omega) (by decide), vp_in_nI (by omega) (by decide), vp_in_nI (by omega) (by decide), ?_⟩
        intro J18 e18 n19 e19
        rw [i_1, nI_add] at e19
        rw [k4, k2 _ hbf.1, lN_add] at e18
        subst e18 e19
        refine ⟨⟨i + 1, by omega, rfl, fun z hz => ?_, fun c hc => ?_, fun c hc => ?_, ?_⟩, mu_lt hia (by omega)⟩
        · have hz' := hz
          simp only [List.mem_cons, List.not_mem_nil, or_false, not_or] at hz
          rw [gup_o hz.2]; exact k1 z hz'
        · rw [gup_o (by decide)]; exact k2 c hc
        · rw [gup_ne (by omega)]; exact k3 c hc
        · rw [gup_at]; rfl
