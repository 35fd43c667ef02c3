/-! WALKS in a finite graph: pigeonhole, shortening, Wielandt's bound -/
theorem g_least {P : Nat → Prop} (h : ∃ k, P k) : ∃ k, P k ∧ ∀ j, j < k → ¬ P j := by
  obtain ⟨k, hk⟩ := h
  induction k using Nat.strongRecOn with
  | ind k ih =>
    by_cases c : ∃ j, j < k ∧ P j
    · obtain ⟨j, hj, hp⟩ := c
      exact ih j hj hp
    · exact ⟨k, hk, fun j hj hp => c ⟨j, hj, hp⟩⟩
theorem g_pig : ∀ (N k : Nat) (f : Nat → Nat), (∀ i, i < k → f i < N) → (∀ i j, i < k → j < k → f i = f j → i = j) → k ≤ N
  | 0, k, f, hf, _ => by
    rcases Nat.eq_zero_or_pos k with h | h
    · omega
    · exact absurd (hf 0 h) (by omega)
  | N + 1, 0, _, _, _ => by omega
  | N + 1, k + 1, f, hf, hi => by
    have := g_pig N k (fun i => if f i = N then f k else f i) (fun i hik => ?_) (fun i j hik hjk e => ?_)
    · omega
    · by_cases c : f i = N
      · have h1 := hf k (by omega)
        have h2 : f k ≠ N := fun e => by have := hi i k (by omega) (by omega) (c.trans e.symm); omega
        simp only [c, if_true]; omega
      · have h1 := hf i (by omega)
        simp only [c, if_false]; omega
    · by_cases c : f i = N
      · by_cases d : f j = N
        · exact hi i j (by omega) (by omega) (c.trans d.symm)
        · simp only [c, d, if_true, if_false] at e
          have := hi k j (by omega) (by omega) e
          omega
      · by_cases d : f j = N
        · simp only [c, d, if_true, if_false] at e
          have := hi i k (by omega) (by omega) e
          omega
        · simp only [c, d, if_false] at e
          exact hi i j (by omega) (by omega) e
theorem g_pig2 {N k : Nat} {f : Nat → Nat} (hf : ∀ i, i < k → f i < N) (h : N < k) : ∃ i j, i < j ∧ j < k ∧ f i = f j := by
  refine Classical.byContradiction fun c => ?_
  have := g_pig N k f hf (fun i j hi hj e => ?_)
  · omega
  · rcases Nat.lt_trichotomy i j with z | z | z
    · exact absurd ⟨i, j, z, hj, e⟩ c
    · exact z
    · exact absurd ⟨j, i, z, hi, e.symm⟩ c
def wk (R : Nat → Nat → Prop) : Nat → Nat → Nat → Prop
  | 0, a, b => a = b
  | k + 1, a, b => ∃ m, R a m ∧ wk R k m b
theorem wk_add {R : Nat → Nat → Prop} : ∀ {j k a m b : Nat}, wk R j a m → wk R k m b → wk R (j + k) a b
  | 0, k, a, m, b, h1, h2 => by cases h1; rw [Nat.zero_add]; exact h2
  | j + 1, k, a, m, b, ⟨x, hx, h1⟩, h2 => by
    rw [show j + 1 + k = (j + k) + 1 by omega]
    exact ⟨x, hx, wk_add h1 h2⟩
theorem wk_split {R : Nat → Nat → Prop} : ∀ {j k a b : Nat}, wk R (j + k) a b → ∃ m, wk R j a m ∧ wk R k m b
  | 0, k, a, b, h => ⟨a, rfl, by rw [Nat.zero_add] at h; exact h⟩
  | j + 1, k, a, b, h => by
    rw [show j + 1 + k = (j + k) + 1 by omega] at h
    obtain ⟨x, hx, h1⟩ := h
    obtain ⟨m, h2, h3⟩ := wk_split h1
    exact ⟨m, ⟨x, hx, h2⟩, h3⟩
theorem wk_one {R : Nat → Nat → Prop} {a b : Nat} (h : R a b) : wk R 1 a b := ⟨b, h, rfl⟩
theorem wk_last {R : Nat → Nat → Prop} {k a b : Nat} : wk R (k + 1) a b ↔ ∃ m, wk R k a m ∧ R m b := by
  constructor
  · intro h
    obtain ⟨m, h1, x, hx, h2⟩ := wk_split (j := k) (k := 1) h
    cases h2
    exact ⟨m, h1, hx⟩
  · rintro ⟨m, h1, h2⟩
    exact wk_add h1 (wk_one h2)
theorem wk_lt {R : Nat → Nat → Prop} {N : Nat} (hR : ∀ a b, R a b → b < N) {k a b : Nat} (ha : a < N) (h : wk R k a b) : b < N := by
  cases k with
  | zero => cases h; exact ha
  | succ k => obtain ⟨m, _, h2⟩ := wk_last.mp h; exact hR _ _ h2
theorem wk_path {R : Nat → Nat → Prop} : ∀ {k a b : Nat}, wk R k a b → ∃ v : Nat → Nat, v 0 = a ∧ v k = b ∧ ∀ i, i < k → R (v i) (v (i + 1))
  | 0, a, b, h => ⟨fun _ => a, rfl, h, fun i hi => absurd hi (by omega)⟩
  | k + 1, a, b, ⟨m, hm, h⟩ => by
    obtain ⟨v, h0, h1, h2⟩ := wk_path h
    refine ⟨fun i => match i with | 0 => a | i + 1 => v i, rfl, h1, fun i hi => ?_⟩
    cases i with
    | zero => show R a (v 0); rw [h0]; exact hm
    | succ i => exact h2 i (by omega)
theorem wk_sub {R : Nat → Nat → Prop} {v : Nat → Nat} {k : Nat} (h : ∀ i, i < k → R (v i) (v (i + 1))) (i : Nat) : ∀ d, i + d ≤ k → wk R d (v i) (v (i + d))
  | 0, _ => rfl
  | d + 1, hd => wk_last.mpr ⟨v (i + d), wk_sub h i d (by omega), h (i + d) (by omega)⟩
theorem path_lt {R : Nat → Nat → Prop} {N : Nat} (hR : ∀ a b, R a b → b < N) {v : Nat → Nat} {k : Nat} (h0 : v 0 < N) (h : ∀ i, i < k → R (v i) (v (i + 1))) {i : Nat} (hi : i ≤ k) : v i < N := by
  cases i with
  | zero => exact h0
  | succ i => exact hR _ _ (h i (by omega))
theorem wk_short {R : Nat → Nat → Prop} {N : Nat} (hR : ∀ a b, R a b → b < N) {a b : Nat} (ha : a < N) (k : Nat) (h : wk R k a b) : ∃ k', k' < N ∧ k' ≤ k ∧ wk R k' a b := by
  induction k using Nat.strongRecOn with
  | ind k ih =>
    by_cases c : k < N
    · exact ⟨k, c, Nat.le_refl _, h⟩
    · obtain ⟨v, h0, h1, h2⟩ := wk_path h
      obtain ⟨i, j, hij, hj, e⟩ := g_pig2 (N := N) (k := k + 1) (f := v) (fun i hi => path_lt hR (by rw [h0]; exact ha) h2 (by omega)) (by omega)
      have w1 : wk R i a (v i) := by
        have := wk_sub h2 0 i (by omega)
        rw [h0, Nat.zero_add] at this
        exact this
      have w2 : wk R (k - j) (v i) b := by
        have := wk_sub h2 j (k - j) (by omega)
        rw [show j + (k - j) = k by omega, h1, ← e] at this
        exact this
      obtain ⟨k', g1, g2, g3⟩ := ih (i + (k - j)) (by omega) (wk_add w1 w2)
      exact ⟨k', g1, by omega, g3⟩
theorem wk_mul {R : Nat → Nat → Prop} {s : Nat} : ∀ {k a b : Nat}, wk R (s * k) a b ↔ wk (wk R s) k a b
  | 0, a, b => by rw [Nat.mul_zero]; exact Iff.rfl
  | k + 1, a, b => by
    rw [show s * (k + 1) = s + s * k by rw [Nat.mul_succ]; omega]
    constructor
    · intro h
      obtain ⟨m, h1, h2⟩ := wk_split h
      exact ⟨m, h1, wk_mul.mp h2⟩
    · rintro ⟨m, h1, h2⟩
      exact wk_add h1 (wk_mul.mpr h2)
theorem full_up {R : Nat → Nat → Prop} {n : Nat} (hR : ∀ a b, R a b → b < n) (ho : ∀ a, a < n → ∃ b, R a b) {K : Nat} (hf : ∀ a b, a < n → b < n → wk R K a b) : ∀ d a b, a < n → b < n → wk R (K + d) a b
  | 0, a, b, ha, hb => hf a b ha hb
  | d + 1, a, b, ha, hb => by
    obtain ⟨m, hm⟩ := ho a ha
    exact ⟨m, hm, full_up hR ho hf d m b (hR _ _ hm) hb⟩
theorem wk_det {R : Nat → Nat → Prop} {n : Nat} (hR : ∀ a b, R a b → b < n) (hu : ∀ a m m', a < n → R a m → R a m' → m = m') : ∀ {k a b b' : Nat}, a < n → wk R k a b → wk R k a b' → b = b'
  | 0, a, b, b', _, h1, h2 => by cases h1; cases h2; rfl
  | k + 1, a, b, b', ha, ⟨m, hm, h1⟩, ⟨m', hm', h2⟩ => by
    have e := hu a m m' ha hm hm'
    subst e
    exact wk_det hR hu (hR _ _ hm) h1 h2
theorem wielandt {R : Nat → Nat → Prop} {n : Nat} (hn : n ≤ 6) (hR : ∀ a b, R a b → b < n) (ho : ∀ a, a < n → ∃ b, R a b) {K : Nat} (hf : ∀ a b, a < n → b < n → wk R K a b) : ∀ a b, a < n → b < n → wk R 26 a b := by
  by_cases c1 : n ≤ 1
  · intro a b ha hb
    have := full_up hR ho (K := 0) (fun a b ha hb => show a = b by omega) 26 a b ha hb
    exact this
  · have up : ∀ k, K ≤ k → ∀ a b, a < n → b < n → wk R k a b := fun k hk a b ha hb => by
      have := full_up hR ho hf (k - K) a b ha hb
      rw [show K + (k - K) = k by omega] at this
      exact this
    obtain ⟨s, ⟨hs1, c, hc, hcyc⟩, hmin⟩ := g_least (P := fun s => 1 ≤ s ∧ ∃ c, c < n ∧ wk R s c c) ⟨K + 1, by omega, 0, by omega, up (K + 1) (by omega) 0 0 (by omega) (by omega)⟩
    have hmin' : ∀ d x, 1 ≤ d → x < n → wk R d x x → s ≤ d := fun d x h1 h2 h3 => by
      rcases Nat.lt_or_ge d s with z | z
      · exact absurd ⟨h1, x, h2, h3⟩ (hmin d z)
      · exact z
    obtain ⟨v, v0, vs, hv⟩ := wk_path hcyc
    have vlt : ∀ i, i ≤ s → v i < n := fun i hi => path_lt hR (by rw [v0]; exact hc) hv hi
    have vinj : ∀ i j, i < s → j < s → v i = v j → i = j := by
      have one : ∀ i j, i < j → j < s → v i ≠ v j := fun i j hij hj e => by
        have := wk_sub hv i (j - i) (by omega)
        rw [show i + (j - i) = j by omega, ← e] at this
        have := hmin' (j - i) (v i) (by omega) (vlt i (by omega)) this
        omega
      intro i j hi hj e
      rcases Nat.lt_trichotomy i j with z | z | z
      · exact absurd e (one i j z hj)
      · exact z
      · exact absurd e.symm (one j i z hi)
    have hsn : s ≤ n := g_pig n s v (fun i hi => vlt i (by omega)) vinj
    have hs2 : s ≠ n := by
      intro hsn'
      have surj : ∀ y, y < n → ∃ j, j < s ∧ v j = y := fun y hy => by
        refine Classical.byContradiction fun no => ?_
        have := g_pig n (s + 1) (fun i => if i < s then v i else y) (fun i hi => ?_) (fun i j hi hj e => ?_)
        · omega
        · by_cases q : i < s
          · simp only [q, if_true]; exact vlt i (by omega)
          · simp only [q, if_false]; exact hy
        · by_cases q : i < s
          · by_cases r : j < s
            · simp only [q, r, if_true] at e; exact vinj i j q r e
            · simp only [q, r, if_true, if_false] at e; exact absurd ⟨i, q, e⟩ no
          · by_cases r : j < s
            · simp only [q, r, if_true, if_false] at e; exact absurd ⟨j, r, e.symm⟩ no
            · omega
      have succ : ∀ i y, i < s → R (v i) y → y = v (i + 1) := fun i y hi hy => by
        obtain ⟨j, hj, rfl⟩ := surj y (hR _ _ hy)
        rcases Nat.lt_or_ge i j with z | z
        · have w1 := wk_sub hv j (s - j) (by omega)
          rw [show j + (s - j) = s by omega, vs, ← v0] at w1
          have w2 := wk_sub hv 0 i (by omega)
          rw [Nat.zero_add] at w2
          have := hmin' _ (v j) (by omega) (vlt j (by omega)) (wk_add (wk_add w1 w2) (wk_one hy))
          rw [show j = i + 1 by omega]
        · have w1 := wk_sub hv j (i - j) (by omega)
          rw [show j + (i - j) = i by omega] at w1
          have := hmin' _ (v j) (by omega) (vlt j (by omega)) (wk_add w1 (wk_one hy))
          have hj0 : j = 0 := by omega
          have hi1 : i + 1 = s := by omega
          rw [hj0, hi1, vs, v0]
      have det : ∀ a m m', a < n → R a m → R a m' → m = m' := fun a m m' ha h1 h2 => by
        obtain ⟨i, hi, rfl⟩ := surj a ha
        rw [succ i m hi h1, succ i m' hi h2]
      have := wk_det hR det (by omega) (hf 0 0 (by omega) (by omega)) (hf 0 1 (by omega) (by omega))
      omega
    have hsle : s + 1 ≤ n := by omega
    -- every node comes to the circle in n - s steps
    have nxt : ∀ t i, i < s → ∃ i', i' < s ∧ wk R t (v i) (v i') := by
      intro t
      induction t with
      | zero => intro i hi; exact ⟨i, hi, rfl⟩
      | succ t ih =>
        intro i hi
        by_cases q : i + 1 < s
        · obtain ⟨i', h1, h2⟩ := ih (i + 1) q
          exact ⟨i', h1, v (i + 1), hv i hi, h2⟩
        · obtain ⟨i', h1, h2⟩ := ih 0 (by omega)
          have : v (i + 1) = v 0 := by rw [show i + 1 = s by omega, vs, v0]
          exact ⟨i', h1, v (i + 1), hv i hi, by rw [this]; exact h2⟩
    have come : ∀ l, l < n → ∃ i, i < s ∧ wk R (n - s) l (v i) := fun l hl => by
      obtain ⟨d, ⟨i, hi, hd⟩, dmin⟩ := g_least (P := fun d => ∃ i, i < s ∧ wk R d l (v i)) ⟨K, 0, by omega, hf l (v 0) hl (vlt 0 (by omega))⟩
      obtain ⟨u, u0, ud, hu⟩ := wk_path hd
      have ult : ∀ j, j ≤ d → u j < n := fun j hj => path_lt hR (by rw [u0]; exact hl) hu hj
      have uw : ∀ j, j ≤ d → wk R j l (u j) := fun j hj => by
        have := wk_sub hu 0 j (by omega)
        rw [u0, Nat.zero_add] at this
        exact this
      have unc : ∀ j i', j < d → i' < s → u j ≠ v i' := fun j i' hj hi' e => dmin j hj ⟨i', hi', by rw [← e]; exact uw j (by omega)⟩
      have uinj : ∀ i j, i < j → j < d → u i ≠ u j := fun i1 j hij hj e => by
        have w2 := wk_sub hu j (d - j) (by omega)
        rw [show j + (d - j) = d by omega, ud, ← e] at w2
        exact dmin (i1 + (d - j)) (by omega) ⟨i, hi, wk_add (uw i1 (by omega)) w2⟩
      have hsd : s + d ≤ n := g_pig n (s + d) (fun i => if i < s then v i else u (i - s)) (fun i hi => by
        by_cases q : i < s
        · simp only [q, if_true]; exact vlt i (by omega)
        · simp only [q, if_false]; exact ult (i - s) (by omega)) (fun i j hi hj e => by
        by_cases q : i < s
        · by_cases r : j < s
          · simp only [q, r, if_true] at e; exact vinj i j q r e
          · simp only [q, r, if_true, if_false] at e; exact absurd e.symm (unc (j - s) i (by omega) q)
        · by_cases r : j < s
          · simp only [q, r, if_true, if_false] at e; exact absurd e (unc (i - s) j (by omega) r)
          · simp only [q, r, if_false] at e
            rcases Nat.lt_trichotomy i j with z | z | z
            · exact absurd e (uinj (i - s) (j - s) (by omega) (by omega))
            · exact z
            · exact absurd e.symm (uinj (j - s) (i - s) (by omega) (by omega)))
      obtain ⟨i', h1, h2⟩ := nxt (n - s - d) i hi
      have := wk_add hd h2
      rw [show d + (n - s - d) = n - s by omega] at this
      exact ⟨i', h1, this⟩
    have all : ∀ a b, a < n → b < n → wk R ((n - s) + s * (n - 1)) a b := fun a b ha hb => by
      obtain ⟨i, hi, h1⟩ := come a ha
      have loop : wk R s (v i) (v i) := by
        have w1 := wk_sub hv i (s - i) (by omega)
        rw [show i + (s - i) = s by omega, vs, ← v0] at w1
        have w2 := wk_sub hv 0 i (by omega)
        rw [Nat.zero_add] at w2
        have := wk_add w1 w2
        rw [show s - i + i = s by omega] at this
        exact this
      have hK : K ≤ s * K := Nat.le_mul_of_pos_left K (by omega)
      have hRs : ∀ x y, wk R s x y → y < n := fun x y h => by
        have e : s - 1 + 1 = s := by omega
        rw [← e] at h
        obtain ⟨m, _, h2⟩ := wk_last.mp h
        exact hR _ _ h2
      obtain ⟨k', k1, _, k3⟩ := wk_short (R := wk R s) (N := n) hRs (vlt i (by omega)) K (wk_mul.mp (up (s * K) hK (v i) b (vlt i (by omega)) hb))
      have loops : ∀ t, wk (wk R s) t (v i) (v i) := fun t => by
        induction t with
        | zero => rfl
        | succ t ih => exact ⟨v i, loop, ih⟩
      have := wk_add (loops (n - 1 - k')) k3
      rw [show n - 1 - k' + k' = n - 1 by omega] at this
      exact wk_add h1 (wk_mul.mpr this)
    have hle : (n - s) + s * (n - 1) ≤ 26 := by
      rcases (show n = 2 ∨ n = 3 ∨ n = 4 ∨ n = 5 ∨ n = 6 by omega) with h | h | h | h | h <;> subst h <;> omega
    intro a b ha hb
    have := full_up hR ho all (26 - ((n - s) + s * (n - 1))) a b ha hb
    rw [show (n - s) + s * (n - 1) + (26 - ((n - s) + s * (n - 1))) = 26 by omega] at this
    exact this
