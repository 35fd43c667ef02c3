/-! rounds: the model -/
def mCo (n : Nat) (sz : Nat → Nat) (I : gI) : Prop := n ≤ 6 ∧ I 200 41 = nI n ∧ ∀ j, j < n → 1 ≤ sz j ∧ sz j ≤ 18 ∧ I 229 j = nI (sz j)
theorem p_above {n : Nat} {sz : Nat → Nat} {I : gI} (hC : mCo n sz I) {s : Nat} (hs : s ≤ 18) {Po : Int32 → Prop} (h : ∀ x, s < x → x ≤ 100 → (x = 100 ∨ ∃ j, j < n ∧ sz j = x) → (∀ j, j < n → s < sz j → x ≤ sz j) → Po (nI x)) : wp_X10_above (nI s) I Po := by
  obtain ⟨hn, c0, hc⟩ := hC
  unfold wp_X10_above w_X10_above_5
  refine gl2b (N := n) (i0 := 0) (fun K b v => w_X10_above_5b Po K (nI s) b v I) (fun i b => ∃ x, b = nI x ∧ s < x ∧ x ≤ 100 ∧ (x = 100 ∨ ∃ j, j < n ∧ sz j = x) ∧ ∀ j, j < i → s < sz j → x ≤ sz j) (by omega) (by omega) ⟨100, rfl, by omega, by omega, Or.inl rfl, fun j hj => absurd hj (by omega)⟩ ?_
  rintro i b hi ⟨x, rfl, h1, h2, h3, h4⟩ K kk
  unfold w_X10_above_5b
  refine pk_le n i (fun hz => ?_) (fun hz => ?_) c0 rfl
  · exact h x h1 h2 h3 (fun j hj => h4 j (by omega))
  · obtain ⟨z1, z2, z3⟩ := hc i hz
    have go : ∀ y, s < y → y ≤ 100 → (y = 100 ∨ ∃ j, j < n ∧ sz j = y) → (∀ j, j < i + 1 → s < sz j → y ≤ sz j) → w_X10_above_43 Po K (nI s) (nI i) (nI y) I := by
      intro y y1 y2 y3 y4
      unfold w_X10_above_43
      intro n4 e4
      rw [nI_1] at e4
      subst e4
      exact kk hz _ ⟨y, rfl, y1, y2, y3, y4⟩
    rw [nI_clamp (by omega), z3]
    refine ⟨vp_in_nI (by omega) (by decide), pk_le (sz i) s (fun q => ?_) (fun q => ?_) rfl rfl⟩
    · unfold w_X10_above_42
      refine go x h1 h2 h3 (fun j hj hs => ?_)
      by_cases c : j = i
      · subst c; omega
      · exact h4 j (by omega) hs
    · refine ⟨vp_in_nI (by omega) (by decide), pk_le x (sz i) (fun q2 => ?_) (fun q2 => ?_) rfl rfl⟩
      · unfold w_X10_above_42
        refine go x h1 h2 h3 (fun j hj hs => ?_)
        by_cases c : j = i
        · subst c; exact q2
        · exact h4 j (by omega) hs
      · refine ⟨vp_in_nI (by omega) (by decide), go (sz i) q (by omega) (Or.inr ⟨i, hz, rfl⟩) (fun j hj hs => ?_)⟩
        by_cases c : j = i
        · subst c; exact Nat.le_refl _
        · have := h4 j (by omega) hs; omega
theorem i32_mc (o L : Nat) (h : 1 ≤ o + L) : nI o + (-1) + nI L = nI (o + L - 1) := by
  rw [Int32.add_assoc, Int32.add_comm (-1) (nI L), ← Int32.add_assoc, nI_add, show o + L = (o + L - 1) + 1 by omega, pk_m1, Nat.add_sub_cancel]
/-- one comparison of the model: forwards (wy = 1) or backwards (wy = -1) -/
theorem p_leastRow {f : Nat → Nat} {L j : Nat} {I : gI} (hL : L ≤ 18) (hj : j < L) (hf : ∀ i, i < L → I 230 i = nI (f i) ∧ f i ≤ 18) (h44 : I 200 44 = nI L) {wy : Int32} {g : Nat → Nat} (hg0 : g 0 = j) (hgl : ∀ i, i < L → g i < L) (hgs : ∀ i, i < L → ((nI (g i) + wy + nI L) - (nI (g i) + wy + nI L) / nI L * nI L) = nI (g (i + 1))) {Po : Int32 → Prop} {K2 K12 : Int32 → Prop} {v1 : Int32} (h1 : lsA (fun i => f (g i)) f L → Po 0) (h0 : ¬ lsA (fun i => f (g i)) f L → w_X10_isLeast_107 Po K2 K12 v1 (nI j) wy I) : w_X10_isLeast_31 Po K2 K12 v1 (nI j) wy (0 : Int32) (nI j) I := by
  unfold w_X10_isLeast_31
  refine gr2 (m0 := L) (fun K a b => w_X10_isLeast_31b Po K2 K12 K v1 (nI j) wy a b I) (fun m a b => ∃ i, i + m = L ∧ a = nI i ∧ (b = nI (g i)) ∧ ∀ i', i' < i → f (g i') = f i') ⟨0, by omega, rfl, by rw [hg0], fun i' hi' => absurd hi' (by omega)⟩ ?_
  rintro m a b ⟨i, him, rfl, rfl, g1⟩ K kk
  unfold w_X10_isLeast_31b
  refine pk_le L i (fun hz => ?_) (fun hz => ?_) h44 rfl
  · obtain rfl : i = L := by omega
    have hn := h0 (lsA_not (f := fun i => f (g i)) (k := i) g1 (Or.inl rfl))
    unfold w_X10_isLeast_79
    exact pk_le i i (fun _ => hn) (fun z => by omega) h44 rfl
  · have hgi := hgl i hz
    rw [nI_clamp (n := i) (by omega), nI_clamp (n := g i) (by omega), (hf i hz).1, (hf _ hgi).1]
    have a1 := (hf i hz).2
    have a2 := (hf _ hgi).2
    refine ⟨vp_in_nI (by omega) (by decide), vp_in_nI (by omega) (by decide), fun q => ?_, fun q => ?_⟩
    · have hne : f i ≠ f (g i) := fun e => q (by rw [e])
      unfold w_X10_isLeast_79
      refine pk_le L i (fun z => by omega) (fun _ => ?_) h44 rfl
      rw [nI_clamp (n := i) (by omega), nI_clamp (n := g i) (by omega), (hf i hz).1, (hf _ hgi).1]
      refine ⟨vp_in_nI (by omega) (by decide), vp_in_nI (by omega) (by decide), pk_le (f i) (f (g i)) (fun hle => ?_) (fun hlt => ?_) rfl rfl⟩
      · exact h0 (lsA_not (f := fun i => f (g i)) (k := i) g1 (Or.inr (by show f i < f (g i); omega)))
      · exact h1 ⟨i, hz, g1, hlt⟩
    · have he : f i = f (g i) := (nI_eq (by omega) (by omega)).mp q
      intro n14 e14
      rw [nI_1] at e14
      subst e14
      rw [h44]
      refine ⟨nI_ne0 (by omega) (by omega), ?_⟩
      intro n16 e16
      rw [hgs i hz] at e16
      subst e16
      refine kk (m - 1) _ _ (by omega) ⟨i + 1, by omega, rfl, rfl, fun i' hi' => ?_⟩
      by_cases c : i' = i
      · subst c; exact he.symm
      · exact g1 i' (by omega)
theorem p_isLeast {mir : Prop} {t : List Nat} {I : gI} {v1 : Int32} (hv : v1 = 0 ↔ ¬ mir) (hL : t.length ≤ 18) (hr : rowIs 230 t I) (h44 : I 200 44 = nI t.length) {Po : Int32 → Prop} (h1 : rGood mir t → Po 1) (h0 : ¬ rGood mir t → Po 0) : wp_X10_isLeast v1 I Po := by
  have hf : ∀ i, i < t.length → I 230 i = nI (gt0 t i) ∧ gt0 t i ≤ 18 := fun i hi => ⟨(hr i hi).1, (hr i hi).2.1⟩
  unfold wp_X10_isLeast w_X10_isLeast_2
  refine gl1 (N := t.length) (i0 := 0) (fun K v => w_X10_isLeast_2b Po K v1 v I) (fun j => ∀ j', j' < j → ¬ lsA (fun i => gt0 t ((j' + i) % t.length)) (gt0 t) t.length ∧ (mir → ¬ lsA (fun i => gt0 t ((j' + t.length - i) % t.length)) (gt0 t) t.length)) (by omega) (by omega) (fun i' hi' => absurd hi' (by omega)) ?_
  rintro j hj g1 K kk
  unfold w_X10_isLeast_2b
  refine pk_le t.length j (fun hz => ?_) (fun hz => ?_) h44 rfl
  · exact h1 ⟨fun j' hj' => (g1 j' (by omega)).1, fun m j' hj' => (g1 j' (by omega)).2 m⟩
  · have fin : ¬ lsA (fun i => gt0 t ((j + i) % t.length)) (gt0 t) t.length ∧ (mir → ¬ lsA (fun i => gt0 t ((j + t.length - i) % t.length)) (gt0 t) t.length) → ∀ n4 : Int32, n4 = nI j + 1 → K n4 := by
      intro hg n4 e4
      rw [nI_1] at e4
      subst e4
      refine kk hz (fun j' hj' => ?_)
      by_cases c : j' = j
      · subst c; exact hg
      · exact g1 j' (by omega)
    unfold w_X10_isLeast_12
    refine gr1 (m0 := 2) (fun K12 v => w_X10_isLeast_12b Po K K12 v1 (nI j) v I) (fun m v => (m = 2 ∧ v = 1) ∨ (m = 1 ∧ v = -1 ∧ ¬ lsA (fun i => gt0 t ((j + i) % t.length)) (gt0 t) t.length) ∨ (m = 0 ∧ v = -3 ∧ mir ∧ ¬ lsA (fun i => gt0 t ((j + i) % t.length)) (gt0 t) t.length ∧ ¬ lsA (fun i => gt0 t ((j + t.length - i) % t.length)) (gt0 t) t.length)) (Or.inl ⟨rfl, rfl⟩) ?_
    rintro m v hv2 K12 kk12
    unfold w_X10_isLeast_12b
    -- forwards
    have fw : ∀ s0 : Int32, ¬ (1 : Int32) < s0 → m = 2 → w_X10_isLeast_22 Po K K12 v1 (nI j) 1 s0 1 I := by
      intro s0 hs hm
      unfold w_X10_isLeast_22
      refine ⟨fun q => absurd q hs, fun _ => ?_⟩
      refine p_leastRow hL hz hf h44 (g := fun i => (j + i) % t.length) (by show (j + 0) % t.length = j; rw [Nat.add_zero, Nat.mod_eq_of_lt hz]) (fun i hi => Nat.mod_lt _ (by omega)) (fun i hi => ?_) (fun q => h0 (fun g => g.1 j hz q)) (fun q => ?_)
      · show (nI ((j + i) % t.length) + nI 1 + nI t.length) - (nI ((j + i) % t.length) + nI 1 + nI t.length) / nI t.length * nI t.length = nI ((j + (i + 1)) % t.length)
        have := Nat.mod_lt (j + i) (show 0 < t.length by omega)
        rw [nI_add, nI_add, pk_rem (by omega) (by omega) (by omega), Nat.add_mod_right, Nat.mod_add_mod, Nat.add_assoc]
      · unfold w_X10_isLeast_107
        intro n7 e7
        subst e7
        exact kk12 1 _ (by omega) (Or.inr (Or.inl ⟨rfl, by decide, q⟩))
    rcases hv2 with ⟨hm, rfl⟩ | ⟨hm, rfl, hq⟩ | ⟨hm, rfl, hmi, hq, hq2⟩
    · exact ⟨fun _ => fw 1 (by decide) hm, fun _ => fw (-1) (by decide) hm⟩
    · refine ⟨fun q => ?_, fun q => ?_⟩
      · unfold w_X10_isLeast_22
        exact ⟨fun _ => fin ⟨hq, fun m => absurd m (hv.mp q)⟩, fun z => absurd (by decide) z⟩
      · have hmi : mir := Classical.byContradiction fun c => q (hv.mpr c)
        unfold w_X10_isLeast_22
        refine ⟨fun z => absurd z (by decide), fun _ => ?_⟩
        refine p_leastRow hL hz hf h44 (g := fun i => (j + t.length - i) % t.length) (by show (j + t.length - 0) % t.length = j; rw [Nat.sub_zero, Nat.add_mod_right, Nat.mod_eq_of_lt hz]) (fun i hi => Nat.mod_lt _ (by omega)) (fun i hi => ?_) (fun q => h0 (fun g => g.2 hmi j hz q)) (fun q => ?_)
        · show (nI ((j + t.length - i) % t.length) + (-1) + nI t.length) - (nI ((j + t.length - i) % t.length) + (-1) + nI t.length) / nI t.length * nI t.length = nI ((j + t.length - (i + 1)) % t.length)
          have := Nat.mod_lt (j + t.length - i) (show 0 < t.length by omega)
          rw [i32_mc _ _ (by omega), pk_rem (by omega) (by omega) (by omega)]
          congr 1
          by_cases c : j < i
          · rw [Nat.mod_eq_of_lt (a := j + t.length - i) (by omega), show j + t.length - i + t.length - 1 = (j + t.length - (i + 1)) + t.length by omega, Nat.add_mod_right]
          · rw [show j + t.length - i = (j - i) + t.length by omega, Nat.add_mod_right, Nat.mod_eq_of_lt (a := j - i) (by omega)]
            congr 1
            omega
        · unfold w_X10_isLeast_107
          intro n7 e7
          subst e7
          exact kk12 0 _ (by omega) (Or.inr (Or.inr ⟨rfl, by decide, hmi, hq, q⟩))
    · refine ⟨fun q => absurd hmi (hv.mp q), fun _ => ?_⟩
      unfold w_X10_isLeast_22
      exact ⟨fun _ => fin ⟨hq, fun _ => hq2⟩, fun z => absurd (by decide) z⟩
/-- what is still to be looked at: the stack (last first), what is left, the last size tried -/
def rwR (S : Nat → Bool) (good : List Nat → Bool) : List Nat → Nat → Nat → List (List Nat)
  | [], left, s => rwH S (rwG S good 17) [] left (left - s) (s + 1)
  | x :: st, left, s => rwH S (rwG S good (16 - st.length)) (st.reverse ++ [x]) left (left - s) (s + 1) ++ rwR S good st (left + x) x
def sv : List Nat → Nat
  | [] => 0
  | x :: st => sv st * 64 + 2 * x
theorem sv_lt : ∀ {st : List Nat}, (∀ x, x ∈ st → x ≤ 18) → sv st < 64 ^ st.length
  | [], _ => Nat.one_pos
  | x :: st, h => by
    have h1 := sv_lt (st := st) (fun y hy => h y (List.mem_cons_of_mem _ hy))
    have h2 := h x List.mem_cons_self
    show sv st * 64 + 2 * x < 64 ^ (st.length + 1)
    rw [Nat.pow_succ]
    omega
def svF (st : List Nat) (s : Nat) : Nat := (sv st * 64 + (2 * s + 1)) * 64 ^ (20 - st.length)
theorem svF_lt {st : List Nat} {s : Nat} (h : ∀ x, x ∈ st → x ≤ 18) (hs : s ≤ 18) (hl : st.length ≤ 18) : svF st s < 64 ^ 21 := by
  have h1 := sv_lt h
  have e : 64 ^ (st.length + 1) * 64 ^ (20 - st.length) = 64 ^ 21 := by rw [← Nat.pow_add]; congr 1; omega
  have h2 : sv st * 64 + (2 * s + 1) < 64 ^ (st.length + 1) := by rw [Nat.pow_succ]; omega
  rw [← e]
  exact Nat.mul_lt_mul_of_pos_right h2 (Nat.pow_pos (by decide))
theorem svF_push {st : List Nat} {s x : Nat} (h : s < x) (hl : st.length ≤ 18) : svF st s < svF (x :: st) 0 := by
  show (sv st * 64 + (2 * s + 1)) * 64 ^ (20 - st.length) < ((sv st * 64 + 2 * x) * 64 + (2 * 0 + 1)) * 64 ^ (20 - (st.length + 1))
  rw [show 20 - st.length = (20 - (st.length + 1)) + 1 by omega, Nat.pow_succ, Nat.mul_comm (64 ^ _) 64, ← Nat.mul_assoc]
  refine Nat.mul_lt_mul_of_pos_right ?_ (Nat.pow_pos (by decide))
  omega
theorem svF_pop {st : List Nat} {s x : Nat} (h : s ≤ 18) (hl : st.length ≤ 17) : svF (x :: st) s < svF st x := by
  show ((sv st * 64 + 2 * x) * 64 + (2 * s + 1)) * 64 ^ (20 - (st.length + 1)) < (sv st * 64 + (2 * x + 1)) * 64 ^ (20 - st.length)
  rw [show 20 - st.length = (20 - (st.length + 1)) + 1 by omega, Nat.pow_succ, Nat.mul_comm (64 ^ _) 64, ← Nat.mul_assoc]
  refine Nat.mul_lt_mul_of_pos_right ?_ (Nat.pow_pos (by decide))
  omega
section
variable {S : Nat → Bool} {good : List Nat → Bool}
theorem rwR_H {st : List Nat} {left s : Nat} : ∃ R, (∀ s', rwR S good st left s' = rwH S (rwG S good (17 - st.length)) st.reverse left (left - s') (s' + 1) ++ R) ∧ (∀ x st', st = x :: st' → R = rwR S good st' (left + x) x) ∧ (st = [] → R = []) := by
  cases st with
  | nil => exact ⟨[], fun s' => by rw [List.append_nil]; rfl, fun x st' e => (by cases e), fun _ => rfl⟩
  | cons x st' =>
    refine ⟨rwR S good st' (left + x) x, fun s' => ?_, fun y st'' e => (by cases e; rfl), fun e => (by cases e)⟩
    show rwH S (rwG S good (16 - st'.length)) (st'.reverse ++ [x]) left (left - s') (s' + 1) ++ _ = _
    rw [List.reverse_cons, List.length_cons, show 17 - (st'.length + 1) = 16 - st'.length by omega]
theorem rwR_push {st : List Nat} {left s x : Nat} (hx : S x = true) (h1 : s < x) (h2 : x ≤ left) (hg : ∀ y, S y = true → s < y → x ≤ y) (hl : st.length + left ≤ 18) (hx1 : 1 ≤ x) : rwR S good st left s = (if left = x then (if good (st.reverse ++ [x]) then [st.reverse ++ [x]] else []) else []) ++ rwR S good (x :: st) (left - x) 0 := by
  obtain ⟨R, r1, _, _⟩ := rwR_H (S := S) (good := good) (st := st) (left := left) (s := s)
  have e2 : rwR S good (x :: st) (left - x) 0 = rwH S (rwG S good (16 - st.length)) (st.reverse ++ [x]) (left - x) (left - x) 1 ++ rwR S good st left x := by
    show rwH S (rwG S good (16 - st.length)) (st.reverse ++ [x]) (left - x) (left - x - 0) (0 + 1) ++ rwR S good st (left - x + x) x = _
    rw [Nat.sub_zero, Nat.zero_add, Nat.sub_add_cancel h2]
  have e1 : rwH S (rwG S good (17 - st.length)) st.reverse left (left - s) (s + 1) = rwG S good (17 - st.length) (st.reverse ++ [x]) (left - x) ++ rwH S (rwG S good (17 - st.length)) st.reverse left (left - x) (x + 1) := by
    have := rwH_skip (S := S) (G := rwG S good (17 - st.length)) (pre := st.reverse) (left := left) (x - s - 1) (n := (left - x) + 1) (s := s + 1) (fun s' q1 q2 q3 => by have := hg s' q3 (by omega); omega)
    rw [show x - s - 1 + (left - x + 1) = left - s by omega, show s + 1 + (x - s - 1) = x by omega] at this
    rw [this]
    show (if S x then _ else []) ++ _ = _
    rw [if_pos hx]
  rw [r1 s, e1, e2, r1 x, List.append_assoc]
  by_cases c : left = x
  · subst c
    rw [if_pos rfl, Nat.sub_self, rwG_0]
    rfl
  · rw [if_neg c, List.nil_append, show 17 - st.length = (16 - st.length) + 1 by omega, rwG_s (by omega)]
theorem rwR_pop {st : List Nat} {left s x : Nat} (hg : ∀ y, S y = true → s < y → left < y) : rwR S good (x :: st) left s = rwR S good st (left + x) x := by
  show rwH S (rwG S good (16 - st.length)) (st.reverse ++ [x]) left (left - s) (s + 1) ++ _ = _
  have := rwH_skip (S := S) (G := rwG S good (16 - st.length)) (pre := st.reverse ++ [x]) (left := left) (left - s) (n := 0) (s := s + 1) (fun s' q1 q2 q3 => by have := hg s' q3 (by omega); omega)
  rw [Nat.add_zero] at this
  rw [this]
  rfl
theorem rwR_end {left s : Nat} (hg : ∀ y, S y = true → s < y → left < y) : rwR S good [] left s = [] := by
  show rwH S (rwG S good 17) [] left (left - s) (s + 1) = _
  have := rwH_skip (S := S) (G := rwG S good 17) (pre := []) (left := left) (left - s) (n := 0) (s := s + 1) (fun s' q1 q2 q3 => by have := hg s' q3 (by omega); omega)
  rw [Nat.add_zero] at this
  rw [this]
  rfl
end
theorem len_sum : ∀ {st : List Nat}, (∀ x, x ∈ st → 1 ≤ x ∧ x ≤ 18) → st.length ≤ st.sum
  | [], _ => Nat.le_refl _
  | x :: st, h => by
    have h1 := len_sum (st := st) (fun y hy => h y (List.mem_cons_of_mem _ hy))
    have h2 := h x List.mem_cons_self
    rw [List.length_cons, List.sum_cons]
    omega
def mKp (I I' : gI) : Prop := gSm [200, 230] I I' ∧ ∀ j, j ≠ 44 → I' 200 j = I 200 j
theorem p_go {n t : Nat} {sz : Nat → Nat} {I : gI} (hC : mCo n sz I) {S : Nat → Bool} (hS : ∀ s, S s = true ↔ ∃ j, j < n ∧ sz j = s) (ht1 : 1 ≤ t) (ht18 : t ≤ 18) (h40 : I 200 40 = nI t) {mir : Prop} {v1 w : Int32} (hv : v1 = 0 ↔ ¬ mir) {Po : Int32 → gI → Prop}
    (hno : ∀ I', mKp I I' → I' 200 44 = 0 → (∀ j, j < (rwG S (rGB mir) 18 [] t).length → nI j ≠ w) → Po (nI (rwG S (rGB mir) 18 [] t).length) I')
    (hyes : ∀ I' j r, mKp I I' → (rwG S (rGB mir) 18 [] t)[j]? = some r → nI j = w → (∀ j', j' < j → nI j' ≠ w) → I' 200 44 = nI r.length → 1 ≤ r.length → r.length ≤ 18 → rowIs 230 r I' → Po (nI j) I') : wp_X10_go v1 w I Po := by
  have hS18 : ∀ s, S s = true → 1 ≤ s ∧ s ≤ 18 := fun s hs => by
    obtain ⟨j, hj, rfl⟩ := (hS s).mp hs
    exact ⟨(hC.2.2 j hj).1, (hC.2.2 j hj).2.1⟩
  have hall : rwG S (rGB mir) 18 [] t = rwR S (rGB mir) [] t 0 := by
    rw [rwG_s (by omega)]; rfl
  rw [hall] at hno hyes
  unfold wp_X10_go
  intro I1 e1
  unfold w_X10_go_16
  refine gr5 (m0 := 64 ^ 21 - svF [] 0 + 1) (fun K v3 v4 v5 v6 I => w_X10_go_16b Po K v1 w v3 v4 v5 v6 I) (fun m v3 v4 v5 v6 I' => mKp I I' ∧ ∃ D : List (List Nat), v3 = nI D.length ∧ (∀ j, j < D.length → nI j ≠ w) ∧ ((v6 = 0 ∧ rwR S (rGB mir) [] t 0 = D ∧ I' 200 44 = 0) ∨ ∃ st left s, v6 = 1 ∧ m = 64 ^ 21 - svF st s + 1 ∧ st.sum + left = t ∧ st.length + left ≤ 18 ∧ v4 = nI st.sum ∧ v5 = nI s ∧ s ≤ 18 ∧ I' 200 44 = nI st.length ∧ (∀ x, x ∈ st → 1 ≤ x ∧ x ≤ 18) ∧ rowIs 230 st.reverse I' ∧ rwR S (rGB mir) [] t 0 = D ++ rwR S (rGB mir) st left s)) ⟨⟨by rw [e1]; exact gSm_u (gSm_r I) (by decide), fun j hj => by rw [e1, gup_ne hj]⟩, [], rfl, fun j hj => absurd hj (Nat.not_lt_zero j), Or.inr ⟨[], t, 0, rfl, rfl, by simp, by simp; omega, rfl, rfl, by omega, by rw [e1, gup_at]; rfl, fun x hx => (by cases hx), fun i hi => absurd hi (Nat.not_lt_zero i), rfl⟩⟩ ?_
  rintro m v3 v4 v5 v6 I2 ⟨hk, D, rfl, hD, hcase⟩ K kk
  unfold w_X10_go_16b
  rcases hcase with ⟨rfl, hA, h44⟩ | ⟨st, left, s, rfl, rfl, hsum, hlen, rfl, rfl, hs18, h44, hst, hrow, hA⟩
  · refine ⟨fun _ => ?_, fun q => absurd rfl q⟩
    rw [hA] at hno
    exact hno I2 hk h44 hD
  · refine ⟨fun q => absurd q one_ne, fun _ => ?_⟩
    have hC2 : mCo n sz I2 := ⟨hC.1, by rw [hk.2 41 (by decide)]; exact hC.2.1, fun j hj => ⟨(hC.2.2 j hj).1, (hC.2.2 j hj).2.1, by rw [hk.1 229 (by decide)]; exact (hC.2.2 j hj).2.2⟩⟩
    have h40' : I2 200 40 = nI t := by rw [hk.2 40 (by decide)]; exact h40
    refine p_above hC2 hs18 (fun x x1 x2 x3 x4 => ?_)
    have hmin : ∀ y, S y = true → s < y → x ≤ y := fun y hy hsy => by
      obtain ⟨j, hj, rfl⟩ := (hS y).mp hy
      exact x4 j hj hsy
    rw [h40', nI_add]
    refine pk_lt t (st.sum + x) (fun hgt => ?_) (fun hle => ?_) rfl rfl
    · -- nothing more fits here
      have hnone : ∀ y, S y = true → s < y → left < y := fun y hy hsy => by have := hmin y hy hsy; omega
      rw [h44]
      refine pk_le st.length 0 (fun hz => ?_) (fun hz => ?_) rfl rfl
      · obtain rfl : st = [] := List.eq_nil_of_length_eq_zero (by omega)
        unfold w_X10_go_143
        refine kk 0 _ _ _ _ _ (by omega) ⟨hk, D, rfl, hD, Or.inl ⟨rfl, ?_, by rw [h44]; rfl⟩⟩
        rw [hA, rwR_end hnone, List.append_nil]
      · cases st with
        | nil => exact absurd hz (Nat.lt_irrefl 0)
        | cons y st =>
          rw [List.length_cons] at h44 hlen hz ⊢
          rw [List.sum_cons] at hsum
          have hy := hst y List.mem_cons_self
          intro I6 e6
          rw [i_1, pk_sub (by omega), Nat.add_sub_cancel] at e6
          have g44 : I6 200 44 = nI st.length := by rw [e6, gup_at]
          rw [g44, nI_clamp (by omega)]
          refine ⟨vp_in_nI (by omega) (by decide), ?_⟩
          have hk6 : mKp I I6 := ⟨by rw [e6]; exact gSm_u hk.1 (by decide), fun j hj => by rw [e6, gup_ne hj]; exact hk.2 j hj⟩
          have r230 : I6 230 = I2 230 := by rw [e6, gup_o (by decide)]
          have hyv : I6 230 st.length = nI y := by
            have := (hrow st.length (by simp)).1
            rw [r230, this, List.reverse_cons, show st.length = st.reverse.length by simp, gt0_at]
          rw [hyv]
          intro n8 e8 n9 e9
          rw [e8, List.sum_cons, pk_sub (by omega), Nat.add_sub_cancel_left] at e9
          subst e8 e9
          unfold w_X10_go_143
          have hlt := svF_pop (st := st) (s := s) (x := y) hs18 (by omega)
          have hls := len_sum (st := st) (fun z hz => hst z (List.mem_cons_of_mem _ hz))
          have hlt2 := svF_lt (st := st) (s := y) (fun z hz => (hst z (List.mem_cons_of_mem _ hz)).2) hy.2 (by omega)
          refine kk (64 ^ 21 - svF st y + 1) _ _ _ _ _ (by omega) ⟨hk6, D, rfl, hD, Or.inr ⟨st, left + y, y, rfl, rfl, by omega, by omega, rfl, rfl, hy.2, g44, fun z hz => hst z (List.mem_cons_of_mem _ hz), fun i hi => ?_, ?_⟩⟩
          · have := hrow i (by simp at hi ⊢; omega)
            rw [List.reverse_cons, gt0_l hi] at this
            rw [r230]
            exact this
          · rw [hA, rwR_pop hnone]
    · -- one more
      have hSx : S x = true := by
        rcases x3 with z | z
        · omega
        · exact (hS x).mpr z
      have hx18 := hS18 x hSx
      have hxl : x ≤ left := by omega
      have hpush := rwR_push (good := rGB mir) (st := st) hSx x1 hxl hmin hlen hx18.1
      rw [h44]
      refine ⟨vp_in_nI (by omega) (by decide), ?_⟩
      rw [nI_clamp (by omega)]
      intro I11 e11 I12 e12 n13 e13
      have f44 : I11 200 44 = nI st.length := by rw [e11, gup_o (by decide)]; exact h44
      rw [f44, nI_1] at e12
      subst e13
      have hk12 : mKp I I12 := ⟨by rw [e12, e11]; exact gSm_u (gSm_u hk.1 (by decide)) (by decide), fun j hj => by rw [e12, gup_ne hj, e11, gup_o (by decide)]; exact hk.2 j hj⟩
      have g44 : I12 200 44 = nI (x :: st).length := by rw [e12, gup_at]; rfl
      have g40 : I12 200 40 = nI t := by rw [hk12.2 40 (by decide)]; exact h40
      have r12 : rowIs 230 (x :: st).reverse I12 := by
        intro i hi
        rw [List.reverse_cons] at hi ⊢
        rw [List.length_append, List.length_singleton] at hi
        by_cases c : i = st.reverse.length
        · subst c
          rw [gt0_at, e12, gup_o (by decide), e11, show st.reverse.length = st.length by simp, gup_at]
          exact ⟨rfl, hx18.2, hx18.1⟩
        · have := hrow i (by omega)
          rw [gt0_l (by omega), e12, gup_o (by decide), e11, gup_ne (by simp at c; exact c)]
          exact this
      have hst' : ∀ z, z ∈ x :: st → 1 ≤ z ∧ z ≤ 18 := fun z hz => by
        rcases List.mem_cons.mp hz with rfl | hz
        · exact hx18
        · exact hst z hz
      have hl1 : st.length + 1 ≤ 18 := by omega
      have hlt := svF_push (st := st) (s := s) (x := x) x1 (by omega)
      have hlt2 := svF_lt (st := x :: st) (s := 0) (fun z hz => (hst' z hz).2) (by omega) (by rw [List.length_cons]; omega)
      have nxt : ∀ (D' : List (List Nat)), (∀ j, j < D'.length → nI j ≠ w) → rwR S (rGB mir) [] t 0 = D' ++ rwR S (rGB mir) (x :: st) (left - x) 0 → w_X10_go_143 Po K v1 w (nI D'.length) (nI (st.sum + x)) 0 1 I12 := by
        intro D' hD' hA'
        unfold w_X10_go_143
        exact kk (64 ^ 21 - svF (x :: st) 0 + 1) _ _ _ _ _ (by omega) ⟨hk12, D', rfl, hD', Or.inr ⟨x :: st, left - x, 0, rfl, rfl, by rw [List.sum_cons]; omega, by rw [List.length_cons]; omega, by rw [List.sum_cons, Nat.add_comm], rfl, by omega, g44, hst', r12, hA'⟩⟩
      rw [g40]
      refine ⟨fun q => ?_, fun q => ?_⟩
      · have hne : ¬ left = x := fun e => q (by congr 1; omega)
        rw [if_neg hne, List.nil_append] at hpush
        exact nxt D hD (by rw [hA, hpush])
      · have heq : st.sum + x = t := (nI_eq (by omega) (by omega)).mp q
        have hlx : left = x := by omega
        rw [if_pos hlx] at hpush
        have len : (x :: st).reverse.length = st.length + 1 := by simp
        refine p_isLeast (mir := mir) (t := (x :: st).reverse) hv (by omega) r12 (by rw [g44]; simp) (fun hg => ⟨fun z => absurd z one_ne, fun _ => ?_⟩) (fun hg => ⟨fun _ => ?_, fun z => absurd rfl z⟩)
        · have hb : rGB mir (st.reverse ++ [x]) = true := by rw [← List.reverse_cons]; exact rGB_t.mpr hg
          rw [if_pos hb] at hpush
          refine ⟨fun q3 => ?_, fun q3 => ?_⟩
          · intro n18 e18
            rw [nI_1] at e18
            subst e18
            have := nxt (D ++ [st.reverse ++ [x]]) (fun j hj => ?_) (by rw [hA, hpush, List.append_assoc])
            · rw [List.length_append, List.length_singleton] at this
              exact this
            · rw [List.length_append, List.length_singleton] at hj
              by_cases c : j < D.length
              · exact hD j c
              · obtain rfl : j = D.length := by omega
                exact q3
          · refine hyes I12 D.length (x :: st).reverse hk12 ?_ q3 hD (by rw [g44]; simp) (by omega) (by omega) r12
            rw [hA, hpush, List.getElem?_append_right (Nat.le_refl _), Nat.sub_self, List.reverse_cons]
            rfl
        · have hb : ¬ rGB mir (st.reverse ++ [x]) = true := by rw [← List.reverse_cons, rGB_t]; exact hg
          rw [if_neg hb, List.nil_append] at hpush
          exact nxt D hD (by rw [hA, hpush])
