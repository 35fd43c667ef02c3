/-! necklaces: the row that is built from its least turned form (Fredricksen, Kessler, Maiorana) -/
def lsA (f g : Nat → Nat) (L : Nat) : Prop := ∃ i, i < L ∧ (∀ i', i' < i → f i' = g i') ∧ f i < g i
def fkm (f : Nat → Nat) (L p : Nat) : Prop := 1 ≤ p ∧ p ≤ L ∧ (∀ i, p ≤ i → i < L → f i = f (i - p)) ∧ ∀ j, 0 < j → j < p → ∃ i, j + i < p ∧ (∀ i', i' < i → f (j + i') = f i') ∧ f i < f (j + i)
theorem fkm_cg {f g : Nat → Nat} {L p : Nat} (h : fkm f L p) (e : ∀ i, i < L → g i = f i) : fkm g L p := by
  obtain ⟨h1, h2, h3, h4⟩ := h
  refine ⟨h1, h2, fun i hi hL => by rw [e i hL, e (i - p) (by omega)]; exact h3 i hi hL, fun j hj hp => ?_⟩
  obtain ⟨i, k1, k2, k3⟩ := h4 j hj hp
  exact ⟨i, k1, fun i' hi' => by rw [e _ (by omega), e _ (by omega)]; exact k2 i' hi', by rw [e _ (by omega), e _ (by omega)]; exact k3⟩
theorem fkm_per {f : Nat → Nat} {L p : Nat} (h : fkm f L p) : ∀ q r, q * p + r < L → f (q * p + r) = f r
  | 0, r, _ => by rw [Nat.zero_mul, Nat.zero_add]
  | q + 1, r, hL => by
    have e : (q + 1) * p + r = q * p + r + p := by rw [Nat.add_mul, Nat.one_mul]; omega
    rw [e] at hL ⊢
    rw [h.2.2.1 _ (by omega) hL, Nat.add_sub_cancel]
    exact fkm_per h q r (by omega)
theorem fkm_one (f : Nat → Nat) : fkm f 1 1 := ⟨Nat.le_refl _, Nat.le_refl _, fun i h1 h2 => by omega, fun j h1 h2 => by omega⟩
theorem fkm_same {f : Nat → Nat} {L p : Nat} (h : fkm f L p) (e : f L = f (L - p)) : fkm f (L + 1) p := by
  obtain ⟨h1, h2, h3, h4⟩ := h
  refine ⟨h1, by omega, fun i hi hL => ?_, h4⟩
  by_cases c : i = L
  · subst c; exact e
  · exact h3 i hi (by omega)
theorem fkm_up {f : Nat → Nat} {L p : Nat} (h : fkm f L p) (e : f (L - p) < f L) : fkm f (L + 1) (L + 1) := by
  have hper := fkm_per h
  obtain ⟨h1, h2, h3, h4⟩ := h
  refine ⟨by omega, Nat.le_refl _, fun i hi hL => by omega, fun j hj hjL => ?_⟩
  have ej : j = (j / p) * p + j % p := (Nat.div_add_mod' j p).symm
  generalize hq : j / p = q at ej
  generalize hr : j % p = r at ej
  have hrp : r < p := by rw [← hr]; exact Nat.mod_lt _ (by omega)
  -- f (L - p) is what a period says of place L
  have virt : ∀ z, q * p + r + z = L → r + z < p → 1 ≤ q → f (L - p) = f (r + z) := by
    intro z hz hrz hq1
    obtain ⟨q', rfl⟩ : ∃ q', q = q' + 1 := ⟨q - 1, by omega⟩
    have : L - p = q' * p + (r + z) := by rw [Nat.add_mul, Nat.one_mul] at hz; omega
    rw [this]
    exact hper q' (r + z) (by omega)
  by_cases hr0 : r = 0
  · subst hr0
    have hq1 : 1 ≤ q := by
      rcases Nat.eq_zero_or_pos q with z | z
      · subst z; omega
      · exact z
    refine ⟨L - j, by omega, fun i' hi' => ?_, ?_⟩
    · rw [ej, Nat.add_zero]; exact hper q i' (by omega)
    · rw [show j + (L - j) = L by omega]
      obtain ⟨q', rfl⟩ : ∃ q', q = q' + 1 := ⟨q - 1, by omega⟩
      have e1 : L - p = q' * p + (L - j) := by rw [Nat.add_mul, Nat.one_mul] at ej; omega
      have e2 := hper q' (L - j) (by omega)
      rw [e1, e2] at e
      exact e
  · obtain ⟨i, k1, k2, k3⟩ := h4 r (by omega) hrp
    have ef : ∀ i', j + i' < L → r + i' < p → f (j + i') = f (r + i') := fun i' c1 c2 => by
      rw [ej, Nat.add_assoc]; exact hper q (r + i') (by omega)
    by_cases c : j + i < L
    · refine ⟨i, by omega, fun i' hi' => ?_, ?_⟩
      · rw [ef i' (by omega) (by omega)]; exact k2 i' hi'
      · rw [ef i c k1]; exact k3
    · refine ⟨L - j, by omega, fun i' hi' => ?_, ?_⟩
      · rw [ef i' (by omega) (by omega)]; exact k2 i' (by omega)
      · rw [show j + (L - j) = L by omega]
        have hq1 : 1 ≤ q := by
          rcases Nat.eq_zero_or_pos q with z | z
          · subst z; omega
          · exact z
        have e1 := virt (L - j) (by omega) (by omega) hq1
        have e2 : f (L - j) ≤ f (r + (L - j)) := by
          by_cases c2 : L - j = i
          · rw [c2]; omega
          · rw [k2 (L - j) (by omega)]; exact Nat.le_refl _
        omega
/-- a size that is too small: no row that goes on so is the least -/
theorem fkm_skip {f : Nat → Nat} {L p M : Nat} (h : fkm f L p) (hM : L < M) (e : f L < f (L - p)) : p < M ∧ lsA (fun i => f ((p + i) % M)) f M := by
  obtain ⟨h1, h2, h3, h4⟩ := h
  refine ⟨by omega, L - p, by omega, fun i' hi' => ?_, ?_⟩
  · show f ((p + i') % M) = f i'
    rw [Nat.mod_eq_of_lt (by omega), h3 _ (by omega) (by omega)]
    congr 1
    omega
  · show f ((p + (L - p)) % M) < f (L - p)
    rw [show p + (L - p) = L by omega, Nat.mod_eq_of_lt hM]
    exact e
theorem fkm_end {f : Nat → Nat} {L p : Nat} (h : fkm f L p) : (∀ j, j < L → ¬ lsA (fun i => f ((j + i) % L)) f L) ↔ L % p = 0 := by
  have hper := fkm_per h
  obtain ⟨h1, h2, h3, h4⟩ := h
  constructor
  · intro hn
    apply Classical.byContradiction
    intro hz
    have hL : L = (L / p) * p + L % p := (Nat.div_add_mod' L p).symm
    have hrp : L % p < p := Nat.mod_lt _ (by omega)
    generalize hr : L % p = r at *
    generalize hq : L / p = q at *
    obtain ⟨i, k1, k2, k3⟩ := h4 r (by omega) hrp
    refine hn (q * p) (by omega) ⟨r + i, by omega, fun i' hi' => ?_, ?_⟩
    · show f ((q * p + i') % L) = f i'
      by_cases c : i' < r
      · rw [Nat.mod_eq_of_lt (by omega)]; exact hper q i' (by omega)
      · rw [show q * p + i' = (i' - r) + L by omega, Nat.add_mod_right, Nat.mod_eq_of_lt (by omega)]
        have := k2 (i' - r) (by omega)
        rw [show r + (i' - r) = i' by omega] at this
        exact this.symm
    · show f ((q * p + (r + i)) % L) < f (r + i)
      rw [show q * p + (r + i) = i + L by omega, Nat.add_mod_right, Nat.mod_eq_of_lt (by omega)]
      exact k3
  · rintro hz j hj ⟨i, w1, w2, w3⟩
    have w2 : ∀ i', i' < i → f ((j + i') % L) = f i' := w2
    have w3 : f ((j + i) % L) < f i := w3
    have ej : j = (j / p) * p + j % p := (Nat.div_add_mod' j p).symm
    have hrp : j % p < p := Nat.mod_lt _ (by omega)
    obtain ⟨m, em⟩ : ∃ m, L = m * p := ⟨L / p, by rw [Nat.div_mul_cancel (Nat.dvd_of_mod_eq_zero hz)]⟩
    generalize hr : j % p = r at *
    generalize hq : j / p = q at *
    -- a place after j, turned round, and its period
    have red : ∀ z, f ((j + z) % L) = f ((r + z) % p) := by
      intro z
      have e1 : (j + z) % L % p = (r + z) % p := by
        rw [em, Nat.mod_mul_left_mod, ej, Nat.add_assoc, Nat.mul_add_mod_self_right]
      have e2 : (j + z) % L = ((j + z) % L / p) * p + (j + z) % L % p := (Nat.div_add_mod' _ p).symm
      have hl : (j + z) % L < L := Nat.mod_lt _ (by omega)
      rw [e2] at hl ⊢
      rw [hper _ _ hl, e1]
    have red0 : ∀ z, z < L → f z = f (z % p) := by
      intro z hzL
      have e2 : z = (z / p) * p + z % p := (Nat.div_add_mod' z p).symm
      have := hper (z / p) (z % p) (by omega)
      rw [← e2] at this
      exact this
    by_cases hr0 : r = 0
    · subst hr0
      rw [red, Nat.zero_add, ← red0 i w1] at w3
      omega
    · obtain ⟨k, k1, k2, k3⟩ := h4 r (by omega) hrp
      rcases Nat.lt_trichotomy i k with c | c | c
      · rw [red, Nat.mod_eq_of_lt (by omega), k2 i c] at w3
        omega
      · subst c
        rw [red, Nat.mod_eq_of_lt (by omega)] at w3
        omega
      · have := w2 k c
        rw [red, Nat.mod_eq_of_lt k1] at this
        omega
/-! all rows, in their order -/
def gt0 (t : List Nat) (i : Nat) : Nat := t.getD i 0
theorem gt0_l {t : List Nat} {s i : Nat} (h : i < t.length) : gt0 (t ++ [s]) i = gt0 t i := by
  unfold gt0
  rw [List.getD_eq_getElem?_getD, List.getD_eq_getElem?_getD, List.getElem?_append_left h]
theorem gt0_x {t v : List Nat} {i : Nat} (h : i < t.length) : gt0 (t ++ v) i = gt0 t i := by
  unfold gt0
  rw [List.getD_eq_getElem?_getD, List.getD_eq_getElem?_getD, List.getElem?_append_left h]
theorem gt0_at {t : List Nat} {s : Nat} : gt0 (t ++ [s]) t.length = s := by
  unfold gt0
  simp
def rGood (mir : Prop) (t : List Nat) : Prop := (∀ j, j < t.length → ¬ lsA (fun i => gt0 t ((j + i) % t.length)) (gt0 t) t.length) ∧ (mir → ∀ j, j < t.length → ¬ lsA (fun i => gt0 t ((j + t.length - i) % t.length)) (gt0 t) t.length)
noncomputable def rGB (mir : Prop) (t : List Nat) : Bool := @decide (rGood mir t) (Classical.propDecidable _)
theorem rGB_t {mir : Prop} {t : List Nat} : rGB mir t = true ↔ rGood mir t := @decide_eq_true_iff _ (Classical.propDecidable _)
def rwH (S : Nat → Bool) (G : List Nat → Nat → List (List Nat)) (pre : List Nat) (left : Nat) : Nat → Nat → List (List Nat)
  | 0, _ => []
  | n + 1, s => (if S s then G (pre ++ [s]) (left - s) else []) ++ rwH S G pre left n (s + 1)
def rwG (S : Nat → Bool) (good : List Nat → Bool) : Nat → List Nat → Nat → List (List Nat)
  | 0, pre, left => if left = 0 then (if good pre then [pre] else []) else []
  | f + 1, pre, left => if left = 0 then (if good pre then [pre] else []) else rwH S (rwG S good f) pre left left 1
section
variable {S : Nat → Bool} {good : List Nat → Bool}
theorem rwG_0 {f : Nat} {pre : List Nat} : rwG S good f pre 0 = if good pre then [pre] else [] := by
  cases f <;> rfl
theorem rwG_s {f : Nat} {pre : List Nat} {left : Nat} (h : 0 < left) : rwG S good (f + 1) pre left = rwH S (rwG S good f) pre left left 1 := by
  show (if left = 0 then _ else _) = _
  rw [if_neg (by omega)]
theorem rwH_mem {G : List Nat → Nat → List (List Nat)} {pre : List Nat} {left : Nat} {t : List Nat} : ∀ {n s : Nat}, t ∈ rwH S G pre left n s → ∃ s', s ≤ s' ∧ s' < s + n ∧ S s' = true ∧ t ∈ G (pre ++ [s']) (left - s')
  | 0, s, h => by cases h
  | n + 1, s, h => by
    rcases List.mem_append.mp h with h | h
    · by_cases c : S s = true
      · rw [if_pos c] at h; exact ⟨s, Nat.le_refl _, by omega, c, h⟩
      · rw [if_neg c] at h; cases h
    · obtain ⟨s', h1, h2, h3⟩ := rwH_mem h
      exact ⟨s', by omega, by omega, h3⟩
theorem rwG_mem : ∀ {f : Nat} {pre : List Nat} {left : Nat} {t : List Nat}, t ∈ rwG S good f pre left → (∃ v, t = pre ++ v) ∧ good t = true
  | 0, pre, left, t, h => by
    have h : t ∈ (if left = 0 then (if good pre then [pre] else []) else []) := h
    split at h
    · split at h
      · obtain rfl := List.mem_singleton.mp h; exact ⟨⟨[], (List.append_nil _).symm⟩, by assumption⟩
      · cases h
    · cases h
  | f + 1, pre, left, t, h => by
    have h : t ∈ (if left = 0 then (if good pre then [pre] else []) else rwH S (rwG S good f) pre left left 1) := h
    split at h
    · split at h
      · obtain rfl := List.mem_singleton.mp h; exact ⟨⟨[], (List.append_nil _).symm⟩, by assumption⟩
      · cases h
    · obtain ⟨s', _, _, _, h4⟩ := rwH_mem h
      obtain ⟨⟨v, rfl⟩, h5⟩ := rwG_mem h4
      exact ⟨⟨[s'] ++ v, by rw [List.append_assoc]⟩, h5⟩
theorem rwH_skip {G : List Nat → Nat → List (List Nat)} {pre : List Nat} {left : Nat} : ∀ (d : Nat) {n s : Nat}, (∀ s', s ≤ s' → s' < s + d → S s' = true → G (pre ++ [s']) (left - s') = []) → rwH S G pre left (d + n) s = rwH S G pre left n (s + d)
  | 0, n, s, _ => by rw [Nat.zero_add, Nat.add_zero]
  | d + 1, n, s, h => by
    rw [show d + 1 + n = (d + n) + 1 by omega]
    show (if S s then G (pre ++ [s]) (left - s) else []) ++ rwH S G pre left (d + n) (s + 1) = _
    rw [rwH_skip d (fun s' h1 h2 => h s' (by omega) (by omega)), show s + 1 + d = s + (d + 1) by omega]
    by_cases c : S s = true
    · rw [if_pos c, h s (Nat.le_refl _) (by omega) c, List.nil_append]
    · rw [if_neg c, List.nil_append]
theorem rwH_len {G : List Nat → Nat → List (List Nat)} {pre : List Nat} {left : Nat} (hG : ∀ s, s ≤ left → (G (pre ++ [s]) (left - s)).length ≤ 2 ^ (left - s)) : ∀ {n s : Nat}, s + n = left + 1 → (rwH S G pre left n s).length + 1 ≤ 2 ^ n
  | 0, s, _ => Nat.le_refl _
  | n + 1, s, h => by
    show ((if S s then G (pre ++ [s]) (left - s) else []) ++ rwH S G pre left n (s + 1)).length + 1 ≤ _
    have h1 := rwH_len (n := n) (s := s + 1) hG (by omega)
    have h2 : (if S s then G (pre ++ [s]) (left - s) else []).length ≤ 2 ^ n := by
      split
      · have := hG s (by omega); rw [show left - s = n by omega] at this; rw [show left - s = n by omega]; exact this
      · exact Nat.zero_le _
    rw [List.length_append, Nat.pow_succ]
    omega
theorem rwG_len : ∀ (f : Nat) (pre : List Nat) (left : Nat), (rwG S good f pre left).length ≤ 2 ^ left
  | 0, pre, left => by
    show (if left = 0 then (if good pre then [pre] else []) else []).length ≤ _
    have := Nat.pow_pos (n := left) (show 0 < 2 by decide)
    split
    · split
      · exact this
      · exact Nat.zero_le _
    · exact Nat.zero_le _
  | f + 1, pre, left => by
    show (if left = 0 then (if good pre then [pre] else []) else rwH S (rwG S good f) pre left left 1).length ≤ _
    have := Nat.pow_pos (n := left) (show 0 < 2 by decide)
    split
    · split
      · exact this
      · exact Nat.zero_le _
    · have := rwH_len (S := S) (G := rwG S good f) (pre := pre) (left := left) (fun s _ => rwG_len f _ _) (n := left) (s := 1) (by omega)
      omega
end
