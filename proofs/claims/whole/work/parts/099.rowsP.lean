/-! rows of TILES as numbers: x < T ^ w, its digits the TILES; sums over them -/
def sN (p : Nat → Bool) (f : Nat → Nat) : Nat → Nat
  | 0 => 0
  | n + 1 => sN p f n + (if p n then f n else 0)
theorem sN_cg {p q : Nat → Bool} {f g : Nat → Nat} : ∀ {n : Nat}, (∀ i, i < n → p i = q i ∧ (p i = true → f i = g i)) → sN p f n = sN q g n
  | 0, _ => rfl
  | n + 1, h => by
    obtain ⟨h1, h2⟩ := h n (by omega)
    show sN p f n + (if p n then f n else 0) = sN q g n + (if q n then g n else 0)
    rw [sN_cg (fun i hi => h i (by omega)), ← h1]
    by_cases c : p n = true
    · rw [if_pos c, if_pos c, h2 c]
    · rw [if_neg c, if_neg c]
theorem sN_add (p : Nat → Bool) (f : Nat → Nat) (m : Nat) : ∀ n, sN p f (m + n) = sN p f m + sN (fun i => p (m + i)) (fun i => f (m + i)) n
  | 0 => rfl
  | n + 1 => by
    show sN p f (m + n) + _ = _
    rw [sN_add p f m n]
    exact Nat.add_assoc _ _ _
theorem sN_zero {p : Nat → Bool} {f : Nat → Nat} : ∀ {n : Nat}, (∀ i, i < n → p i = true → f i = 0) → sN p f n = 0
  | 0, _ => rfl
  | n + 1, h => by
    show sN p f n + (if p n then f n else 0) = 0
    rw [sN_zero (fun i hi => h i (by omega))]
    by_cases c : p n = true
    · rw [if_pos c, h n (by omega) c]
    · rw [if_neg c]
/-- nothing between: the sum stands still -/
theorem sN_gap {p : Nat → Bool} {f : Nat → Nat} {a b : Nat} (hab : a ≤ b) (h : ∀ i, a ≤ i → i < b → p i = false) : sN p f b = sN p f a := by
  have := sN_add p f a (b - a)
  rw [show a + (b - a) = b by omega] at this
  have z : sN (fun i => p (a + i)) (fun i => f (a + i)) (b - a) = 0 := sN_zero (fun i hi hp => by
    have hp : p (a + i) = true := hp
    rw [h (a + i) (by omega) (by omega)] at hp
    exact absurd hp (by decide))
  rw [this, z, Nat.add_zero]
theorem sN_le {p : Nat → Bool} {f : Nat → Nat} {B : Nat} : ∀ {n : Nat}, (∀ i, i < n → p i = true → f i ≤ B) → sN p f n ≤ cN p n * B
  | 0, _ => by show 0 ≤ 0 * B; omega
  | n + 1, h => by
    have h1 := sN_le (n := n) (fun i hi => h i (by omega))
    show sN p f n + (if p n then f n else 0) ≤ (cN p n + if p n = true then 1 else 0) * B
    by_cases c : p n = true
    · have := h n (by omega) c
      rw [if_pos c, if_pos c, Nat.add_mul, Nat.one_mul]; omega
    · rw [if_neg c, if_neg c, Nat.add_zero]; exact h1
theorem sN_pos {p : Nat → Bool} {f : Nat → Nat} : ∀ {n : Nat}, 0 < sN p f n ↔ ∃ i, i < n ∧ p i = true ∧ 0 < f i
  | 0 => ⟨fun h => absurd h (Nat.lt_irrefl 0), fun ⟨_, h, _⟩ => absurd h (by omega)⟩
  | n + 1 => by
    show 0 < sN p f n + (if p n then f n else 0) ↔ _
    constructor
    · intro h
      by_cases c : 0 < sN p f n
      · obtain ⟨i, h1, h2⟩ := sN_pos.mp c; exact ⟨i, by omega, h2⟩
      · by_cases d : p n = true
        · rw [if_pos d] at h; exact ⟨n, by omega, d, by omega⟩
        · rw [if_neg d] at h; omega
    · rintro ⟨i, h1, h2, h3⟩
      by_cases e : i = n
      · subst e; rw [if_pos h2]; omega
      · have := sN_pos.mpr ⟨i, (by omega : i < n), h2, h3⟩; omega
theorem cN_nth {p : Nat → Bool} {r : Nat} : ∀ {n : Nat}, r < cN p n → ∃ x, x < n ∧ p x = true ∧ cN p x = r
  | 0, h => absurd h (Nat.not_lt_zero r)
  | n + 1, h => by
    have h : r < cN p n + (if p n = true then 1 else 0) := h
    by_cases c : r < cN p n
    · obtain ⟨x, h1, h2⟩ := cN_nth c; exact ⟨x, by omega, h2⟩
    · by_cases d : p n = true
      · rw [if_pos d] at h; exact ⟨n, by omega, d, by omega⟩
      · rw [if_neg d] at h; omega
theorem cN_m {p : Nat → Bool} {a b : Nat} (h : a ≤ b) : cN p a ≤ cN p b := by
  have := cN_add p a (b - a)
  rw [show a + (b - a) = b by omega] at this
  omega
theorem cN_ms {p : Nat → Bool} {a b : Nat} (h : a < b) (hp : p a = true) : cN p a < cN p b := by
  have h1 : cN p (a + 1) = cN p a + 1 := by show cN p a + (if p a = true then 1 else 0) = _; rw [if_pos hp]
  have h2 := cN_m (p := p) (show a + 1 ≤ b by omega)
  omega
theorem cN_lt' {p : Nat → Bool} {x n : Nat} (hx : x < n) (hp : p x = true) : cN p x < cN p n := cN_ms hx hp
theorem cN_inj {p : Nat → Bool} {x y : Nat} (hx : p x = true) (hy : p y = true) (h : cN p x = cN p y) : x = y := by
  rcases Nat.lt_trichotomy x y with z | z | z
  · have := cN_ms z hx; omega
  · exact z
  · have := cN_ms z hy; omega
/-- the step to the r-th: none before it but those counted -/
theorem cN_gap {p : Nat → Bool} {b x : Nat} (hp : p x = true) (h : cN p x = cN p b) (hbx : b ≤ x) : ∀ i, b ≤ i → i < x → p i = false := by
  intro i h1 h2
  cases e : p i with
  | false => rfl
  | true =>
    have a1 := cN_m (p := p) h1
    have a2 := cN_ms h2 e
    omega
/-! sums told by their place -/
theorem sN_sw1 {r pm : Nat → Bool} {F g : Nat → Nat} {qm : Bool} : ∀ n, sN r F n + (if qm = true then sN (fun j => r j && pm j) g n else 0) = sN r (fun j => F j + (if (qm && pm j) = true then g j else 0)) n
  | 0 => by
    show 0 + (if qm = true then 0 else 0) = 0
    split <;> rfl
  | n + 1 => by
    show (sN r F n + (if r n = true then F n else 0)) + (if qm = true then sN (fun j => r j && pm j) g n + (if (r n && pm n) = true then g n else 0) else 0) = sN r (fun j => F j + (if (qm && pm j) = true then g j else 0)) n + (if r n = true then F n + (if (qm && pm n) = true then g n else 0) else 0)
    rw [← sN_sw1 n]
    cases qm <;> cases hr : r n <;> cases hp : pm n <;> simp <;> omega
theorem sN_swap {p : Nat → Nat → Bool} {f : Nat → Nat → Nat} {q r : Nat → Bool} (n : Nat) : ∀ m, sN q (fun i => sN (fun j => r j && p i j) (fun j => f i j) n) m = sN r (fun j => sN (fun i => q i && p i j) (fun i => f i j) m) n
  | 0 => by
    show 0 = _
    rw [sN_zero]
    intro i _ _; rfl
  | m + 1 => by
    show sN q (fun i => sN (fun j => r j && p i j) (fun j => f i j) n) m + (if q m = true then sN (fun j => r j && p m j) (fun j => f m j) n else 0) = _
    rw [sN_swap n m]
    exact sN_sw1 n
/-! codes -/
def cd (T b : Nat) (f : Nat → Nat) : Nat → Nat → Nat
  | 0, _ => 0
  | j + 1, p => cd T b f j (p / T) * b + f (p % T)
theorem cd_lt {T b : Nat} {f : Nat → Nat} (hT : 0 < T) (hf : ∀ t, t < T → f t < b) : ∀ (j p : Nat), cd T b f j p < b ^ j
  | 0, _ => Nat.one_pos
  | j + 1, p => by
    show cd T b f j (p / T) * b + f (p % T) < b ^ (j + 1)
    have h1 := cd_lt hT hf j (p / T)
    have h2 := hf (p % T) (Nat.mod_lt _ hT)
    have h3 : (cd T b f j (p / T) + 1) * b ≤ b ^ j * b := Nat.mul_le_mul_right b h1
    rw [Nat.add_mul, Nat.one_mul] at h3
    rw [Nat.pow_succ]
    omega
theorem cd_s {b u v x y : Nat} (hx : x < b) (hy : y < b) : u * b + x = v * b + y ↔ u = v ∧ x = y := by
  constructor
  · intro h
    have h1 : (u * b + x) / b = u := by rw [Nat.mul_comm, Nat.mul_add_div (by omega), Nat.div_eq_of_lt hx, Nat.add_zero]
    have h2 : (v * b + y) / b = v := by rw [Nat.mul_comm, Nat.mul_add_div (by omega), Nat.div_eq_of_lt hy, Nat.add_zero]
    have e : u = v := by rw [← h1, h, h2]
    subst e
    exact ⟨rfl, by omega⟩
  · rintro ⟨rfl, rfl⟩; rfl
/-- two codes of the same colours agree together, whatever the digits -/
theorem cd_iff {T b b' : Nat} {f g f' g' : Nat → Nat} (hT : 0 < T) : ∀ (j x y : Nat), (∀ t, t < T → f t < b) → (∀ t, t < T → g t < b) → (∀ t, t < T → f' t < b' ∨ True) → (∀ i, i < j → f' ((x / T ^ i) % T) < b' ∧ g' ((y / T ^ i) % T) < b' ∧ (f ((x / T ^ i) % T) = g ((y / T ^ i) % T) ↔ f' ((x / T ^ i) % T) = g' ((y / T ^ i) % T))) → (cd T b f j x = cd T b g j y ↔ cd T b' f' j x = cd T b' g' j y)
  | 0, _, _, _, _, _, _ => Iff.rfl
  | j + 1, x, y, h1, h2, h3, h4 => by
    show cd T b f j (x / T) * b + f (x % T) = cd T b g j (y / T) * b + g (y % T) ↔ cd T b' f' j (x / T) * b' + f' (x % T) = cd T b' g' j (y / T) * b' + g' (y % T)
    have h0 := h4 0 (by omega)
    rw [Nat.pow_zero, Nat.div_one, Nat.div_one] at h0
    rw [cd_s (h1 _ (Nat.mod_lt _ hT)) (h2 _ (Nat.mod_lt _ hT)), cd_s h0.1 h0.2.1, h0.2.2, cd_iff hT j (x / T) (y / T) h1 h2 h3 (fun i hi => by
      have := h4 (i + 1) (by omega)
      rw [Nat.pow_succ, Nat.mul_comm (T ^ i) T, ← Nat.div_div_eq_div_mul, ← Nat.div_div_eq_div_mul] at this
      exact this)]
def okP (T : Nat) (ea we : Nat → Nat) : Nat → Nat → Bool
  | 0, _ => true
  | j + 1, p => okP T ea we j (p / T) && (decide (j = 0) || decide (ea (p / T % T) = we (p % T)))
def fdg (T : Nat) : Nat → Nat → Nat
  | 0, p => p % T
  | j + 1, p => fdg T j (p / T)
def allP (T : Nat) (h : Nat → Bool) : Nat → Nat → Bool
  | 0, _ => true
  | j + 1, p => allP T h j (p / T) && h (p % T)
theorem allP_i {T : Nat} {h : Nat → Bool} : ∀ {j p : Nat}, allP T h j p = true ↔ ∀ i, i < j → h (p / T ^ i % T) = true
  | 0, p => ⟨fun _ i hi => absurd hi (by omega), fun _ => rfl⟩
  | j + 1, p => by
    show (allP T h j (p / T) && h (p % T)) = true ↔ _
    rw [Bool.and_eq_true, allP_i]
    constructor
    · rintro ⟨h1, h2⟩ i hi
      cases i with
      | zero => rw [Nat.pow_zero, Nat.div_one]; exact h2
      | succ i =>
        rw [Nat.pow_succ, Nat.mul_comm (T ^ i) T, ← Nat.div_div_eq_div_mul]
        exact h1 i (by omega)
    · intro hh
      refine ⟨fun i hi => ?_, ?_⟩
      · have := hh (i + 1) (by omega)
        rw [Nat.pow_succ, Nat.mul_comm (T ^ i) T, ← Nat.div_div_eq_div_mul] at this
        exact this
      · have := hh 0 (by omega)
        rw [Nat.pow_zero, Nat.div_one] at this
        exact this
/-- a prefix of a good row is good -/
theorem okP_pre {T : Nat} {ea we : Nat → Nat} : ∀ (d j x : Nat), okP T ea we (j + d) x = true → okP T ea we j (x / T ^ d) = true
  | 0, j, x, h => by rw [Nat.pow_zero, Nat.div_one]; exact h
  | d + 1, j, x, h => by
    have h : (okP T ea we (j + d) (x / T) && _) = true := h
    rw [Bool.and_eq_true] at h
    have := okP_pre d j (x / T) h.1
    rw [Nat.div_div_eq_div_mul, Nat.mul_comm, ← Nat.pow_succ] at this
    exact this
theorem allP_pre {T : Nat} {h : Nat → Bool} : ∀ (d j x : Nat), allP T h (j + d) x = true → allP T h j (x / T ^ d) = true
  | 0, j, x, hh => by rw [Nat.pow_zero, Nat.div_one]; exact hh
  | d + 1, j, x, hh => by
    have hh : (allP T h (j + d) (x / T) && _) = true := hh
    rw [Bool.and_eq_true] at hh
    have := allP_pre d j (x / T) hh.1
    rw [Nat.div_div_eq_div_mul, Nat.mul_comm, ← Nat.pow_succ] at this
    exact this
/-! chains: W E k c = how many ways there are to lay k rows below the code c and end at E -/
def wy (X : Nat) (ok : Nat → Bool) (N S : Nat → Nat) (E : Nat → Nat) : Nat → Nat → Nat
  | 0, c => E c
  | k + 1, c => sN (fun x => ok x && decide (N x = c)) (fun x => wy X ok N S E k (S x)) X
/-- the class's codes and the model's tell the same -/
theorem wy_eq {X : Nat} {ok ok' : Nat → Bool} {N S N' S' : Nat → Nat} {E E' : Nat → Nat} (hE : ∀ y, y < X → ok y = true → E (S y) = E' (S' y)) (hN : ∀ x y, x < X → y < X → ok y = true → ((ok x && decide (N x = S y)) = (ok' x && decide (N' x = S' y)))) : ∀ (k : Nat) {y : Nat}, y < X → ok y = true → wy X ok N S E k (S y) = wy X ok' N' S' E' k (S' y)
  | 0, y, hy, hok => hE y hy hok
  | k + 1, y, hy, hok => by
    refine sN_cg (fun x hx => ⟨hN x y hx hy hok, fun hp => ?_⟩)
    rw [Bool.and_eq_true] at hp
    exact wy_eq hE hN k hx hp.1
theorem wy_le {X : Nat} {ok : Nat → Bool} {N S E : Nat → Nat} (hE : ∀ c, E c ≤ 1) : ∀ (k c : Nat), wy X ok N S E k c ≤ X ^ k
  | 0, c => hE c
  | k + 1, c => by
    have h1 := sN_le (p := fun x => ok x && decide (N x = c)) (f := fun x => wy X ok N S E k (S x)) (n := X) (fun x _ _ => wy_le hE k (S x))
    have h2 := cN_le (fun x => ok x && decide (N x = c)) X
    show sN _ _ X ≤ X ^ (k + 1)
    rw [Nat.pow_succ, Nat.mul_comm]
    exact Nat.le_trans h1 (Nat.mul_le_mul_right _ h2)
/-- forwards: how many chains of k rows lead from a to b -/
def fw (X : Nat) (ok : Nat → Bool) (N S : Nat → Nat) (a : Nat) : Nat → Nat → Nat
  | 0, c => if c = a then 1 else 0
  | k + 1, c => sN (fun x => ok x && decide (S x = c)) (fun x => fw X ok N S a k (N x)) X
theorem sN_mul {p : Nat → Bool} {f : Nat → Nat} {u : Nat} : ∀ {n : Nat}, sN p f n * u = sN p (fun i => f i * u) n
  | 0 => Nat.zero_mul u
  | n + 1 => by
    show (sN p f n + (if p n then f n else 0)) * u = sN p _ n + (if p n then f n * u else 0)
    rw [Nat.add_mul, sN_mul]
    split <;> simp
/-- both ways round: sums over the rows of what lies behind times what lies ahead -/
theorem fw_wy {X : Nat} {ok : Nat → Bool} {N S E : Nat → Nat} {a : Nat} (k j : Nat) : sN ok (fun x => fw X ok N S a k (N x) * wy X ok N S E (j + 1) (S x)) X = sN ok (fun x => fw X ok N S a (k + 1) (N x) * wy X ok N S E j (S x)) X := by
  have e1 : sN ok (fun x => fw X ok N S a k (N x) * wy X ok N S E (j + 1) (S x)) X = sN ok (fun x => sN (fun y => ok y && decide (N y = S x)) (fun y => fw X ok N S a k (N x) * wy X ok N S E j (S y)) X) X := by
    refine sN_cg (fun x _ => ⟨rfl, fun _ => ?_⟩)
    show fw X ok N S a k (N x) * sN (fun y => ok y && decide (N y = S x)) (fun y => wy X ok N S E j (S y)) X = _
    rw [Nat.mul_comm, sN_mul]
    exact sN_cg (fun y _ => ⟨rfl, fun _ => Nat.mul_comm _ _⟩)
  have e2 : sN ok (fun x => fw X ok N S a (k + 1) (N x) * wy X ok N S E j (S x)) X = sN ok (fun y => sN (fun x => ok x && decide (N y = S x)) (fun x => fw X ok N S a k (N x) * wy X ok N S E j (S y)) X) X := by
    refine sN_cg (fun y _ => ⟨rfl, fun _ => ?_⟩)
    show sN (fun x => ok x && decide (S x = N y)) (fun x => fw X ok N S a k (N x)) X * _ = _
    rw [sN_mul]
    refine sN_cg (fun x _ => ⟨?_, fun _ => rfl⟩)
    congr 1
    by_cases c : S x = N y
    · rw [decide_eq_true c, decide_eq_true c.symm]
    · rw [decide_eq_false c, decide_eq_false (fun z => c z.symm)]
  rw [e1, e2]
  exact sN_swap (p := fun x y => decide (N y = S x)) (f := fun x y => fw X ok N S a k (N x) * wy X ok N S E j (S y)) (q := ok) (r := ok) X X
