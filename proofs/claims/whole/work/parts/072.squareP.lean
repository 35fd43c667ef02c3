/-! squares of GROWN(l, k): by places, and by what the class does -/
theorem grw_last {a : Nat} {bl : Nat → Nat → Nat} : ∀ (k : Nat) {l x y : Nat}, x < a ^ (k + 1) → y < a ^ (k + 1) → grw a bl (k + 1) l x y = bl (grw a bl k l (x / a) (y / a)) (a * (y % a) + x % a)
  | 0, l, x, y, hx, hy => by
    rw [Nat.pow_succ, Nat.pow_zero, Nat.one_mul] at hx hy
    show bl l (a * (y / a ^ 0) + x / a ^ 0) = bl l (a * (y % a) + x % a)
    rw [Nat.pow_zero, Nat.div_one, Nat.div_one, Nat.mod_eq_of_lt hx, Nat.mod_eq_of_lt hy]
  | k + 1, l, x, y, hx, hy => by
    have ha : 0 < a := by
      rcases Nat.eq_zero_or_pos a with h | h
      · subst h; simp at hx
      · exact h
    have hp : 0 < a ^ (k + 1) := Nat.pow_pos ha
    show grw a bl (k + 1) (bl l (a * (y / a ^ (k + 1)) + x / a ^ (k + 1))) (x % a ^ (k + 1)) (y % a ^ (k + 1)) = bl (grw a bl k (bl l (a * (y / a / a ^ k) + x / a / a ^ k)) (x / a % a ^ k) (y / a % a ^ k)) (a * (y % a) + x % a)
    rw [grw_last k (Nat.mod_lt _ hp) (Nat.mod_lt _ hp)]
    have e1 : ∀ z, z / a / a ^ k = z / a ^ (k + 1) := fun z => by rw [Nat.div_div_eq_div_mul, Nat.pow_succ, Nat.mul_comm]
    have e2 : ∀ z, z % a ^ (k + 1) / a = z / a % a ^ k := fun z => by rw [Nat.pow_succ, Nat.mul_comm, Nat.mod_mul_right_div_self]
    have e3 : ∀ z, z % a ^ (k + 1) % a = z % a := fun z => Nat.mod_mod_of_dvd _ (by rw [Nat.pow_succ]; exact Nat.dvd_mul_left _ _)
    rw [e1, e1, e2, e2, e3, e3]
theorem sq_ix {a W X p : Nat} (hX : X < W) (hp : p < a) : a * X + p < W * a := by
  have : a * (X + 1) ≤ a * W := Nat.mul_le_mul_left a hX
  rw [Nat.mul_comm W a]
  rw [Nat.mul_add, Nat.mul_one] at this
  omega
theorem grw_at {a : Nat} {bl : Nat → Nat → Nat} {k l X Y p q : Nat} (hX : X < a ^ k) (hY : Y < a ^ k) (hp : p < a) (hq : q < a) : grw a bl (k + 1) l (a * X + p) (a * Y + q) = bl (grw a bl k l X Y) (a * q + p) := by
  have d : ∀ Z r, r < a → (a * Z + r) / a = Z := fun Z r hr => by rw [Nat.mul_add_div (by omega), Nat.div_eq_of_lt hr, Nat.add_zero]
  have m : ∀ Z r, r < a → (a * Z + r) % a = r := fun Z r hr => by rw [Nat.mul_add_mod, Nat.mod_eq_of_lt hr]
  rw [grw_last k (by rw [Nat.pow_succ]; exact sq_ix hX hp) (by rw [Nat.pow_succ]; exact sq_ix hY hq), d X p hp, d Y q hq, m X p hp, m Y q hq]
theorem sq_dec {a k x : Nat} (h2 : 2 ≤ a) (hx : x < a ^ (k + 1)) : ∃ X p, X < a ^ k ∧ p < a ∧ x = a * X + p := by
  refine ⟨x / a, x % a, ?_, Nat.mod_lt _ (by omega), (Nat.div_add_mod x a).symm⟩
  rw [Nat.pow_succ, Nat.mul_comm] at hx
  exact Nat.div_lt_of_lt_mul hx
theorem sq_dec1 {a k x : Nat} (h2 : 2 ≤ a) (hx : x + 1 < a ^ (k + 1)) : (∃ X p, X < a ^ k ∧ p + 1 < a ∧ x = a * X + p ∧ x + 1 = a * X + (p + 1)) ∨ ∃ X, X + 1 < a ^ k ∧ x = a * X + (a - 1) ∧ x + 1 = a * (X + 1) + 0 := by
  obtain ⟨X, p, hX, hp, rfl⟩ := sq_dec (k := k) h2 (show x < a ^ (k + 1) by omega)
  by_cases c : p + 1 < a
  · exact Or.inl ⟨X, p, hX, c, rfl, by omega⟩
  · obtain rfl : p = a - 1 := by omega
    refine Or.inr ⟨X, ?_, rfl, by rw [Nat.mul_add]; omega⟩
    obtain ⟨X', p', hX', hp', e⟩ := sq_dec (k := k) h2 hx
    have e1 : (a * X + (a - 1) + 1) / a = X + 1 := by
      rw [show a * X + (a - 1) + 1 = a * (X + 1) by rw [Nat.mul_add]; omega, Nat.mul_div_cancel_left _ (by omega)]
    have e2 : (a * X' + p') / a = X' := by rw [Nat.mul_add_div (by omega), Nat.div_eq_of_lt hp', Nat.add_zero]
    rw [e, e2] at e1
    omega
theorem sq_up {a k X p : Nat} (hX : X < a ^ k) (hp : p < a) : a * X + p < a ^ (k + 1) := by rw [Nat.pow_succ]; exact sq_ix hX hp
def pL (a : Nat) (bl : Nat → Nat → Nat) (l k m : Nat) : Prop := ∃ X Y, X < a ^ k ∧ Y < a ^ k ∧ grw a bl k l X Y = m
def pW0 (a : Nat) (bl : Nat → Nat → Nat) (l k c : Nat) : Prop := ∃ X Y, X + 1 < a ^ k ∧ Y < a ^ k ∧ c = 6 * grw a bl k l X Y + grw a bl k l (X + 1) Y
def pW1 (a : Nat) (bl : Nat → Nat → Nat) (l k c : Nat) : Prop := ∃ X Y, X < a ^ k ∧ Y + 1 < a ^ k ∧ c = 6 * grw a bl k l X Y + grw a bl k l X (Y + 1)
def sqC (x y z w : Nat) : Nat := 6 * (6 * (6 * x + y) + z) + w
def pQ (a : Nat) (bl : Nat → Nat → Nat) (l k c : Nat) : Prop := ∃ X Y, X + 1 < a ^ k ∧ Y + 1 < a ^ k ∧ c = sqC (grw a bl k l X Y) (grw a bl k l (X + 1) Y) (grw a bl k l X (Y + 1)) (grw a bl k l (X + 1) (Y + 1))
def sqI (a : Nat) (bl : Nat → Nat → Nat) (m c : Nat) : Prop := ∃ p q, p + 1 < a ∧ q + 1 < a ∧ c = sqC (bl m (a * q + p)) (bl m (a * q + (p + 1))) (bl m (a * (q + 1) + p)) (bl m (a * (q + 1) + (p + 1)))
def sqE (a : Nat) (bl : Nat → Nat → Nat) (x y c : Nat) : Prop := ∃ q, q + 1 < a ∧ c = sqC (bl x (a * q + (a - 1))) (bl y (a * q + 0)) (bl x (a * (q + 1) + (a - 1))) (bl y (a * (q + 1) + 0))
def sqS (a : Nat) (bl : Nat → Nat → Nat) (x y c : Nat) : Prop := ∃ p, p + 1 < a ∧ c = sqC (bl x (a * (a - 1) + p)) (bl x (a * (a - 1) + (p + 1))) (bl y (a * 0 + p)) (bl y (a * 0 + (p + 1)))
def sqX (a : Nat) (bl : Nat → Nat → Nat) (x y z w : Nat) : Nat := sqC (bl x (a * (a - 1) + (a - 1))) (bl y (a * (a - 1) + 0)) (bl z (a * 0 + (a - 1))) (bl w (a * 0 + 0))
section
variable {n a : Nat} {bl : Nat → Nat → Nat} {l : Nat}
theorem grw_lt (h2 : 2 ≤ a) (h3 : a ≤ 3) (hb : ∀ x, x < 6 → ∀ i, i < 9 → bl x i < n) (hn : n ≤ 6) : ∀ (k : Nat) {l x y : Nat}, l < n → x < a ^ k → y < a ^ k → grw a bl k l x y < n
  | 0, l, x, y, hl, _, _ => hl
  | k + 1, l, x, y, hl, hx, hy => by
    have hp := pw_pos h2 k
    exact grw_lt h2 h3 hb hn k (hb l (by omega) _ (RelL_ix h2 h3 (pw_div hx) (pw_div hy))) (Nat.mod_lt _ hp) (Nat.mod_lt _ hp)
theorem pL_wk (h2 : 2 ≤ a) (h3 : a ≤ 3) (hb : ∀ x, x < 6 → ∀ i, i < 9 → bl x i < n) (hn : n ≤ 6) (hl : l < n) : ∀ {k m : Nat}, pL a bl l k m ↔ wk (mxR n (a * a) bl) k l m
  | 0, m => by
    constructor
    · rintro ⟨X, Y, _, _, e⟩; exact e
    · intro e; exact ⟨0, 0, pw_pos h2 0, pw_pos h2 0, e⟩
  | k + 1, m => by
    rw [wk_last]
    constructor
    · rintro ⟨x, y, hx, hy, e⟩
      obtain ⟨X, p, hX, hp, rfl⟩ := sq_dec h2 hx
      obtain ⟨Y, q, hY, hq, rfl⟩ := sq_dec h2 hy
      rw [grw_at hX hY hp hq] at e
      exact ⟨_, (pL_wk h2 h3 hb hn hl).mp ⟨X, Y, hX, hY, rfl⟩, grw_lt h2 h3 hb hn k hl hX hY, _, by rw [Nat.add_comm (a * q) p, Nat.add_comm, Nat.mul_comm a q]; have := sq_ix (a := a) (W := a) hq hp; rw [Nat.mul_comm a q] at this; omega, e⟩
    · rintro ⟨u, hu, hun, i, hi, e⟩
      obtain ⟨X, Y, hX, hY, rfl⟩ := (pL_wk h2 h3 hb hn hl).mpr hu
      have hp : i % a < a := Nat.mod_lt _ (by omega)
      have hq : i / a < a := Nat.div_lt_of_lt_mul hi
      refine ⟨a * X + i % a, a * Y + i / a, sq_up hX hp, sq_up hY hq, ?_⟩
      rw [grw_at hX hY hp hq, Nat.div_add_mod]
      exact e
theorem pW0_wk (h2 : 2 ≤ a) (h3 : a ≤ 3) (hb : ∀ x, x < 6 → ∀ i, i < 9 → bl x i < n) (hn : n ≤ 6) (hl : l < n) : ∀ {k c : Nat}, pW0 a bl l k c ↔ wk (bsR n a bl 0) k l (6 + c)
  | 0, c => by
    constructor
    · rintro ⟨X, Y, hX, _, _⟩; rw [Nat.pow_zero] at hX; omega
    · intro e; exact absurd (show l = 6 + c from e) (by omega)
  | k + 1, c => by
    rw [← bs_step hn hb (by have := RelL_q h2 h3; omega) hl]
    constructor
    · rintro ⟨x, y, hx, hy, e⟩
      obtain ⟨Y, q, hY, hq, rfl⟩ := sq_dec h2 hy
      rcases sq_dec1 h2 hx with ⟨X, p, hX, hp, rfl, e2⟩ | ⟨X, hX, rfl, e2⟩
      · rw [e2, grw_at hX hY (by omega) hq, grw_at hX hY hp hq] at e
        exact Or.inl ⟨_, grw_lt h2 h3 hb hn k hl hX hY, (pL_wk h2 h3 hb hn hl).mp ⟨X, Y, hX, hY, rfl⟩, _, _, Or.inl ⟨rfl, p, q, hp, hq, rfl, rfl⟩, e⟩
      · rw [e2, grw_at (by omega) hY (by omega) hq, grw_at hX hY (by omega) hq] at e
        exact Or.inr ⟨_, _, Or.inl ⟨grw_lt h2 h3 hb hn k hl (show X < a ^ k by omega) hY, grw_lt h2 h3 hb hn k hl hX hY⟩, (pW0_wk h2 h3 hb hn hl).mp ⟨X, Y, hX, hY, rfl⟩, _, _, Or.inl ⟨rfl, q, hq, rfl, rfl⟩, e⟩
    · rintro (⟨u, hun, hu, i, j, hI, e⟩ | ⟨u, v, huv, hc, i, j, hX, e⟩)
      · obtain ⟨X, Y, hX, hY, rfl⟩ := (pL_wk h2 h3 hb hn hl).mpr hu
        rcases hI with ⟨_, p, q, hp, hq, rfl, rfl⟩ | ⟨h0, _⟩
        · refine ⟨a * X + p, a * Y + q, by have := sq_up hX hp; omega, sq_up hY hq, ?_⟩
          rw [show a * X + p + 1 = a * X + (p + 1) by omega, grw_at hX hY (by omega) hq, grw_at hX hY hp hq]
          exact e
        · omega
      · obtain ⟨X, Y, hX1, hY, e3⟩ := (pW0_wk h2 h3 hb hn hl).mpr hc
        have l1 := grw_lt h2 h3 hb hn k hl (show X < a ^ k by omega) hY
        have l2 := grw_lt h2 h3 hb hn k hl hX1 hY
        obtain rfl : u = grw a bl k l X Y := by omega
        obtain rfl : v = grw a bl k l (X + 1) Y := by omega
        rcases hX with ⟨_, q, hq, rfl, rfl⟩ | ⟨h0, _⟩
        · have e4 : a * X + (a - 1) + 1 = a * (X + 1) + 0 := by rw [Nat.mul_add]; omega
          refine ⟨a * X + (a - 1), a * Y + q, by rw [e4]; exact sq_up hX1 (by omega), sq_up hY hq, ?_⟩
          rw [e4, grw_at (by omega) hY (by omega) hq, grw_at hX1 hY (by omega) hq]
          exact e
        · omega
theorem pW1_wk (h2 : 2 ≤ a) (h3 : a ≤ 3) (hb : ∀ x, x < 6 → ∀ i, i < 9 → bl x i < n) (hn : n ≤ 6) (hl : l < n) : ∀ {k c : Nat}, pW1 a bl l k c ↔ wk (bsR n a bl 1) k l (6 + c)
  | 0, c => by
    constructor
    · rintro ⟨X, Y, _, hX, _⟩; rw [Nat.pow_zero] at hX; omega
    · intro e; exact absurd (show l = 6 + c from e) (by omega)
  | k + 1, c => by
    rw [← bs_step hn hb (by have := RelL_q h2 h3; omega) hl]
    constructor
    · rintro ⟨x, y, hx, hy, e⟩
      obtain ⟨X, p, hX, hp, rfl⟩ := sq_dec h2 hx
      rcases sq_dec1 h2 hy with ⟨Y, q, hY, hq, rfl, e2⟩ | ⟨Y, hY, rfl, e2⟩
      · rw [e2, grw_at hX hY hp (by omega), grw_at hX hY hp hq] at e
        exact Or.inl ⟨_, grw_lt h2 h3 hb hn k hl hX hY, (pL_wk h2 h3 hb hn hl).mp ⟨X, Y, hX, hY, rfl⟩, _, _, Or.inr ⟨rfl, p, q, hp, hq, rfl, rfl⟩, e⟩
      · rw [e2, grw_at hX (by omega) hp (by omega), grw_at hX hY hp (by omega)] at e
        exact Or.inr ⟨_, _, Or.inl ⟨grw_lt h2 h3 hb hn k hl hX (show Y < a ^ k by omega), grw_lt h2 h3 hb hn k hl hX hY⟩, (pW1_wk h2 h3 hb hn hl).mp ⟨X, Y, hX, hY, rfl⟩, _, _, Or.inr ⟨rfl, p, hp, rfl, rfl⟩, e⟩
    · rintro (⟨u, hun, hu, i, j, hI, e⟩ | ⟨u, v, huv, hc, i, j, hX, e⟩)
      · obtain ⟨X, Y, hX, hY, rfl⟩ := (pL_wk h2 h3 hb hn hl).mpr hu
        rcases hI with ⟨h0, _⟩ | ⟨_, p, q, hp, hq, rfl, rfl⟩
        · omega
        · refine ⟨a * X + p, a * Y + q, sq_up hX hp, by have := sq_up hY hq; omega, ?_⟩
          rw [show a * Y + q + 1 = a * Y + (q + 1) by omega, grw_at hX hY hp (by omega), grw_at hX hY hp hq]
          exact e
      · obtain ⟨X, Y, hX1, hY, e3⟩ := (pW1_wk h2 h3 hb hn hl).mpr hc
        have l1 := grw_lt h2 h3 hb hn k hl hX1 (show Y < a ^ k by omega)
        have l2 := grw_lt h2 h3 hb hn k hl hX1 hY
        obtain rfl : u = grw a bl k l X Y := by omega
        obtain rfl : v = grw a bl k l X (Y + 1) := by omega
        rcases hX with ⟨h0, _⟩ | ⟨_, p, hp, rfl, rfl⟩
        · omega
        · have e4 : a * Y + (a - 1) + 1 = a * (Y + 1) + 0 := by rw [Nat.mul_add]; omega
          refine ⟨a * X + p, a * Y + (a - 1), sq_up hX1 hp, by rw [e4]; exact sq_up hY (by omega), ?_⟩
          rw [e4, grw_at hX1 (by omega) hp (by omega), grw_at hX1 hY hp (by omega)]
          exact e
theorem pQ_0 {c : Nat} : ¬ pQ a bl l 0 c := by
  rintro ⟨X, Y, hX, _, _⟩; rw [Nat.pow_zero] at hX; omega
theorem pQ_lt (h2 : 2 ≤ a) (h3 : a ≤ 3) (hb : ∀ x, x < 6 → ∀ i, i < 9 → bl x i < n) (hn : n ≤ 6) (hl : l < n) {k c : Nat} (h : pQ a bl l k c) : c < 1296 := by
  obtain ⟨X, Y, hX, hY, rfl⟩ := h
  have l1 := grw_lt h2 h3 hb hn k hl (show X < a ^ k by omega) (show Y < a ^ k by omega)
  have l2 := grw_lt h2 h3 hb hn k hl hX (show Y < a ^ k by omega)
  have l3 := grw_lt h2 h3 hb hn k hl (show X < a ^ k by omega) hY
  have l4 := grw_lt h2 h3 hb hn k hl hX hY
  unfold sqC
  omega
/-- what the class adds up: inside, on the east border, on the south border, on the crossing -/
theorem pQ_step (h2 : 2 ≤ a) (h3 : a ≤ 3) (hb : ∀ x, x < 6 → ∀ i, i < 9 → bl x i < n) (hn : n ≤ 6) (hl : l < n) {k c : Nat} : pQ a bl l (k + 1) c ↔ (∃ m, m < n ∧ wk (mxR n (a * a) bl) k l m ∧ sqI a bl m c) ∨ (∃ x y, x < n ∧ y < n ∧ ((wk (bsR n a bl 0) k l (6 + (6 * x + y)) ∧ sqE a bl x y c) ∨ (wk (bsR n a bl 1) k l (6 + (6 * x + y)) ∧ sqS a bl x y c))) ∨ ∃ d, d < 1296 ∧ pQ a bl l k d ∧ c = sqX a bl (d / 216) (d / 36 % 6) (d / 6 % 6) (d % 6) := by
  constructor
  · rintro ⟨x, y, hx, hy, e⟩
    rcases sq_dec1 h2 hx with ⟨X, p, hX, hp, rfl, e2⟩ | ⟨X, hX, rfl, e2⟩ <;> rcases sq_dec1 h2 hy with ⟨Y, q, hY, hq, rfl, e3⟩ | ⟨Y, hY, rfl, e3⟩
    · rw [e2, e3, grw_at hX hY (by omega) (by omega), grw_at hX hY hp (by omega), grw_at hX hY (by omega) hq, grw_at hX hY hp hq] at e
      exact Or.inl ⟨_, grw_lt h2 h3 hb hn k hl hX hY, (pL_wk h2 h3 hb hn hl).mp ⟨X, Y, hX, hY, rfl⟩, p, q, hp, hq, e⟩
    · rw [e2, e3, grw_at hX (by omega) (by omega) (by omega), grw_at hX (by omega) hp (by omega), grw_at hX hY (by omega) (by omega), grw_at hX hY hp (by omega)] at e
      exact Or.inr (Or.inl ⟨_, _, grw_lt h2 h3 hb hn k hl hX (show Y < a ^ k by omega), grw_lt h2 h3 hb hn k hl hX hY, Or.inr ⟨(pW1_wk h2 h3 hb hn hl).mp ⟨X, Y, hX, hY, rfl⟩, p, hp, e⟩⟩)
    · rw [e2, e3, grw_at (by omega) hY (by omega) (by omega), grw_at hX hY (by omega) (by omega), grw_at (by omega) hY (by omega) hq, grw_at hX hY (by omega) hq] at e
      exact Or.inr (Or.inl ⟨_, _, grw_lt h2 h3 hb hn k hl (show X < a ^ k by omega) hY, grw_lt h2 h3 hb hn k hl hX hY, Or.inl ⟨(pW0_wk h2 h3 hb hn hl).mp ⟨X, Y, hX, hY, rfl⟩, q, hq, e⟩⟩)
    · rw [e2, e3, grw_at (by omega) (by omega) (by omega) (by omega), grw_at hX (by omega) (by omega) (by omega), grw_at (by omega) hY (by omega) (by omega), grw_at hX hY (by omega) (by omega)] at e
      have hq : pQ a bl l k _ := ⟨X, Y, hX, hY, rfl⟩
      refine Or.inr (Or.inr ⟨_, pQ_lt h2 h3 hb hn hl hq, hq, ?_⟩)
      have l1 := grw_lt h2 h3 hb hn k hl (show X < a ^ k by omega) (show Y < a ^ k by omega)
      have l2 := grw_lt h2 h3 hb hn k hl hX (show Y < a ^ k by omega)
      have l3 := grw_lt h2 h3 hb hn k hl (show X < a ^ k by omega) hY
      have l4 := grw_lt h2 h3 hb hn k hl hX hY
      have d1 : ∀ u v w z : Nat, u < 6 → v < 6 → w < 6 → z < 6 → sqC u v w z / 216 = u ∧ sqC u v w z / 36 % 6 = v ∧ sqC u v w z / 6 % 6 = w ∧ sqC u v w z % 6 = z := by
        intro u v w z h1 h2 h3 h4
        unfold sqC
        omega
      obtain ⟨q1, q2, q3, q4⟩ := d1 _ _ _ _ (Nat.lt_of_lt_of_le l1 hn) (Nat.lt_of_lt_of_le l2 hn) (Nat.lt_of_lt_of_le l3 hn) (Nat.lt_of_lt_of_le l4 hn)
      rw [q1, q2, q3, q4]
      exact e
  · rintro (⟨m, hm, hw, p, q, hp, hq, e⟩ | ⟨x, y, hx, hy, ⟨hw, q, hq, e⟩ | ⟨hw, p, hp, e⟩⟩ | ⟨d, hd, ⟨X, Y, hX, hY, ed⟩, e⟩)
    · obtain ⟨X, Y, hX, hY, rfl⟩ := (pL_wk h2 h3 hb hn hl).mpr hw
      refine ⟨a * X + p, a * Y + q, by have := sq_up hX hp; omega, by have := sq_up hY hq; omega, ?_⟩
      rw [show a * X + p + 1 = a * X + (p + 1) by omega, show a * Y + q + 1 = a * Y + (q + 1) by omega, grw_at hX hY (by omega) (by omega), grw_at hX hY hp (by omega), grw_at hX hY (by omega) hq, grw_at hX hY hp hq]
      exact e
    · obtain ⟨X, Y, hX, hY, e3⟩ := (pW0_wk h2 h3 hb hn hl).mpr hw
      have l1 := grw_lt h2 h3 hb hn k hl (show X < a ^ k by omega) hY
      have l2 := grw_lt h2 h3 hb hn k hl hX hY
      obtain rfl : x = grw a bl k l X Y := by omega
      obtain rfl : y = grw a bl k l (X + 1) Y := by omega
      have e4 : a * X + (a - 1) + 1 = a * (X + 1) + 0 := by rw [Nat.mul_add]; omega
      refine ⟨a * X + (a - 1), a * Y + q, by rw [e4]; exact sq_up hX (by omega), by have := sq_up hY hq; omega, ?_⟩
      rw [e4, show a * Y + q + 1 = a * Y + (q + 1) by omega, grw_at (by omega) hY (by omega) (by omega), grw_at hX hY (by omega) (by omega), grw_at (by omega) hY (by omega) hq, grw_at hX hY (by omega) hq]
      exact e
    · obtain ⟨X, Y, hX, hY, e3⟩ := (pW1_wk h2 h3 hb hn hl).mpr hw
      have l1 := grw_lt h2 h3 hb hn k hl hX (show Y < a ^ k by omega)
      have l2 := grw_lt h2 h3 hb hn k hl hX hY
      obtain rfl : x = grw a bl k l X Y := by omega
      obtain rfl : y = grw a bl k l X (Y + 1) := by omega
      have e4 : a * Y + (a - 1) + 1 = a * (Y + 1) + 0 := by rw [Nat.mul_add]; omega
      refine ⟨a * X + p, a * Y + (a - 1), by have := sq_up hX hp; omega, by rw [e4]; exact sq_up hY (by omega), ?_⟩
      rw [e4, show a * X + p + 1 = a * X + (p + 1) by omega, grw_at hX (by omega) (by omega) (by omega), grw_at hX (by omega) hp (by omega), grw_at hX hY (by omega) (by omega), grw_at hX hY hp (by omega)]
      exact e
    · have l1 := grw_lt h2 h3 hb hn k hl (show X < a ^ k by omega) (show Y < a ^ k by omega)
      have l2 := grw_lt h2 h3 hb hn k hl hX (show Y < a ^ k by omega)
      have l3 := grw_lt h2 h3 hb hn k hl (show X < a ^ k by omega) hY
      have l4 := grw_lt h2 h3 hb hn k hl hX hY
      have q1 : d / 216 = grw a bl k l X Y := by rw [ed]; unfold sqC; omega
      have q2 : d / 36 % 6 = grw a bl k l (X + 1) Y := by rw [ed]; unfold sqC; omega
      have q3 : d / 6 % 6 = grw a bl k l X (Y + 1) := by rw [ed]; unfold sqC; omega
      have q4 : d % 6 = grw a bl k l (X + 1) (Y + 1) := by rw [ed]; unfold sqC; omega
      rw [q1, q2, q3, q4] at e
      have e4 : a * X + (a - 1) + 1 = a * (X + 1) + 0 := by rw [Nat.mul_add]; omega
      have e5 : a * Y + (a - 1) + 1 = a * (Y + 1) + 0 := by rw [Nat.mul_add]; omega
      refine ⟨a * X + (a - 1), a * Y + (a - 1), by rw [e4]; exact sq_up hX (by omega), by rw [e5]; exact sq_up hY (by omega), ?_⟩
      rw [e4, e5, grw_at (by omega) (by omega) (by omega) (by omega), grw_at hX (by omega) (by omega) (by omega), grw_at (by omega) hY (by omega) (by omega), grw_at hX hY (by omega) (by omega)]
      exact e
end
