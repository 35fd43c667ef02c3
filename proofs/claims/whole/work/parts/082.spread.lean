/-! ways to turn and mirror: spreadCells, cellsFrom -/
def trq : Nat → Nat → Nat → Nat × Nat
  | 0, x, y => (x, y)
  | q + 1, x, y => trq q (4 - y) x
def oX (mi : Bool) (q k : Nat) : Nat := (trq q (if mi then 4 - k % 5 else k % 5) (k / 5)).1
def oY (mi : Bool) (q k : Nat) : Nat := (trq q (if mi then 4 - k % 5 else k % 5) (k / 5)).2
theorem trq_le : ∀ (q : Nat) {x y : Nat}, x ≤ 4 → y ≤ 4 → (trq q x y).1 ≤ 4 ∧ (trq q x y).2 ≤ 4
  | 0, _, _, hx, hy => ⟨hx, hy⟩
  | q + 1, x, y, hx, hy => trq_le q (by omega) hx
theorem oXY_le (mi : Bool) (q : Nat) {k : Nat} (hk : k < 25) : oX mi q k ≤ 4 ∧ oY mi q k ≤ 4 := trq_le q (by split <;> omega) (by omega)
theorem nI_minI {a b : Nat} (ha : a < 2147483648) (hb : b < 2147483648) : (if nI a < nI b then nI a else nI b) = nI (min a b) := by
  by_cases c : a < b
  · rw [if_pos ((nI_ltI ha hb).mpr c), Nat.min_eq_left (by omega)]
  · rw [if_neg (fun z => c ((nI_ltI ha hb).mp z)), Nat.min_eq_right (by omega)]
theorem nI_maxI {a b : Nat} (ha : a < 2147483648) (hb : b < 2147483648) : (if nI a < nI b then nI b else nI a) = nI (max a b) := by
  by_cases c : a < b
  · rw [if_pos ((nI_ltI ha hb).mpr c), Nat.max_eq_right (by omega)]
  · rw [if_neg (fun z => c ((nI_ltI ha hb).mp z)), Nat.max_eq_left (by omega)]
theorem cN_eq0 {p : Nat → Bool} : ∀ {n : Nat}, cN p n = 0 → ∀ i, i < n → p i = false
  | 0, _, i, hi => absurd hi (by omega)
  | n + 1, h, i, hi => by
    have h : cN p n + (if p n = true then 1 else 0) = 0 := h
    by_cases e : i = n
    · subst e
      cases c : p i with
      | false => rfl
      | true => rw [c] at h; simp at h
    · exact cN_eq0 (by omega : cN p n = 0) i (by omega)
theorem cN_stop {p : Nat → Bool} {b n : Nat} (h : cN p n ≤ cN p b) (hb : b ≤ n) : ∀ i, b ≤ i → i < n → p i = false := by
  intro i h1 h2
  have e := cN_add p b (n - b)
  rw [show b + (n - b) = n by omega] at e
  have := cN_eq0 (p := fun i => p (b + i)) (n := n - b) (by omega) (i - b) (by omega)
  rw [show b + (i - b) = i by omega] at this
  exact this
/-- the cells of a piece, one way -/
def spr (c : Nat) (mi : Bool) (q : Nat) (sz : Nat) (kk : Nat → Nat) (lX lY : Nat) (I : gI) : Prop := 1 ≤ sz ∧ sz ≤ 5 ∧ (∀ i, i < sz → kk i < 25 ∧ bt (nI c) (kk i) = true ∧ I 36 i = nI (oX mi q (kk i) - lX) ∧ I 37 i = nI (oY mi q (kk i) - lY)) ∧ (∀ k, k < 25 → bt (nI c) k = true → ∃ i, i < sz ∧ kk i = k) ∧ (∀ k, k < 25 → bt (nI c) k = true → lX ≤ oX mi q k ∧ lY ≤ oY mi q k) ∧ (∃ k, k < 25 ∧ bt (nI c) k = true ∧ oX mi q k = lX) ∧ ∃ k, k < 25 ∧ bt (nI c) k = true ∧ oY mi q k = lY
theorem pc_some {c : Nat} (hc : pcOk c) : ∃ k, k < 25 ∧ bt (nI c) k = true := by
  apply Classical.byContradiction
  intro hn
  have : nI c = nI 0 := b_ext (fun i _ => by
    rw [show bt (nI 0) i = false from b_0 i]
    cases e : bt (nI c) i with
    | false => rfl
    | true =>
      rcases Nat.lt_or_ge i 25 with z | z
      · exact absurd ⟨i, z, e⟩ hn
      · rw [bt_25 hc.2.1 z] at e; exact absurd e (by decide))
  have := (nI_eq (by have := hc.2.1; omega) (by decide)).mp this
  have := hc.1
  omega
theorem p_spread {c : Nat} (hc : pcOk c) {mi : Bool} {q : Nat} (hq : q ≤ 3) {a2 : Int32} (ha : a2 = 0 ↔ mi = false) {I : gI} {Po : Int32 → gI → Prop} (h : ∀ sz kk lX lY I', gSm [36, 37] I I' → spr c mi q sz kk lX lY I' → Po (nI sz) I') : wp_X4_spreadCells (nI c) a2 (nI q) I Po := by
  have hc0 := hc
  obtain ⟨hc1, hc2, hc5⟩ := hc
  -- the second loop
  have fin : ∀ (s b x y : Nat) (kk : Nat → Nat) (I1 : gI), s = cN (bt (nI c)) b → s ≤ 5 → b ≤ 25 → (b = 25 ∨ s = 5) → x ≤ 4 → y ≤ 4 → gSm [36, 37] I I1 → (∀ i, i < s → kk i < b ∧ bt (nI c) (kk i) = true ∧ I1 36 i = nI (oX mi q (kk i)) ∧ I1 37 i = nI (oY mi q (kk i))) → (∀ k, k < b → bt (nI c) k = true → ∃ i, i < s ∧ kk i = k) → (∀ k, k < b → bt (nI c) k = true → x ≤ oX mi q k ∧ y ≤ oY mi q k) → (x = 4 ∨ ∃ k, k < b ∧ bt (nI c) k = true ∧ oX mi q k = x) → (y = 4 ∨ ∃ k, k < b ∧ bt (nI c) k = true ∧ oY mi q k = y) → w_X4_spreadCells_140 Po (nI s) (nI x) (nI y) I1 := by
    intro s b x y kk I1 hs hs5 hb hend hx hy g1 g2 g3 g4 g5 g6
    have all : ∀ k, k < 25 → bt (nI c) k = true → k < b := by
      intro k hk hbk
      rcases hend with e | e
      · omega
      · rcases Nat.lt_or_ge k b with z | z
        · exact z
        · rw [cN_stop (p := bt (nI c)) (b := b) (n := 25) (by omega) hb k z hk] at hbk
          exact absurd hbk (by decide)
    obtain ⟨k0, hk0, hb0⟩ := pc_some hc0
    unfold w_X4_spreadCells_140 w_X4_spreadCells_143
    refine gl2 (N := s) (i0 := 0) (fun K v I => w_X4_spreadCells_143b Po K (nI s) (nI x) (nI y) v I) (fun j I' => gSm [36, 37] I I' ∧ ∀ i, i < s → I' 36 i = (if i < j then nI (oX mi q (kk i) - x) else nI (oX mi q (kk i))) ∧ I' 37 i = (if i < j then nI (oY mi q (kk i) - y) else nI (oY mi q (kk i)))) (by omega) (by omega) ⟨g1, fun i hi => ⟨(g2 i hi).2.2.1, (g2 i hi).2.2.2⟩⟩ ?_
    rintro j I2 hj ⟨k1, k2⟩ K kk2
    unfold w_X4_spreadCells_143b
    refine pk_le s j (fun hz => ?_) (fun hz => ?_) rfl rfl
    · obtain rfl : j = s := by omega
      obtain ⟨i0, hi0, _⟩ := g3 k0 (all k0 hk0 hb0) hb0
      refine h j kk x y I2 k1 ⟨by omega, hs5, fun i hi => ⟨by have := (g2 i hi).1; omega, (g2 i hi).2.1, ?_, ?_⟩, fun k hk hbk => g3 k (all k hk hbk) hbk, fun k hk hbk => g4 k (all k hk hbk) hbk, ?_, ?_⟩
      · rw [(k2 i hi).1, if_pos hi]
      · rw [(k2 i hi).2, if_pos hi]
      · rcases g5 with e | ⟨k, hk, hbk, e⟩
        · refine ⟨k0, hk0, hb0, ?_⟩
          have := (g4 k0 (all k0 hk0 hb0) hb0).1
          have := (oXY_le mi q hk0).1
          omega
        · exact ⟨k, by omega, hbk, e⟩
      · rcases g6 with e | ⟨k, hk, hbk, e⟩
        · refine ⟨k0, hk0, hb0, ?_⟩
          have := (g4 k0 (all k0 hk0 hb0) hb0).2
          have := (oXY_le mi q hk0).2
          omega
        · exact ⟨k, by omega, hbk, e⟩
    · have hk := (g2 j hz).1
      have hle := g4 (kk j) hk (g2 j hz).2.1
      rw [nI_clamp (by omega), (k2 j hz).1, if_neg (Nat.lt_irrefl j), pk_sub hle.1]
      refine ⟨vp_in_nI (by omega) (by decide), vp_in_nI (by omega) (by decide), ?_⟩
      intro I5 e5
      have f5 : I5 37 j = nI (oY mi q (kk j)) := by rw [e5, gup_o (by decide), (k2 j hz).2, if_neg (Nat.lt_irrefl j)]
      rw [f5, pk_sub hle.2]
      refine ⟨vp_in_nI (by omega) (by decide), vp_in_nI (by omega) (by decide), ?_⟩
      intro I8 e8 n9 e9
      rw [nI_1] at e9
      subst e9
      refine kk2 hz I8 ⟨by rw [e8, e5]; exact gSm_u (gSm_u k1 (by decide)) (by decide), fun i hi => ⟨?_, ?_⟩⟩
      · rw [e8, gup_o (by decide), e5]
        by_cases e : i = j
        · subst e; rw [gup_at, if_pos (by omega)]
        · rw [gup_ne e, (k2 i hi).1]
          by_cases z : i < j
          · rw [if_pos z, if_pos (by omega)]
          · rw [if_neg z, if_neg (by omega)]
      · rw [e8]
        by_cases e : i = j
        · subst e; rw [gup_at, if_pos (by omega)]
        · rw [gup_ne e, e5, gup_o (by decide), (k2 i hi).2]
          by_cases z : i < j
          · rw [if_pos z, if_pos (by omega)]
          · rw [if_neg z, if_neg (by omega)]
  unfold wp_X4_spreadCells w_X4_spreadCells_17
  refine gr5 (m0 := 25) (fun K a b c' d I => w_X4_spreadCells_17b Po K (nI c) a2 (nI q) (4 : Int32) a b c' d I) (fun m v5 v6 v7 v8 I' => ∃ b s x y : Nat, ∃ kk : Nat → Nat, m + b = 25 ∧ v8 = nI b ∧ v5 = nI s ∧ v6 = nI x ∧ v7 = nI y ∧ s = cN (bt (nI c)) b ∧ s ≤ 5 ∧ x ≤ 4 ∧ y ≤ 4 ∧ gSm [36, 37] I I' ∧ (∀ i, i < s → kk i < b ∧ bt (nI c) (kk i) = true ∧ I' 36 i = nI (oX mi q (kk i)) ∧ I' 37 i = nI (oY mi q (kk i))) ∧ (∀ k, k < b → bt (nI c) k = true → ∃ i, i < s ∧ kk i = k) ∧ (∀ k, k < b → bt (nI c) k = true → x ≤ oX mi q k ∧ y ≤ oY mi q k) ∧ (x = 4 ∨ ∃ k, k < b ∧ bt (nI c) k = true ∧ oX mi q k = x) ∧ (y = 4 ∨ ∃ k, k < b ∧ bt (nI c) k = true ∧ oY mi q k = y)) ⟨0, 0, 4, 4, fun _ => 0, rfl, rfl, rfl, rfl, rfl, rfl, by omega, by omega, by omega, gSm_r I, fun i hi => absurd hi (by omega), fun i hi => absurd hi (by omega), fun i hi => absurd hi (by omega), Or.inl rfl, Or.inl rfl⟩ ?_
  rintro m v5 v6 v7 v8 I1 ⟨b, s, x, y, kk, hmb, rfl, rfl, rfl, rfl, hs, hs5, hx, hy, g1, g2, g3, g4, g5, g6⟩ K kkK
  unfold w_X4_spreadCells_17b
  refine pk_le 25 b (fun hz => fin s b x y kk I1 hs hs5 (by omega) (Or.inl (by omega)) hx hy g1 g2 g3 g4 g5 g6) (fun hz => ?_) rfl rfl
  refine pk_le 5 s (fun hz2 => fin s b x y kk I1 hs hs5 (by omega) (Or.inr (by omega)) hx hy g1 g2 g3 g4 g5 g6) (fun hz2 => ?_) rfl rfl
  have tb := bit_test (nI c) (s := b) (by omega)
  have hcs : cN (bt (nI c)) (b + 1) = cN (bt (nI c)) b + (if bt (nI c) b = true then 1 else 0) := rfl
  refine ⟨fun q0 => ?_, fun q0 => ?_⟩
  · have hb := tb.mp q0
    unfold w_X4_spreadCells_134
    intro n12 e12
    rw [nI_1] at e12
    subst e12
    rw [hb] at hcs
    have old : ∀ k, k < b + 1 → bt (nI c) k = true → k < b := fun k hk hbk => by
      rcases Nat.lt_or_ge k b with z | z
      · exact z
      · obtain rfl : k = b := by omega
        rw [hb] at hbk; exact absurd hbk (by decide)
    refine kkK (m - 1) _ _ _ _ _ (by omega) ⟨b + 1, s, x, y, kk, by omega, rfl, rfl, rfl, rfl, by rw [hcs]; exact hs, hs5, hx, hy, g1, fun i hi => ⟨by have := (g2 i hi).1; omega, (g2 i hi).2⟩, fun k hk hbk => g3 k (old k hk hbk) hbk, fun k hk hbk => g4 k (old k hk hbk) hbk, ?_, ?_⟩
    · rcases g5 with e | ⟨k, hk, e⟩
      · exact Or.inl e
      · exact Or.inr ⟨k, by omega, e⟩
    · rcases g6 with e | ⟨k, hk, e⟩
      · exact Or.inl e
      · exact Or.inr ⟨k, by omega, e⟩
  · have hb : bt (nI c) b = true := by
      cases e : bt (nI c) b with
      | true => rfl
      | false => exact absurd (tb.mpr e) q0
    rw [hb] at hcs
    have hcs : cN (bt (nI c)) (b + 1) = cN (bt (nI c)) b + 1 := hcs
    have hob := oXY_le mi q hz
    have go : ∀ x0 : Nat, x0 = (if mi then 4 - b % 5 else b % 5) → w_X4_spreadCells_57 Po K (nI c) a2 (nI q) (4 : Int32) (nI s) (nI x) (nI y) (nI b) (nI x0) I1 := by
      intro x0 hx0
      have hx04 : x0 ≤ 4 := by rw [hx0]; split <;> omega
      unfold w_X4_spreadCells_57
      refine ⟨by decide, ?_⟩
      rw [i_5, pk_div (by omega) (by decide) (by decide)]
      intro n16 e16
      subst e16
      unfold w_X4_spreadCells_68
      refine gl3c (N := q) (i0 := 0) (fun K2 a b' v => w_X4_spreadCells_68b Po K K2 (nI c) a2 (nI q) (4 : Int32) (nI s) (nI x) (nI y) (nI b) a b' v I1) (fun j a b' => ∃ x1 y1, a = nI x1 ∧ b' = nI y1 ∧ x1 ≤ 4 ∧ y1 ≤ 4 ∧ trq (q - j) x1 y1 = trq q x0 (b / 5)) (by omega) (by omega) ⟨x0, b / 5, rfl, rfl, hx04, by omega, rfl⟩ ?_
      rintro j a b' hj ⟨x1, y1, rfl, rfl, hx1, hy1, ht⟩ K2 kk2
      unfold w_X4_spreadCells_68b
      refine pk_le q j (fun hz3 => ?_) (fun hz3 => ?_) rfl rfl
      · obtain rfl : j = q := by omega
        rw [Nat.sub_self] at ht
        have ht : (x1, y1) = trq j x0 (b / 5) := ht
        have ex : x1 = oX mi j b := by unfold oX; rw [← hx0, ← ht]
        have ey : y1 = oY mi j b := by unfold oY; rw [← hx0, ← ht]
        rw [nI_clamp (by omega)]
        refine ⟨vp_in_nI (by omega) (by decide), ?_⟩
        intro I19 e19
        refine ⟨vp_in_nI (by omega) (by decide), ?_⟩
        intro I21 e21 n22 e22 n23 e23 n24 e24
        rw [nI_1] at e22
        rw [nI_minI (by omega) (by omega)] at e23 e24
        subst e22 e23 e24
        unfold w_X4_spreadCells_134
        intro n12 e12
        rw [nI_1] at e12
        subst e12
        refine kkK (m - 1) _ _ _ _ _ (by omega) ⟨b + 1, s + 1, min x1 x, min y1 y, fun i => if i = s then b else kk i, by omega, rfl, rfl, rfl, rfl, by rw [hcs, hs], by omega, by omega, by omega, by rw [e21, e19]; exact gSm_u (gSm_u g1 (by decide)) (by decide), fun i hi => ?_, fun k hk hbk => ?_, fun k hk hbk => ?_, ?_, ?_⟩
        · by_cases e : i = s
          · subst e
            show (if i = i then b else kk i) < b + 1 ∧ bt (nI c) (if i = i then b else kk i) = true ∧ I21 36 i = nI (oX mi j (if i = i then b else kk i)) ∧ I21 37 i = nI (oY mi j (if i = i then b else kk i))
            rw [if_pos rfl, e21, gup_at, gup_o (by decide), e19, gup_at, ex, ey]
            exact ⟨by omega, hb, rfl, rfl⟩
          · show (if i = s then b else kk i) < b + 1 ∧ bt (nI c) (if i = s then b else kk i) = true ∧ I21 36 i = nI (oX mi j (if i = s then b else kk i)) ∧ I21 37 i = nI (oY mi j (if i = s then b else kk i))
            rw [if_neg e, e21, gup_ne e, gup_o (by decide), e19, gup_ne e, gup_o (by decide)]
            have := g2 i (by omega)
            exact ⟨by omega, this.2⟩
        · by_cases e : k = b
          · exact ⟨s, by omega, by show (if s = s then b else kk s) = k; rw [if_pos rfl, e]⟩
          · obtain ⟨i, hi, hki⟩ := g3 k (by omega) hbk
            refine ⟨i, by omega, ?_⟩
            show (if i = s then b else kk i) = k
            rw [if_neg (by omega)]; exact hki
        · by_cases e : k = b
          · subst e; rw [← ex, ← ey]; exact ⟨Nat.min_le_left _ _, Nat.min_le_left _ _⟩
          · have := g4 k (by omega) hbk; omega
        · by_cases e : x1 < x
          · exact Or.inr ⟨b, by omega, hb, by omega⟩
          · rcases g5 with e5 | ⟨k, hk, hbk, e5⟩
            · exact Or.inl (by omega)
            · exact Or.inr ⟨k, by omega, hbk, by omega⟩
        · by_cases e : y1 < y
          · exact Or.inr ⟨b, by omega, hb, by omega⟩
          · rcases g6 with e5 | ⟨k, hk, hbk, e5⟩
            · exact Or.inl (by omega)
            · exact Or.inr ⟨k, by omega, hbk, by omega⟩
      · intro n25 e25 n26 e26
        rw [i_4, pk_sub hy1] at e25
        rw [nI_1] at e26
        subst e25 e26
        refine kk2 hz3 _ _ ⟨4 - y1, x1, rfl, rfl, by omega, hx1, ?_⟩
        rw [← ht, show q - j = (q - (j + 1)) + 1 by omega]
        rfl
    rw [i_5, pk_rem (by omega) (by decide) (by decide)]
    refine ⟨fun q2 => ⟨by decide, go _ ?_⟩, fun q2 => ⟨by decide, ?_⟩⟩
    · rw [ha.mp q2]; rfl
    · rw [i_4, pk_sub (by omega), ← i_4]
      refine go _ ?_
      cases hm : mi with
      | true => rfl
      | false => exact absurd (ha.mpr hm) q2
/-- a PLACEMENT: way (mi, q), moved by (dx - 4, dy - 4) -/
def plB (w : Nat) (mi : Bool) (q dx dy k : Nat) : Nat := w * (oY mi q k + dy - 4) + (oX mi q k + dx - 4)
def isM (w c : Nat) (mi : Bool) (q dx dy : Nat) (r : Int32) : Prop := ∀ i, i < 32 → (bt r i = true ↔ ∃ k, k < 25 ∧ bt (nI c) k = true ∧ i = plB w mi q dx dy k)
def inB (w h c : Nat) (mi : Bool) (q dx dy : Nat) : Prop := ∀ k, k < 25 → bt (nI c) k = true → 4 ≤ oX mi q k + dx ∧ oX mi q k + dx - 4 < w ∧ 4 ≤ oY mi q k + dy ∧ oY mi q k + dy - 4 < h
theorem plB_lt {w h c : Nat} {mi : Bool} {q dx dy k : Nat} (hb : inB w h c mi q dx dy) (hk : k < 25) (hbk : bt (nI c) k = true) : plB w mi q dx dy k < w * h := by
  obtain ⟨h1, h2, h3, h4⟩ := hb k hk hbk
  have : w * (oY mi q k + dy - 4 + 1) ≤ w * h := Nat.mul_le_mul_left w h4
  rw [Nat.mul_add, Nat.mul_one] at this
  unfold plB
  omega
theorem p_cellsFrom {c w h : Nat} {mi : Bool} {q sz lX lY x y : Nat} {kk : Nat → Nat} {I : gI} (hw : I 20 1 = nI w) (hwh : w * h ≤ 20) (hS : spr c mi q sz kk lX lY I) (hlx : lX ≤ 4) (hly : lY ≤ 4) (hb : inB w h c mi q (x + 4 - lX) (y + 4 - lY)) {Po : Int32 → Prop} (h : ∀ r, isM w c mi q (x + 4 - lX) (y + 4 - lY) r → Po r) : wp_X4_cellsFrom (nI sz) (nI x) (nI y) I Po := by
  obtain ⟨s1, s5, a1, a2, a3, _, _⟩ := hS
  unfold wp_X4_cellsFrom w_X4_cellsFrom_6
  refine gl2b (N := sz) (i0 := 0) (fun K r v => w_X4_cellsFrom_6b Po K (nI sz) (nI x) (nI y) r v I) (fun j r => ∀ i, i < 32 → (bt r i = true ↔ ∃ j', j' < j ∧ i = plB w mi q (x + 4 - lX) (y + 4 - lY) (kk j'))) (by omega) (by omega) (fun i hi => by rw [b_0]; exact ⟨fun z => absurd z (by decide), fun ⟨_, z, _⟩ => absurd z (by omega)⟩) ?_
  rintro j r hj hr K kk2
  unfold w_X4_cellsFrom_6b
  refine pk_le sz j (fun hz => ?_) (fun hz => ?_) rfl rfl
  · obtain rfl : j = sz := by omega
    refine h r (fun i hi => (hr i hi).trans ?_)
    constructor
    · rintro ⟨j', hj', e⟩; exact ⟨kk j', (a1 j' hj').1, (a1 j' hj').2.1, e⟩
    · rintro ⟨k, hk, hbk, e⟩
      obtain ⟨i', hi', rfl⟩ := a2 k hk hbk
      exact ⟨i', hi', e⟩
  · obtain ⟨k1, k2, k3, k4⟩ := a1 j hz
    have hle := a3 _ k1 k2
    have hlt := plB_lt hb k1 k2
    have epl : w * (y + (oY mi q (kk j) - lY)) + x + (oX mi q (kk j) - lX) = plB w mi q (x + 4 - lX) (y + 4 - lY) (kk j) := by
      unfold plB
      rw [show y + (oY mi q (kk j) - lY) = oY mi q (kk j) + (y + 4 - lY) - 4 by omega]
      omega
    rw [nI_clamp (by omega), k3, k4, hw, nI_add, pk_mul, nI_add, nI_add, epl]
    refine ⟨vp_in_nI (by omega) (by decide), vp_in_nI (by omega) (by decide), ?_⟩
    intro n4 e4 n5 e5
    rw [nI_1] at e5
    subst e5
    refine kk2 hz n4 (fun i hi => ?_)
    rw [e4, b_or, bit_one (by omega) hi, Bool.or_eq_true, hr i hi, decide_eq_true_eq]
    constructor
    · rintro (⟨j', hj', e⟩ | e)
      · exact ⟨j', by omega, e⟩
      · exact ⟨j, by omega, e⟩
    · rintro ⟨j', hj', e⟩
      by_cases z : j' = j
      · subst z; exact Or.inr e
      · exact Or.inl ⟨j', by omega, e⟩
