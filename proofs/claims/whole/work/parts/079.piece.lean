/-! PIECES: what hangs together; piece, board -/
theorem b_neg (x : Int32) {i : Nat} (hi : i < 32) : bt (-x) i = (bt x i ^^ @decide (∃ j, j < i ∧ bt x j = true) (Classical.propDecidable _)) := by
  unfold bt
  rw [Int32.toBitVec_neg, BitVec.getLsbD_neg, decide_eq_true hi, Bool.true_and]
  congr 1
  rw [Bool.eq_iff_iff, decide_eq_true_iff, @decide_eq_true_iff _ (Classical.propDecidable _)]
/-- the lowest bit alone -/
theorem b_low (x : Int32) (i : Nat) : bt (x &&& (-x)) i = true ↔ bt x i = true ∧ ∀ j, j < i → bt x j = false := by
  rcases Nat.lt_or_ge i 32 with h | h
  · rw [b_and, b_neg x h, Bool.and_eq_true]
    constructor
    · rintro ⟨h1, h2⟩
      rw [h1, Bool.true_xor, Bool.not_eq_true', @decide_eq_false_iff_not _ (Classical.propDecidable _)] at h2
      refine ⟨h1, fun j hj => ?_⟩
      cases e : bt x j with
      | false => rfl
      | true => exact absurd ⟨j, hj, e⟩ h2
    · rintro ⟨h1, h2⟩
      refine ⟨h1, ?_⟩
      rw [h1, Bool.true_xor, Bool.not_eq_true', @decide_eq_false_iff_not _ (Classical.propDecidable _)]
      rintro ⟨j, hj, e⟩
      rw [h2 j hj] at e
      exact absurd e (by decide)
  · rw [b_big h, b_big h]
    exact ⟨fun z => absurd z (by decide), fun z => absurd z.1 (by decide)⟩
theorem bit_test1 (x : Int32) {s : Nat} (hs : s < 32) : ((x >>> (nI s &&& 31)) &&& 1 = 1) ↔ bt x s = true := by
  have h0 : bt ((x >>> (nI s &&& 31)) &&& 1) 0 = bt x s := by
    rw [b_and, b_sshr s hs x (by omega), b_1]
    simp [hs]
  constructor
  · intro h
    rw [← h0, h]
    decide
  · intro h
    apply b_ext
    intro i hi
    rw [b_and, b_sshr s hs x hi, b_1]
    by_cases e : i = 0
    · subst e; simp [hs, h]
    · simp [e]
theorem cN_mono {p q : Nat → Bool} : ∀ {n : Nat}, (∀ i, i < n → p i = true → q i = true) → cN p n ≤ cN q n
  | 0, _ => Nat.le_refl _
  | n + 1, h => by
    have h1 := cN_mono (n := n) (fun i hi => h i (by omega))
    have h2 := h n (by omega)
    unfold cN
    by_cases c : p n = true
    · rw [if_pos c, if_pos (h2 c)]; omega
    · rw [if_neg c]; omega
theorem cN_lt {p q : Nat → Bool} {c : Nat} : ∀ {n : Nat}, (∀ i, i < n → p i = true → q i = true) → c < n → p c = false → q c = true → cN p n < cN q n
  | 0, _, h, _, _ => absurd h (by omega)
  | n + 1, h, hc, h1, h2 => by
    unfold cN
    by_cases e : c = n
    · subst e
      have := cN_mono (n := c) (fun i hi => h i (by omega))
      rw [if_pos h2, if_neg (by rw [h1]; decide)]
      omega
    · have h3 := cN_lt (n := n) (fun i hi => h i (by omega)) (by omega) h1 h2
      have h4 := h n (by omega)
      by_cases c : p n = true
      · rw [if_pos c, if_pos (h4 c)]; omega
      · rw [if_neg c]; omega
def nbB (k i : Nat) : Bool := decide (i = k + 5 ∨ (5 ≤ k ∧ i = k - 5) ∨ (0 < k % 5 ∧ i = k - 1) ∨ (k % 5 < 4 ∧ i = k + 1))
def stp (C : Nat → Bool) (k : Nat) (R : Nat → Bool) (i : Nat) : Bool := R i || (R k && (C i && nbB k i))
def swp (C R : Nat → Bool) : Nat → Nat → Bool
  | 0 => R
  | k + 1 => stp C k (swp C R k)
def itr (C R : Nat → Bool) : Nat → Nat → Bool
  | 0 => R
  | j + 1 => swp C (itr C R j) 25
section
variable {C R : Nat → Bool}
theorem swp_le : ∀ (k : Nat) {i : Nat}, R i = true → swp C R k i = true
  | 0, _, h => h
  | k + 1, i, h => by
    show (swp C R k i || _) = true
    rw [swp_le k h, Bool.true_or]
theorem swp_in (h : ∀ i, R i = true → C i = true) : ∀ (k : Nat) {i : Nat}, swp C R k i = true → C i = true
  | 0, _, q => h _ q
  | k + 1, i, q => by
    have q : (swp C R k i || (swp C R k k && (C i && nbB k i))) = true := q
    rw [Bool.or_eq_true, Bool.and_eq_true, Bool.and_eq_true] at q
    rcases q with q | q
    · exact swp_in h k q
    · exact q.2.1
theorem itr_in (h : ∀ i, R i = true → C i = true) : ∀ (j : Nat) {i : Nat}, itr C R j i = true → C i = true
  | 0, _, q => h _ q
  | j + 1, i, q => by
    have q : swp C (itr C R j) 25 i = true := q
    exact swp_in (C := C) (R := itr C R j) (fun i' hq => itr_in h j (i := i') hq) 25 (i := i) q
theorem itr_up (j : Nat) : ∀ (d : Nat) {i : Nat}, itr C R j i = true → itr C R (j + d) i = true
  | 0, _, q => q
  | d + 1, i, q => by
    show swp C (itr C R (j + d)) 25 i = true
    exact swp_le (C := C) (R := itr C R (j + d)) 25 (i := i) (itr_up j d (i := i) q)
theorem itr_st {j : Nat} (h : itr C R (j + 1) = itr C R j) : ∀ d, itr C R (j + d) = itr C R j
  | 0 => rfl
  | d + 1 => by
    show swp C (itr C R (j + d)) 25 = _
    rw [itr_st h d]
    exact h
theorem fn_ne {p q : Nat → Bool} (h : ∀ i, p i = true → q i = true) (hne : q ≠ p) : ∃ i, p i = false ∧ q i = true := by
  apply Classical.byContradiction
  intro hn
  apply hne
  funext i
  cases hp : p i with
  | true => exact h i hp
  | false =>
    cases hq : q i with
    | false => rfl
    | true => exact absurd ⟨i, hp, hq⟩ hn
theorem itr_4 (hC : ∀ i, 25 ≤ i → C i = false) (h5 : cN C 25 ≤ 5) (hR : ∀ i, R i = true → C i = true) (h1 : ∃ i, R i = true) : itr C R 4 = C ↔ itr C R 25 = C := by
  constructor
  · intro h
    funext i
    cases hi : C i with
    | true => rw [← h] at hi; exact itr_up 4 21 hi
    | false =>
      cases hq : itr C R 25 i with
      | false => rfl
      | true => rw [itr_in hR 25 hq] at hi; exact absurd hi (by decide)
  · intro h
    apply Classical.byContradiction
    intro hne
    have big : ∀ j, 25 ≤ j → ∀ m, itr C R m j = false := fun j hj m => by
      cases hq : itr C R m j with
      | false => rfl
      | true => have := itr_in hR m hq; rw [hC j hj] at this; exact absurd this (by decide)
    have grow : ∀ j, j < 4 → cN (itr C R j) 25 < cN (itr C R (j + 1)) 25 := by
      intro j hj
      have hn : itr C R (j + 1) ≠ itr C R j := fun e => by
        have e4 := itr_st e (4 - j)
        have e25 := itr_st e (25 - j)
        rw [show j + (4 - j) = 4 by omega] at e4
        rw [show j + (25 - j) = 25 by omega] at e25
        exact hne (by rw [e4, ← e25]; exact h)
      have up1 : ∀ i, itr C R j i = true → itr C R (j + 1) i = true := fun i hi => itr_up j 1 hi
      obtain ⟨i, p1, p2⟩ := fn_ne up1 hn
      have hi : i < 25 := by
        rcases Nat.lt_or_ge i 25 with z | z
        · exact z
        · rw [big i z] at p2; exact absurd p2 (by decide)
      exact cN_lt (p := itr C R j) (q := itr C R (j + 1)) (fun i _ hi => up1 i hi) hi p1 p2
    have g0 : 1 ≤ cN (itr C R 0) 25 := by
      obtain ⟨i, hi⟩ := h1
      have hi25 : i < 25 := by
        rcases Nat.lt_or_ge i 25 with z | z
        · exact z
        · have := hR i hi; rw [hC i z] at this; exact absurd this (by decide)
      have := cN_lt (p := fun _ => false) (q := R) (c := i) (n := 25) (fun _ _ z => absurd z Bool.false_ne_true) hi25 rfl hi
      show 1 ≤ cN R 25
      omega
    have g1 : cN (itr C R 0) 25 < cN (itr C R 1) 25 := grow 0 (by omega)
    have g2 : cN (itr C R 1) 25 < cN (itr C R 2) 25 := grow 1 (by omega)
    have g3 : cN (itr C R 2) 25 < cN (itr C R 3) 25 := grow 2 (by omega)
    have g4 : cN (itr C R 3) 25 < cN (itr C R 4) 25 := grow 3 (by omega)
    obtain ⟨i, p1, p2⟩ := fn_ne (p := itr C R 4) (q := C) (fun i hi => itr_in hR 4 hi) (fun e => hne e.symm)
    have hi : i < 25 := by
      rcases Nat.lt_or_ge i 25 with z | z
      · exact z
      · rw [hC i z] at p2; exact absurd p2 (by decide)
    have := cN_lt (p := itr C R 4) (q := C) (fun i _ hi => itr_in hR 4 hi) hi p1 p2
    omega
end
theorem p_neighbours {k : Nat} (hk : k < 25) {Po : Int32 → Prop} (h : ∀ r : Int32, (∀ i, i < 32 → bt r i = nbB k i) → Po r) : wp_X4_neighbours (nI k) Po := by
  have one : ∀ s, s < 32 → ∀ i, i < 32 → (bt ((1 : Int32) <<< (nI s &&& 31)) i = true ↔ i = s) := fun s hs i hi => by rw [bit_one hs hi, decide_eq_true_eq]
  unfold wp_X4_neighbours
  refine ⟨by decide, ?_⟩
  rw [i_5, nI_add, pk_rem (by omega) (by decide) (by decide)]
  intro n2 e2 n3 e3
  subst e2
  have f3 : ∀ s0 n5 : Int32, (∀ i, i < 32 → (bt s0 i = true ↔ 5 ≤ k ∧ i = k - 5)) → w_X4_neighbours_25 Po (nI k) (nI (k % 5)) s0 n3 := by
    intro s0 _ hs0
    unfold w_X4_neighbours_25
    intro n5 e5
    have f5 : ∀ s1 : Int32, (∀ i, i < 32 → (bt s1 i = true ↔ 0 < k % 5 ∧ i = k - 1)) → w_X4_neighbours_41 Po (nI k) (nI (k % 5)) s1 n5 := by
      intro s1 hs1
      unfold w_X4_neighbours_41
      intro n7 e7
      have fin : ∀ s2 : Int32, (∀ i, i < 32 → (bt s2 i = true ↔ k % 5 < 4 ∧ i = k + 1)) → Po (n7 ||| s2) := by
        intro s2 hs2
        refine h _ (fun i hi => ?_)
        rw [Bool.eq_iff_iff, b_or, e7, b_or, e5, b_or, e3, Bool.or_eq_true, Bool.or_eq_true, Bool.or_eq_true, hs2 i hi, hs1 i hi, hs0 i hi, one (k + 5) (by omega) i hi]
        unfold nbB
        rw [decide_eq_true_eq]
        omega
      refine pk_le 4 (k % 5) (fun hz => ?_) (fun hz => ?_) rfl rfl
      · intro n9 e9
        rw [e9]
        exact fin 0 (fun i hi => by rw [b_0]; exact ⟨fun z => absurd z (by decide), fun z => by omega⟩)
      · intro n10 e10
        rw [e10, nI_1]
        exact fin _ (fun i hi => by rw [one (k + 1) (by omega) i hi]; exact ⟨fun z => ⟨hz, z⟩, fun z => z.2⟩)
    refine pk_le (k % 5) 0 (fun hz => ?_) (fun hz => ?_) rfl rfl
    · exact f5 0 (fun i hi => by rw [b_0]; exact ⟨fun z => absurd z (by decide), fun z => by omega⟩)
    · rw [i_1, pk_sub (by omega)]
      exact f5 _ (fun i hi => by rw [← i_1, one (k - 1) (by omega) i hi]; exact ⟨fun z => ⟨hz, z⟩, fun z => z.2⟩)
  refine pk_lt k 5 (fun hz => ?_) (fun hz => ?_) rfl rfl
  · exact f3 0 0 (fun i hi => by rw [b_0]; exact ⟨fun z => absurd z (by decide), fun z => by omega⟩)
  · rw [pk_sub (by omega)]
    exact f3 _ 0 (fun i hi => by rw [one (k - 5) (by omega) i hi]; exact ⟨fun z => ⟨hz, z⟩, fun z => z.2⟩)
/-- cells: bits 0 .. 24 -/
theorem bt_25 {cells : Nat} (hc : cells < 33554432) {i : Nat} (hi : 25 ≤ i) : bt (nI cells) i = false := by
  rw [← bt_u32, u_nI (by omega)]
  exact Nat.testBit_lt_two_pow (Nat.lt_of_lt_of_le hc (Nat.pow_le_pow_right (n := 2) (by decide) hi))
theorem fnb {x y : Int32} : x = y ↔ bt x = bt y := ⟨fun e => by rw [e], fun e => b_ext (fun i _ => congrFun e i)⟩
theorem p_hangsC {cells : Nat} (hc : cells < 33554432) {Po : Int32 → Prop} (h1 : itr (bt (nI cells)) (bt (nI cells &&& (-nI cells))) 4 = bt (nI cells) → Po 1) (h0 : ¬ itr (bt (nI cells)) (bt (nI cells &&& (-nI cells))) 4 = bt (nI cells) → Po 0) : wp_X4_hangsTogether (nI cells) Po := by
  unfold wp_X4_hangsTogether wp_J6_lowestOneBit_0f7a4 w_X4_hangsTogether_7
  refine gl2b (N := 5) (i0 := 1) (fun K r v => w_X4_hangsTogether_7b Po K (nI cells) r v) (fun j r => 1 ≤ j ∧ bt r = itr (bt (nI cells)) (bt (nI cells &&& (-nI cells))) (j - 1)) (by omega) (by omega) ⟨Nat.le_refl _, rfl⟩ ?_
  rintro j r hj ⟨j1, hr⟩ K kk
  unfold w_X4_hangsTogether_7b
  refine pk_le 5 j (fun hz => ?_) (fun hz => ?_) rfl rfl
  · obtain rfl : j = 5 := by omega
    exact ⟨fun q => h0 (fun e => q (fnb.mpr (hr.trans e))), fun q => h1 (hr.symm.trans (fnb.mp q))⟩
  · unfold w_X4_hangsTogether_14
    refine gl2b (N := 25) (i0 := 0) (fun K2 r v => w_X4_hangsTogether_14b Po K K2 (nI cells) r (nI j) v) (fun k r => bt r = swp (bt (nI cells)) (itr (bt (nI cells)) (bt (nI cells &&& (-nI cells))) (j - 1)) k) (by omega) (by omega) hr ?_
    rintro k r2 hk hr2 K2 kk2
    unfold w_X4_hangsTogether_14b
    refine pk_le 25 k (fun hz2 => ?_) (fun hz2 => ?_) rfl rfl
    · obtain rfl : k = 25 := by omega
      intro n5 e5
      rw [nI_1] at e5
      subst e5
      refine kk hz r2 ⟨by omega, ?_⟩
      rw [hr2, show j + 1 - 1 = (j - 1) + 1 by omega]
      rfl
    · have tb := bit_test r2 (s := k) (by omega)
      have nxt : ∀ r3 : Int32, bt r3 = stp (bt (nI cells)) k (bt r2) → w_X4_hangsTogether_37 Po K K2 (nI cells) r3 (nI j) (nI k) := by
        intro r3 h3
        unfold w_X4_hangsTogether_37
        intro n7 e7
        rw [nI_1] at e7
        subst e7
        refine kk2 hz2 r3 ?_
        rw [h3, hr2]
        rfl
      refine ⟨fun q => nxt r2 ?_, fun q => ?_⟩
      · funext i
        show _ = (bt r2 i || (bt r2 k && _))
        rw [tb.mp q, Bool.false_and, Bool.or_false]
      · have hb : bt r2 k = true := by
          cases e : bt r2 k with
          | true => rfl
          | false => exact absurd (tb.mpr e) q
        refine p_neighbours hz2 (fun r8 h8 => ?_)
        intro n9 e9
        refine nxt n9 ?_
        funext i
        show _ = (bt r2 i || (bt r2 k && (bt (nI cells) i && nbB k i)))
        rw [hb, Bool.true_and, e9, b_or, b_and]
        rcases Nat.lt_or_ge i 32 with z | z
        · rw [h8 i z, Bool.and_comm]
        · rw [b_big (x := nI cells) z, Bool.and_false, Bool.false_and]
theorem p_hangsM {cells : Nat} (hc : cells < 33554432) {Po : Int32 → Prop} (h1 : itr (bt (nI cells)) (bt (nI cells &&& (-nI cells))) 25 = bt (nI cells) → Po 1) (h0 : ¬ itr (bt (nI cells)) (bt (nI cells &&& (-nI cells))) 25 = bt (nI cells) → Po 0) : wp_X10_hangs (nI cells) Po := by
  have one : ∀ s, s < 32 → ∀ i, i < 32 → (bt ((1 : Int32) <<< (nI s &&& 31)) i = true ↔ i = s) := fun s hs i hi => by rw [bit_one hs hi, decide_eq_true_eq]
  unfold wp_X10_hangs
  intro n1 e1
  subst e1
  unfold w_X10_hangs_7
  refine gl2b (N := 25) (i0 := 0) (fun K r v => w_X10_hangs_7b Po K (nI cells) r v) (fun j r => bt r = itr (bt (nI cells)) (bt (nI cells &&& (-nI cells))) j) (by omega) (by omega) rfl ?_
  rintro j r hj hr K kk
  unfold w_X10_hangs_7b
  refine pk_le 25 j (fun hz => ?_) (fun hz => ?_) rfl rfl
  · obtain rfl : j = 25 := by omega
    exact ⟨fun q => h0 (fun e => q (fnb.mpr (hr.trans e))), fun q => h1 (hr.symm.trans (fnb.mp q))⟩
  · unfold w_X10_hangs_15
    refine gl2b (N := 25) (i0 := 0) (fun K2 r v => w_X10_hangs_15b Po K K2 (nI cells) r (nI j) v) (fun k r => bt r = swp (bt (nI cells)) (itr (bt (nI cells)) (bt (nI cells &&& (-nI cells))) j) k) (by omega) (by omega) hr ?_
    rintro k r2 hk hr2 K2 kk2
    unfold w_X10_hangs_15b
    refine pk_le 25 k (fun hz2 => ?_) (fun hz2 => ?_) rfl rfl
    · obtain rfl : k = 25 := by omega
      intro n5 e5
      rw [nI_1] at e5
      subst e5
      refine kk hz r2 ?_
      rw [hr2]
      rfl
    · have nxt : ∀ r3 : Int32, bt r3 = stp (bt (nI cells)) k (bt r2) → w_X10_hangs_110 Po K K2 (nI cells) r3 (nI j) (nI k) := by
        intro r3 h3
        unfold w_X10_hangs_110
        intro n7 e7
        rw [nI_1] at e7
        subst e7
        refine kk2 hz2 r3 ?_
        rw [h3, hr2]
        rfl
      have tb := bit_test1 r2 (s := k) (by omega)
      refine ⟨fun q => nxt r2 ?_, fun q => ?_⟩
      · have hb : bt r2 k = false := by
          cases e : bt r2 k with
          | false => rfl
          | true => exact absurd (tb.mpr e) q
        funext i
        show _ = (bt r2 i || (bt r2 k && _))
        rw [hb, Bool.false_and, Bool.or_false]
      · have hb := tb.mp q
        refine ⟨by decide, ?_⟩
        rw [i_5, pk_rem (by omega) (by decide) (by decide)]
        -- the four neighbours, one after the other
        have a4 : ∀ (s0 n13 : Int32), (∀ i, i < 32 → (bt s0 i = true ↔ bt (nI cells) i = true ∧ k < 20 ∧ i = k + 5)) → (∀ i, i < 32 → (bt n13 i = true ↔ bt r2 i = true ∨ (bt (nI cells) i = true ∧ ((0 < k % 5 ∧ i = k - 1) ∨ (k % 5 < 4 ∧ i = k + 1) ∨ (5 ≤ k ∧ i = k - 5))))) → w_X10_hangs_108 Po K K2 (nI cells) (nI j) (nI k) s0 n13 := by
          intro s0 n13 hs hn
          unfold w_X10_hangs_108
          intro n17 e17
          refine nxt n17 ?_
          funext i
          show _ = (bt r2 i || (bt r2 k && (bt (nI cells) i && nbB k i)))
          rcases Nat.lt_or_ge i 32 with z | z
          · rw [hb, Bool.true_and, e17, b_or, Bool.eq_iff_iff, Bool.or_eq_true, Bool.or_eq_true, Bool.and_eq_true, hs i z, hn i z]
            unfold nbB
            rw [decide_eq_true_eq]
            constructor
            · rintro ((w | ⟨w1, w2⟩) | ⟨w1, w2, w3⟩)
              · exact Or.inl w
              · exact Or.inr ⟨w1, by omega⟩
              · exact Or.inr ⟨w1, by omega⟩
            · rintro (w | ⟨w1, w2⟩)
              · exact Or.inl (Or.inl w)
              · by_cases c : i = k + 5
                · refine Or.inr ⟨w1, ?_, c⟩
                  rcases Nat.lt_or_ge k 20 with y | y
                  · exact y
                  · rw [bt_25 hc (by omega)] at w1; exact absurd w1 (by decide)
                · exact Or.inl (Or.inr ⟨w1, by omega⟩)
          · rw [b_big z, b_big z, b_big z]; simp
        have a3 : ∀ (s0 n10 : Int32), (∀ i, i < 32 → (bt s0 i = true ↔ bt (nI cells) i = true ∧ 5 ≤ k ∧ i = k - 5)) → (∀ i, i < 32 → (bt n10 i = true ↔ bt r2 i = true ∨ (bt (nI cells) i = true ∧ ((0 < k % 5 ∧ i = k - 1) ∨ (k % 5 < 4 ∧ i = k + 1))))) → w_X10_hangs_88 Po K K2 (nI cells) (nI j) (nI k) s0 n10 := by
          intro s0 n10 hs hn
          unfold w_X10_hangs_88
          intro n15 e15
          have f15 : ∀ i, i < 32 → (bt n15 i = true ↔ bt r2 i = true ∨ (bt (nI cells) i = true ∧ ((0 < k % 5 ∧ i = k - 1) ∨ (k % 5 < 4 ∧ i = k + 1) ∨ (5 ≤ k ∧ i = k - 5)))) := by
            intro i hi
            rw [e15, b_or, Bool.or_eq_true, hs i hi, hn i hi]
            constructor
            · rintro ((w | ⟨w1, w2⟩) | ⟨w1, w2⟩)
              · exact Or.inl w
              · exact Or.inr ⟨w1, by omega⟩
              · exact Or.inr ⟨w1, by omega⟩
            · rintro (w | ⟨w1, w2⟩)
              · exact Or.inl (Or.inl w)
              · by_cases c : 5 ≤ k ∧ i = k - 5
                · exact Or.inr ⟨w1, c⟩
                · exact Or.inl (Or.inr ⟨w1, by omega⟩)
          refine pk_le 20 k (fun hz => a4 0 n15 (fun i hi => ?_) f15) (fun hz => a4 _ n15 (fun i hi => ?_) f15) rfl rfl
          · rw [b_0]; exact ⟨fun z => absurd z (by decide), fun z => by omega⟩
          · rw [i_5, nI_add, b_and, Bool.and_eq_true, one (k + 5) (by omega) i hi]
            exact ⟨fun z => ⟨z.1, hz, z.2⟩, fun z => ⟨z.1, z.2.2⟩⟩
        have a2 : ∀ (s0 n10 : Int32), (∀ i, i < 32 → (bt s0 i = true ↔ bt (nI cells) i = true ∧ k % 5 < 4 ∧ i = k + 1)) → (∀ i, i < 32 → (bt n10 i = true ↔ bt r2 i = true ∨ (bt (nI cells) i = true ∧ 0 < k % 5 ∧ i = k - 1))) → w_X10_hangs_69 Po K K2 (nI cells) (nI j) (nI k) s0 n10 := by
          intro s0 n10 hs hn
          unfold w_X10_hangs_69
          intro n13 e13
          have f13 : ∀ i, i < 32 → (bt n13 i = true ↔ bt r2 i = true ∨ (bt (nI cells) i = true ∧ ((0 < k % 5 ∧ i = k - 1) ∨ (k % 5 < 4 ∧ i = k + 1)))) := by
            intro i hi
            rw [e13, b_or, Bool.or_eq_true, hs i hi, hn i hi]
            constructor
            · rintro ((w | ⟨w1, w2⟩) | ⟨w1, w2⟩)
              · exact Or.inl w
              · exact Or.inr ⟨w1, Or.inl w2⟩
              · exact Or.inr ⟨w1, Or.inr w2⟩
            · rintro (w | ⟨w1, w2 | w2⟩)
              · exact Or.inl (Or.inl w)
              · exact Or.inl (Or.inr ⟨w1, w2⟩)
              · exact Or.inr ⟨w1, w2⟩
          refine pk_le k 4 (fun hz => a3 0 n13 (fun i hi => ?_) f13) (fun hz => a3 _ n13 (fun i hi => ?_) f13) rfl rfl
          · rw [b_0]; exact ⟨fun z => absurd z (by decide), fun z => by omega⟩
          · rw [i_5, pk_sub (by omega), b_and, Bool.and_eq_true, one (k - 5) (by omega) i hi]
            exact ⟨fun z => ⟨z.1, hz, z.2⟩, fun z => ⟨z.1, z.2.2⟩⟩
        have a1 : ∀ s0 : Int32, (∀ i, i < 32 → (bt s0 i = true ↔ bt (nI cells) i = true ∧ 0 < k % 5 ∧ i = k - 1)) → w_X10_hangs_48 Po K K2 (nI cells) (nI j) (nI k) s0 r2 := by
          intro s0 hs
          unfold w_X10_hangs_48
          intro n10 e10
          have f10 : ∀ i, i < 32 → (bt n10 i = true ↔ bt r2 i = true ∨ (bt (nI cells) i = true ∧ 0 < k % 5 ∧ i = k - 1)) := by
            intro i hi
            rw [e10, b_or, Bool.or_eq_true, hs i hi]
          refine ⟨by decide, ?_⟩
          rw [i_5, pk_rem (by omega) (by decide) (by decide)]
          refine pk_le 4 (k % 5) (fun hz => a2 0 n10 (fun i hi => ?_) f10) (fun hz => a2 _ n10 (fun i hi => ?_) f10) rfl rfl
          · rw [b_0]; exact ⟨fun z => absurd z (by decide), fun z => by omega⟩
          · rw [nI_1, b_and, Bool.and_eq_true, one (k + 1) (by omega) i hi]
            exact ⟨fun z => ⟨z.1, hz, z.2⟩, fun z => ⟨z.1, z.2.2⟩⟩
        refine pk_le (k % 5) 0 (fun hz => a1 0 (fun i hi => ?_)) (fun hz => a1 _ (fun i hi => ?_)) rfl rfl
        · rw [b_0]; exact ⟨fun z => absurd z (by decide), fun z => by omega⟩
        · rw [i_1, pk_sub (by omega), ← i_1, b_and, Bool.and_eq_true, one (k - 1) (by omega) i hi]
          exact ⟨fun z => ⟨z.1, hz, z.2⟩, fun z => ⟨z.1, z.2.2⟩⟩
theorem p_ones (x : Int32) {Po : Int32 → Prop} (h : Po (nI (cN (bt x) 25))) : wp_X10_ones x Po := by
  unfold wp_X10_ones w_X10_ones_4
  refine gl2b (N := 25) (i0 := 0) (fun K r v => w_X10_ones_4b Po K x r v) (fun k r => r = nI (cN (bt x) k)) (by omega) (by omega) rfl ?_
  rintro k r hk rfl K kk
  unfold w_X10_ones_4b
  refine pk_le 25 k (fun hz => ?_) (fun hz => ?_) rfl rfl
  · obtain rfl : k = 25 := by omega
    exact h
  · intro n2 e2 n3 e3
    rw [nI_1] at e3
    subst e3
    refine kk hz n2 ?_
    rw [e2]
    show _ = nI (cN (bt x) k + if bt x k = true then 1 else 0)
    cases e : bt x k with
    | true => rw [(bit_test1 x (s := k) (by omega)).mpr e, i_1, nI_add]; rfl
    | false => rw [(bit_test x (s := k) (by omega)).mpr e, i_0, nI_add]; rfl
theorem cN_25 {cells : Nat} (hc : cells < 33554432) : cN (u32 (nI cells)).testBit 32 = cN (bt (nI cells)) 25 := by
  rw [show (32 : Nat) = 25 + 7 from rfl, cN_add, cN_zero (n := 7), Nat.add_zero]
  · exact cN_congr (fun i _ => bt_u32 _ i)
  · intro i hi
    rw [bt_u32]
    exact bt_25 hc (by omega)
