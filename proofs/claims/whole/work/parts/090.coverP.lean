/-! COVERS, told as a list: of each COVER how many PLACEMENTS it has, in the order in which they are found -/
theorem cN_split {p q r : Nat → Bool} : ∀ {n : Nat}, (∀ i, i < n → p i = (q i || r i)) → (∀ i, i < n → (q i && r i) = false) → cN p n = cN q n + cN r n
  | 0, _, _ => rfl
  | n + 1, h1, h2 => by
    have e := cN_split (n := n) (fun i hi => h1 i (by omega)) (fun i hi => h2 i (by omega))
    have a := h1 n (by omega)
    have b := h2 n (by omega)
    show cN p n + (if p n = true then 1 else 0) = (cN q n + (if q n = true then 1 else 0)) + (cN r n + (if r n = true then 1 else 0))
    rw [e, a]
    cases hq : q n <;> cases hr : r n <;> simp_all <;> omega
noncomputable def ffr (m : Nat) : Nat := Classical.choose (g_least (P := fun i => m.testBit i = false) ⟨m, Nat.testBit_lt_two_pow Nat.lt_two_pow_self⟩)
theorem ffr_s (m : Nat) : m.testBit (ffr m) = false ∧ ∀ j, j < ffr m → m.testBit j = true := by
  have h := Classical.choose_spec (g_least (P := fun i => m.testBit i = false) ⟨m, Nat.testBit_lt_two_pow Nat.lt_two_pow_self⟩)
  refine ⟨h.1, fun j hj => ?_⟩
  cases e : m.testBit j with
  | true => rfl
  | false => exact absurd e (h.2 j hj)
def frN (k m : Nat) : Nat := cN (fun i => !m.testBit i) k
/-- a mask of the board: below 2 ^ k -/
theorem mk_tb {k m i : Nat} (h : m < 2 ^ k) (hi : k ≤ i) : m.testBit i = false := Nat.testBit_lt_two_pow (Nat.lt_of_lt_of_le h (Nat.pow_le_pow_right (by decide) hi))
theorem ffr_lt {k m : Nat} (h : m < 2 ^ k) (hne : m ≠ 2 ^ k - 1) : ffr m < k := by
  rcases Nat.lt_or_ge (ffr m) k with z | z
  · exact z
  · exfalso
    apply hne
    apply Nat.eq_of_testBit_eq
    intro i
    rw [Nat.testBit_two_pow_sub_one]
    rcases Nat.lt_or_ge i k with c | c
    · rw [decide_eq_true c]; exact (ffr_s m).2 i (by omega)
    · rw [decide_eq_false (by omega)]; exact mk_tb h c
theorem or_lt {k a b : Nat} (ha : a < 2 ^ k) (hb : b < 2 ^ k) : a ||| b < 2 ^ k := Nat.or_lt_two_pow ha hb
theorem and0 {a b : Nat} : a &&& b = 0 ↔ ∀ i, (a.testBit i && b.testBit i) = false := by
  constructor
  · intro h i
    rw [← Nat.testBit_and, h, Nat.zero_testBit]
  · intro h
    apply Nat.eq_of_testBit_eq
    intro i
    rw [Nat.testBit_and, h i, Nat.zero_testBit]
theorem fr_or {k m M : Nat} (h0 : M &&& m = 0) : frN k (m ||| M) + cN M.testBit k = frN k m := by
  unfold frN
  refine (cN_split (q := fun i => !(m ||| M).testBit i) (r := M.testBit) (fun i _ => ?_) (fun i _ => ?_)).symm
  · have := and0.mp h0 i
    rw [Nat.testBit_or]
    cases a : m.testBit i <;> cases b : M.testBit i <;> simp_all
  · rw [Nat.testBit_or]
    cases a : m.testBit i <;> cases b : M.testBit i <;> simp
theorem fr_le (k m : Nat) : frN k m ≤ k := cN_le _ _
theorem fr_full (k : Nat) : frN k (2 ^ k - 1) = 0 := cN_zero (fun i hi => by rw [Nat.testBit_two_pow_sub_one, decide_eq_true hi]; rfl)
theorem cN_pos {p : Nat → Bool} {c n : Nat} (hc : c < n) (h : p c = true) : 1 ≤ cN p n := by
  have := cN_lt (p := fun _ => false) (q := p) (n := n) (fun _ _ z => absurd z Bool.false_ne_true) hc rfl h
  omega
theorem fr_pos {k m : Nat} (h : m < 2 ^ k) (hne : m ≠ 2 ^ k - 1) : 1 ≤ frN k m := cN_pos (ffr_lt h hne) (by rw [(ffr_s m).1]; rfl)
theorem fm_cg {α β : Type} {f g : α → List β} : ∀ {l : List α}, (∀ e, e ∈ l → f e = g e) → l.flatMap f = l.flatMap g
  | [], _ => rfl
  | a :: l, h => by
    rw [List.flatMap_cons, List.flatMap_cons, h a List.mem_cons_self, fm_cg (fun e he => h e (List.mem_cons_of_mem _ he))]
/-- the entries at a cell: (piece, cells) -/
def eOk (k n : Nat) (sz : Nat → Nat) (EL : Nat → List (Nat × Nat)) : Prop := ∀ s, s < k → ∀ e, e ∈ EL s → e.1 < n ∧ e.2 < 2 ^ k ∧ e.2.testBit s = true ∧ (∀ j, j < s → e.2.testBit j = false) ∧ cN e.2.testBit k = sz e.1
def uw (mode used p : Nat) : Nat := if mode = 1 then used else used ||| 2 ^ p
abbrev fit (m used : Nat) (e : Nat × Nat) : Prop := e.2 &&& m = 0 ∧ used.testBit e.1 = false
noncomputable def cvL (mode k n : Nat) (EL : Nat → List (Nat × Nat)) : Nat → Nat → Nat → List Nat
  | 0, _, _ => []
  | f + 1, m, used => if m = 2 ^ k - 1 then (if mode = 0 ∧ used ≠ 2 ^ n - 1 then [] else [0]) else (EL (ffr m)).flatMap (fun e => if fit m used e then (cvL mode k n EL f (m ||| e.2) (uw mode used e.1)).map (· + 1) else [])
section
variable {mode k n : Nat} {sz : Nat → Nat} {EL : Nat → List (Nat × Nat)}
theorem e_fr (hE : eOk k n sz EL) {m used : Nat} (hm : m < 2 ^ k) (hne : m ≠ 2 ^ k - 1) {e : Nat × Nat} (he : e ∈ EL (ffr m)) (hf : fit m used e) : m ||| e.2 < 2 ^ k ∧ frN k (m ||| e.2) + sz e.1 = frN k m ∧ 1 ≤ sz e.1 := by
  obtain ⟨_, h2, h3, _, h5⟩ := hE _ (ffr_lt hm hne) e he
  refine ⟨or_lt hm h2, by rw [← h5]; exact fr_or hf.1, ?_⟩
  rw [← h5]
  exact cN_pos (ffr_lt hm hne) h3
theorem cv_irr (hE : eOk k n sz EL) : ∀ (f f' m used : Nat), m < 2 ^ k → frN k m < f → frN k m < f' → cvL mode k n EL f m used = cvL mode k n EL f' m used
  | 0, _, _, _, _, h, _ => absurd h (by omega)
  | _, 0, _, _, _, _, h => absurd h (by omega)
  | f + 1, f' + 1, m, used, hm, h1, h2 => by
    show (if m = 2 ^ k - 1 then _ else _) = (if m = 2 ^ k - 1 then _ else _)
    by_cases c : m = 2 ^ k - 1
    · rw [if_pos c, if_pos c]
    · rw [if_neg c, if_neg c]
      refine fm_cg (fun e he => ?_)
      by_cases hf : fit m used e
      · obtain ⟨a1, a2, a3⟩ := e_fr hE hm c he hf
        rw [if_pos hf, if_pos hf, cv_irr hE f f' (m ||| e.2) _ a1 (by omega) (by omega)]
      · rw [if_neg hf, if_neg hf]
noncomputable def cv (mode k n : Nat) (EL : Nat → List (Nat × Nat)) (m used : Nat) : List Nat := cvL mode k n EL 21 m used
/-- what one entry gives -/
noncomputable def cvE (mode k n : Nat) (EL : Nat → List (Nat × Nat)) (m used : Nat) (e : Nat × Nat) : List Nat := if fit m used e then (cv mode k n EL (m ||| e.2) (uw mode used e.1)).map (· + 1) else []
theorem cv_end {used : Nat} : cv mode k n EL (2 ^ k - 1) used = if mode = 0 ∧ used ≠ 2 ^ n - 1 then [] else [0] := by
  show (if 2 ^ k - 1 = 2 ^ k - 1 then _ else _) = _
  rw [if_pos rfl]
theorem cv_step (hE : eOk k n sz EL) (hk : k ≤ 20) {m used : Nat} (hm : m < 2 ^ k) (hne : m ≠ 2 ^ k - 1) : cv mode k n EL m used = (EL (ffr m)).flatMap (cvE mode k n EL m used) := by
  show (if m = 2 ^ k - 1 then _ else _) = _
  rw [if_neg hne]
  refine fm_cg (fun e he => ?_)
  unfold cvE
  by_cases hf : fit m used e
  · obtain ⟨a1, a2, a3⟩ := e_fr hE hm hne he hf
    have := fr_le k m
    rw [if_pos hf, if_pos hf, cv_irr hE 20 21 _ _ a1 (by omega) (by omega)]
    rfl
  · rw [if_neg hf, if_neg hf]
theorem cv_le (hE : eOk k n sz EL) (hk : k ≤ 20) : ∀ (f m used : Nat), m < 2 ^ k → frN k m < f → ∀ d, d ∈ cv mode k n EL m used → d ≤ frN k m
  | 0, _, _, _, h => absurd h (by omega)
  | f + 1, m, used, hm, h1 => by
    intro d hd
    by_cases c : m = 2 ^ k - 1
    · subst c
      rw [cv_end] at hd
      split at hd
      · cases hd
      · rw [List.mem_singleton.mp hd]; exact Nat.zero_le _
    · rw [cv_step hE hk hm c] at hd
      obtain ⟨e, he, hd⟩ := List.mem_flatMap.mp hd
      unfold cvE at hd
      split at hd
      · rename_i hf
        obtain ⟨a1, a2, a3⟩ := e_fr hE hm c he hf
        obtain ⟨d', hd', rfl⟩ := List.mem_map.mp hd
        have := cv_le hE hk f _ _ a1 (by omega) d' hd'
        omega
      · cases hd
theorem cv_le' (hE : eOk k n sz EL) (hk : k ≤ 20) {m used : Nat} (hm : m < 2 ^ k) : ∀ d, d ∈ cv mode k n EL m used → d ≤ frN k m := cv_le hE hk (frN k m + 1) m used hm (by omega)
/-! the least of a list -/
def mnx (b : Nat) : List Nat → Nat
  | [] => b
  | x :: l => min x (mnx b l)
theorem mnx_app {b : Nat} : ∀ {l l' : List Nat}, mnx b (l ++ l') = min (mnx b l) (mnx b l')
  | [], l' => by
    show mnx b l' = min b (mnx b l')
    have : mnx b l' ≤ b := mnx_le l'
    omega
  | x :: l, l' => by
    show min x (mnx b (l ++ l')) = min (min x (mnx b l)) (mnx b l')
    rw [mnx_app]; omega
where mnx_le : ∀ (l : List Nat), mnx b l ≤ b
  | [] => Nat.le_refl _
  | x :: l => by show min x (mnx b l) ≤ b; have := mnx_le l; omega
theorem mnx_s {b c : Nat} : ∀ {l : List Nat}, l ≠ [] → (∀ d, d ∈ l → d < b ∧ d < c) → mnx b l = mnx c l ∧ mnx b l < b ∧ mnx c l < c
  | [], h, _ => absurd rfl h
  | x :: l, _, h => by
    have hx := h x List.mem_cons_self
    by_cases e : l = []
    · subst e
      show min x b = min x c ∧ min x b < b ∧ min x c < c
      omega
    · obtain ⟨h1, h2, h3⟩ := mnx_s e (fun d hd => h d (List.mem_cons_of_mem _ hd))
      show min x (mnx b l) = min x (mnx c l) ∧ min x (mnx b l) < b ∧ min x (mnx c l) < c
      omega
theorem mnx_m {b : Nat} : ∀ {l : List Nat}, l ≠ [] → (∀ d, d ∈ l → d + 1 < b) → mnx b (l.map (· + 1)) = mnx b l + 1
  | [], h, _ => absurd rfl h
  | x :: l, _, h => by
    have hx := h x List.mem_cons_self
    by_cases e : l = []
    · subst e
      show min (x + 1) b = min x b + 1
      omega
    · have h1 := mnx_m e (fun d hd => h d (List.mem_cons_of_mem _ hd))
      show min (x + 1) (mnx b (l.map (· + 1))) = min x (mnx b l) + 1
      rw [h1]; omega
/-! how many at most -/
theorem fm_len {f : Nat × Nat → List Nat} {B : Nat} : ∀ {l : List (Nat × Nat)}, (∀ e, e ∈ l → (f e).length ≤ B) → (l.flatMap f).length ≤ l.length * B
  | [], _ => by simp
  | a :: l, h => by
    rw [List.flatMap_cons, List.length_append, List.length_cons, Nat.add_mul, Nat.one_mul]
    have h1 := fm_len (l := l) (fun e he => h e (List.mem_cons_of_mem _ he))
    have h2 := h a List.mem_cons_self
    omega
end
/-- entries made of lists, one for each piece -/
def lOk (k n : Nat) (sz : Nat → Nat) (L : Nat → Nat → List Nat) : Prop := ∀ p s, p < n → s < k → (L p s).length ≤ 8 ∧ srt (L p s) ∧ ∀ M, M ∈ L p s → M < 2 ^ k ∧ M.testBit s = true ∧ (∀ j, j < s → M.testBit j = false) ∧ cN M.testBit k = sz p
theorem elP_mem {L : Nat → Nat → List Nat} {s : Nat} {e : Nat × Nat} : ∀ {p : Nat}, e ∈ elP L s p ↔ e.1 < p ∧ e.2 ∈ L e.1 s
  | 0 => by
    constructor
    · intro h; cases h
    · intro h; omega
  | p + 1 => by
    show e ∈ elP L s p ++ (L p s).map (fun M => (p, M)) ↔ _
    rw [List.mem_append, elP_mem, List.mem_map]
    constructor
    · rintro (⟨h1, h2⟩ | ⟨M, h1, rfl⟩)
      · exact ⟨by omega, h2⟩
      · exact ⟨by show p < p + 1; omega, h1⟩
    · rintro ⟨h1, h2⟩
      by_cases c : e.1 = p
      · exact Or.inr ⟨e.2, by rw [← c]; exact h2, by rw [← c]⟩
      · exact Or.inl ⟨by omega, h2⟩
theorem lOk_e {k n : Nat} {sz : Nat → Nat} {L : Nat → Nat → List Nat} (h : lOk k n sz L) : eOk k n sz (fun s => elP L s n) := by
  intro s hs e he
  obtain ⟨h1, h2⟩ := elP_mem.mp he
  obtain ⟨a, b, c, d⟩ := (h e.1 s h1 hs).2.2 e.2 h2
  exact ⟨h1, a, b, c, d⟩
theorem M_one {k M s : Nat} (hM : M < 2 ^ k) (hs : M.testBit s = true) (hc : cN M.testBit k = 1) : M = 2 ^ s := by
  have hsk : s < k := by
    rcases Nat.lt_or_ge s k with z | z
    · exact z
    · rw [mk_tb hM z] at hs; exact absurd hs (by decide)
  apply Nat.eq_of_testBit_eq
  intro i
  rw [Nat.testBit_two_pow]
  by_cases c : s = i
  · subst c; rw [hs]; exact (decide_eq_true rfl).symm
  · rw [decide_eq_false c]
    cases e : M.testBit i with
    | false => rfl
    | true =>
      exfalso
      have hik : i < k := by
        rcases Nat.lt_or_ge i k with z | z
        · exact z
        · rw [mk_tb hM z] at e; exact absurd e (by decide)
      have h1 := cN_lt (p := fun j => decide (j = s)) (q := M.testBit) (c := i) (n := k) (fun j _ hj => by rw [decide_eq_true_eq] at hj; rw [hj]; exact hs) hik (decide_eq_false (fun z => c z.symm)) e
      have h2 : cN (fun j => decide (j = s)) k = 1 := cN_one hsk (decide_eq_true rfl) (fun j _ hj => decide_eq_false hj)
      omega
theorem pow7 {f : Nat} (h : 1 ≤ f) : 7 ^ f = 7 * 7 ^ (f - 1) := by
  obtain ⟨g, rfl⟩ : ∃ g, f = g + 1 := ⟨f - 1, by omega⟩
  rw [Nat.pow_succ, Nat.add_sub_cancel, Nat.mul_comm]
theorem cv_len {mode k n : Nat} {sz : Nat → Nat} {L : Nat → Nat → List Nat} (h : lOk k n sz L) (hk : k ≤ 20) (hn : n ≤ 6) : ∀ (f m used : Nat), m < 2 ^ k → frN k m < f → (cv mode k n (fun s => elP L s n) m used).length ≤ 7 ^ frN k m
  | 0, _, _, _, h => absurd h (by omega)
  | f + 1, m, used, hm, h1 => by
    have hE := lOk_e h
    by_cases c : m = 2 ^ k - 1
    · subst c
      rw [cv_end]
      have := Nat.pow_pos (n := frN k (2 ^ k - 1)) (show 0 < 7 by decide)
      split
      · exact Nat.zero_le _
      · exact this
    · rw [cv_step hE hk hm c]
      have hs := ffr_lt hm c
      have hfr := fr_pos hm c
      have hp := pow7 hfr
      -- what one entry gives
      have one : ∀ e, e ∈ elP L (ffr m) n → (cvE mode k n (fun s => elP L s n) m used e).length ≤ (if sz e.1 ≤ frN k m then 7 ^ (frN k m - sz e.1) else 0) ∧ 1 ≤ sz e.1 := by
        intro e he
        have he2 := hE _ hs e he
        have hsz : 1 ≤ sz e.1 := by rw [← he2.2.2.2.2]; exact cN_pos hs he2.2.2.1
        refine ⟨?_, hsz⟩
        unfold cvE
        by_cases hf : fit m used e
        · obtain ⟨a1, a2, a3⟩ := e_fr hE hm c he hf
          rw [if_pos hf, List.length_map, if_pos (by omega)]
          have := cv_len (mode := mode) h hk hn f (m ||| e.2) (uw mode used e.1) a1 (by omega)
          rw [show frN k (m ||| e.2) = frN k m - sz e.1 by omega] at this
          exact this
        · rw [if_neg hf]; exact Nat.zero_le _
      -- what one piece gives
      have piece : ∀ p, p < n → (((L p (ffr m)).map (fun M => (p, M))).flatMap (cvE mode k n (fun s => elP L s n) m used)).length * 7 ≤ 8 * 7 ^ (frN k m - 1) := by
        intro p hpn
        obtain ⟨l8, so, lm⟩ := h p (ffr m) hpn hs
        have inL : ∀ e, e ∈ (L p (ffr m)).map (fun M => (p, M)) → e ∈ elP L (ffr m) n ∧ e.1 = p := by
          intro e he
          obtain ⟨M, hM, rfl⟩ := List.mem_map.mp he
          exact ⟨elP_mem.mpr ⟨hpn, hM⟩, rfl⟩
        by_cases s1 : sz p = 1
        · have hl1 : (L p (ffr m)).length ≤ 1 := by
            rcases Nat.lt_or_ge 1 (L p (ffr m)).length with z | z
            · exfalso
              have o := so 0 1 (by omega) z
              have x0 := lm _ (gt0_mem (show 0 < (L p (ffr m)).length by omega))
              have x1 := lm _ (gt0_mem z)
              rw [M_one x0.1 x0.2.1 (by rw [x0.2.2.2, s1]), M_one x1.1 x1.2.1 (by rw [x1.2.2.2, s1])] at o
              omega
            · exact z
          have hB := fm_len (f := cvE mode k n (fun s => elP L s n) m used) (B := 7 ^ (frN k m - 1)) (l := (L p (ffr m)).map (fun M => (p, M))) (fun e he => by
            obtain ⟨e1, e2⟩ := inL e he
            have := (one e e1).1
            rw [e2, s1, if_pos hfr] at this
            exact this)
          rw [List.length_map] at hB
          have : (L p (ffr m)).length * 7 ^ (frN k m - 1) ≤ 1 * 7 ^ (frN k m - 1) := Nat.mul_le_mul_right _ hl1
          omega
        · by_cases f2 : 2 ≤ frN k m
          · have hp2 := pow7 (f := frN k m - 1) (by omega)
            have hB := fm_len (f := cvE mode k n (fun s => elP L s n) m used) (B := 7 ^ (frN k m - 1 - 1)) (l := (L p (ffr m)).map (fun M => (p, M))) (fun e he => by
              obtain ⟨e1, e2⟩ := inL e he
              obtain ⟨q1, q2⟩ := one e e1
              rw [e2] at q1 q2
              by_cases z : sz p ≤ frN k m
              · rw [if_pos z] at q1
                have : 7 ^ (frN k m - sz p) ≤ 7 ^ (frN k m - 1 - 1) := Nat.pow_le_pow_right (by decide) (by omega)
                omega
              · rw [if_neg z] at q1; omega)
            rw [List.length_map] at hB
            have : (L p (ffr m)).length * 7 ^ (frN k m - 1 - 1) ≤ 8 * 7 ^ (frN k m - 1 - 1) := Nat.mul_le_mul_right _ l8
            omega
          · have hB := fm_len (f := cvE mode k n (fun s => elP L s n) m used) (B := 0) (l := (L p (ffr m)).map (fun M => (p, M))) (fun e he => by
              obtain ⟨e1, e2⟩ := inL e he
              obtain ⟨q1, q2⟩ := one e e1
              rw [e2] at q1 q2
              rw [if_neg (by omega)] at q1
              exact q1)
            omega
      have all : ∀ p, p ≤ n → ((elP L (ffr m) p).flatMap (cvE mode k n (fun s => elP L s n) m used)).length * 7 ≤ p * (8 * 7 ^ (frN k m - 1)) := by
        intro p
        induction p with
        | zero => intro _; simp [elP]
        | succ p ih =>
          intro hpn
          show ((elP L (ffr m) p ++ (L p (ffr m)).map (fun M => (p, M))).flatMap _).length * 7 ≤ _
          rw [List.flatMap_append, List.length_append, Nat.add_mul, Nat.add_mul, Nat.one_mul]
          exact Nat.add_le_add (ih (by omega)) (piece p (by omega))
      have := all n (Nat.le_refl n)
      have hn6 : n * (8 * 7 ^ (frN k m - 1)) ≤ 6 * (8 * 7 ^ (frN k m - 1)) := Nat.mul_le_mul_right _ hn
      omega
/-! areas -/
def aSum (sz : Nat → Nat) (t : Nat) : Nat → Nat
  | 0 => 0
  | n + 1 => aSum sz t n + (if t.testBit n then sz n else 0)
theorem aSum_cg {sz : Nat → Nat} {t t' : Nat} : ∀ {n : Nat}, (∀ p, p < n → t.testBit p = t'.testBit p) → aSum sz t n = aSum sz t' n
  | 0, _ => rfl
  | n + 1, h => by
    show aSum sz t n + _ = aSum sz t' n + _
    rw [aSum_cg (fun p hp => h p (by omega)), h n (by omega)]
theorem aSum_add {sz : Nat → Nat} {t t' p : Nat} : ∀ {n : Nat}, p < n → t.testBit p = false → t'.testBit p = true → (∀ q, q < n → q ≠ p → t'.testBit q = t.testBit q) → aSum sz t' n = aSum sz t n + sz p
  | 0, h, _, _, _ => absurd h (by omega)
  | n + 1, h, h0, h1, ho => by
    show aSum sz t' n + (if t'.testBit n then sz n else 0) = aSum sz t n + (if t.testBit n then sz n else 0) + sz p
    by_cases c : p = n
    · subst c
      rw [aSum_cg (t := t') (t' := t) (fun q hq => ho q (by omega) (by omega)), h0, h1]
      simp
    · rw [aSum_add (n := n) (by omega) h0 h1 (fun q hq hne => ho q (by omega) hne), ho n (by omega) (by omega)]
      omega
/-- a COVER's area is what is left: each once -/
theorem cv_area0 {k n : Nat} {sz : Nat → Nat} {EL : Nat → List (Nat × Nat)} (hE : eOk k n sz EL) (hk : k ≤ 20) : ∀ (f m used : Nat), m < 2 ^ k → frN k m < f → cv 0 k n EL m used ≠ [] → ∀ t, (∀ p, p < n → t.testBit p = !used.testBit p) → aSum sz t n = frN k m
  | 0, _, _, _, h => absurd h (by omega)
  | f + 1, m, used, hm, h1 => by
    intro hne t ht
    by_cases c : m = 2 ^ k - 1
    · subst c
      rw [cv_end] at hne
      by_cases e : used = 2 ^ n - 1
      · rw [fr_full]
        have : ∀ p, p < n → t.testBit p = (0 : Nat).testBit p := fun p hp => by
          rw [ht p hp, e, Nat.testBit_two_pow_sub_one, decide_eq_true hp, Nat.zero_testBit]; rfl
        rw [aSum_cg this]
        have z : ∀ n, aSum sz 0 n = 0 := fun n => by
          induction n with
          | zero => rfl
          | succ n ih => show aSum sz 0 n + (if (0 : Nat).testBit n then sz n else 0) = 0; rw [ih, Nat.zero_testBit]; rfl
        exact z n
      · rw [if_pos ⟨rfl, e⟩] at hne; exact absurd rfl hne
    · rw [cv_step hE hk hm c] at hne
      obtain ⟨d, hd⟩ := List.exists_mem_of_ne_nil _ hne
      obtain ⟨e, he, hd⟩ := List.mem_flatMap.mp hd
      unfold cvE at hd
      split at hd
      · rename_i hf
        obtain ⟨a1, a2, a3⟩ := e_fr hE hm c he hf
        have hp := (hE _ (ffr_lt hm c) e he).1
        obtain ⟨d', hd', _⟩ := List.mem_map.mp hd
        have ih := cv_area0 hE hk f (m ||| e.2) (uw 0 used e.1) a1 (by omega) (List.ne_nil_of_mem hd') (t ^^^ 2 ^ e.1) (fun p hp => by
          show (t ^^^ 2 ^ e.1).testBit p = !(used ||| 2 ^ e.1).testBit p
          rw [Nat.testBit_xor, Nat.testBit_or, ht p hp, Nat.testBit_two_pow]
          by_cases z : e.1 = p
          · subst z; rw [hf.2, decide_eq_true rfl]; rfl
          · rw [decide_eq_false z]; simp)
        have := aSum_add (sz := sz) (t := t ^^^ 2 ^ e.1) (t' := t) (p := e.1) (n := n) hp (by
          rw [Nat.testBit_xor, ht _ hp, hf.2, Nat.testBit_two_pow, decide_eq_true rfl]; rfl) (by rw [ht _ hp, hf.2]; rfl) (fun q _ hq => by
          rw [Nat.testBit_xor, Nat.testBit_two_pow, decide_eq_false (fun z => hq z.symm), Bool.xor_false])
        omega
      · cases hd
/-- once at most: some set of the PIECES that are left has the area -/
theorem cv_area2 {k n : Nat} {sz : Nat → Nat} {EL : Nat → List (Nat × Nat)} (hE : eOk k n sz EL) (hk : k ≤ 20) : ∀ (f m used : Nat), m < 2 ^ k → frN k m < f → cv 2 k n EL m used ≠ [] → ∃ t, t < 2 ^ n ∧ (∀ p, p < n → t.testBit p = true → used.testBit p = false) ∧ aSum sz t n = frN k m
  | 0, _, _, _, h => absurd h (by omega)
  | f + 1, m, used, hm, h1 => by
    intro hne
    by_cases c : m = 2 ^ k - 1
    · subst c
      refine ⟨0, Nat.pow_pos (by decide), fun p _ hp => by rw [Nat.zero_testBit] at hp; exact absurd hp (by decide), ?_⟩
      have z : ∀ n, aSum sz 0 n = 0 := fun n => by
        induction n with
        | zero => rfl
        | succ n ih => show aSum sz 0 n + (if (0 : Nat).testBit n then sz n else 0) = 0; rw [ih, Nat.zero_testBit]; rfl
      rw [fr_full, z n]
    · rw [cv_step hE hk hm c] at hne
      obtain ⟨d, hd⟩ := List.exists_mem_of_ne_nil _ hne
      obtain ⟨e, he, hd⟩ := List.mem_flatMap.mp hd
      unfold cvE at hd
      split at hd
      · rename_i hf
        obtain ⟨a1, a2, a3⟩ := e_fr hE hm c he hf
        have hp := (hE _ (ffr_lt hm c) e he).1
        obtain ⟨d', hd', _⟩ := List.mem_map.mp hd
        obtain ⟨t, t1, t2, t3⟩ := cv_area2 hE hk f (m ||| e.2) (uw 2 used e.1) a1 (by omega) (List.ne_nil_of_mem hd')
        have tp : t.testBit e.1 = false := by
          cases z : t.testBit e.1 with
          | false => rfl
          | true =>
            have := t2 _ hp z
            have this : (used ||| 2 ^ e.1).testBit e.1 = false := this
            rw [Nat.testBit_or, Nat.testBit_two_pow, decide_eq_true rfl, Bool.or_true] at this
            exact absurd this (by decide)
        refine ⟨t ||| 2 ^ e.1, or_lt t1 (Nat.pow_lt_pow_right (by decide) hp), fun p hpn hq => ?_, ?_⟩
        · rw [Nat.testBit_or, Nat.testBit_two_pow, Bool.or_eq_true, decide_eq_true_eq] at hq
          rcases hq with hq | hq
          · have this : (used ||| 2 ^ e.1).testBit p = false := t2 p hpn hq
            rw [Nat.testBit_or, Bool.or_eq_false_iff] at this
            exact this.1
          · rw [← hq]; exact hf.2
        · rw [aSum_add (sz := sz) (t := t) (t' := t ||| 2 ^ e.1) (p := e.1) (n := n) hp tp (by rw [Nat.testBit_or, Nat.testBit_two_pow, decide_eq_true rfl, Bool.or_true]) (fun q _ hq => by
            rw [Nat.testBit_or, Nat.testBit_two_pow, decide_eq_false (fun z => hq z.symm), Bool.or_false])]
          omega
      · cases hd
