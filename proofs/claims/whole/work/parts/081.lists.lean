/-! numberOfTrailingZeros; lists that grow in order -/
theorem b_m1sub (x : Int32) {i : Nat} (hi : i < 32) : bt (x - 1) i = !(bt (-x) i) := by
  show (x - 1).toBitVec.getLsbD i = !((-x).toBitVec.getLsbD i)
  rw [Int32.toBitVec_sub, Int32.toBitVec_neg]
  show (x.toBitVec - 1#32).getLsbD i = _
  rw [← BitVec.not_neg, BitVec.getLsbD_not, decide_eq_true hi, Bool.true_and]
theorem ntz_low {x : Int32} {s : Nat} (hs : s < 31) (h1 : bt x s = true) (h0 : ∀ j, j < s → bt x j = false) : (x ^^^ (-1)) &&& (x - 1) = nI (2 ^ s - 1) := by
  have e : nI (2 ^ s - 1) = ((1 : Int32) <<< (nI s &&& 31)) - 1 := ((by decide +kernel : ∀ s, s < 31 → nI (2 ^ s - 1) = ((1 : Int32) <<< (nI s &&& 31)) - 1) s hs)
  rw [e]
  apply b_ext
  intro i hi
  rw [b_mask s hs i hi, b_and, b_xor, b_m1 i hi, b_m1sub x hi, b_neg x hi, Bool.eq_iff_iff, decide_eq_true_eq, Bool.and_eq_true, Bool.not_eq_true', Bool.xor_true, Bool.not_eq_true']
  constructor
  · rintro ⟨q1, q2⟩
    rw [q1, Bool.false_xor, @decide_eq_false_iff_not _ (Classical.propDecidable _)] at q2
    rcases Nat.lt_trichotomy i s with z | z | z
    · exact z
    · rw [z, h1] at q1; exact absurd q1 (by decide)
    · exact absurd ⟨s, z, h1⟩ q2
  · intro z
    refine ⟨h0 i z, ?_⟩
    rw [h0 i z, Bool.false_xor, @decide_eq_false_iff_not _ (Classical.propDecidable _)]
    rintro ⟨j, hj, e⟩
    rw [h0 j (by omega)] at e
    exact absurd e (by decide)
def f74 (v0 v1 : Int32) : Int32 := v1 + ((v0).toUInt32 >>> (((1 : Int32)).toUInt32 &&& Int32.toUInt32 31)).toInt32
def f62 (v0 v1 : Int32) : Int32 := if v0 ≤ 4 then f74 v0 v1 else f74 ((v0).toUInt32 >>> (((2 : Int32)).toUInt32 &&& Int32.toUInt32 31)).toInt32 (v1 + 2)
def f49 (v0 v1 : Int32) : Int32 := if v0 ≤ 16 then f62 v0 v1 else f62 ((v0).toUInt32 >>> (((4 : Int32)).toUInt32 &&& Int32.toUInt32 31)).toInt32 (v1 + 4)
def f34 (v0 v1 : Int32) : Int32 := if v0 ≤ 256 then f49 v0 v1 else f49 ((v0).toUInt32 >>> (((8 : Int32)).toUInt32 &&& Int32.toUInt32 31)).toInt32 (v1 + 8)
def f00 (n1 : Int32) : Int32 := if 0 < n1 then (if n1 ≤ 65536 then f34 n1 1 else f34 ((n1).toUInt32 >>> (((16 : Int32)).toUInt32 &&& Int32.toUInt32 31)).toInt32 (1 + 16)) else n1 &&& 32
theorem f00_v : ∀ s, s < 31 → f00 (nI (2 ^ s - 1)) = nI s := by decide +kernel
section
variable {Po : Int32 → Prop}
theorem w62 {v0 v1 : Int32} (h : Po (f62 v0 v1)) : w_J6_numberOfTrailingZeros_0f7a4_62 Po v0 v1 := by
  unfold f62 at h
  refine ⟨fun q => by rw [if_pos q] at h; exact h, fun q n7 e7 n8 e8 => by rw [if_neg q] at h; rw [e7, e8]; exact h⟩
theorem w49 {v0 v1 : Int32} (h : Po (f49 v0 v1)) : w_J6_numberOfTrailingZeros_0f7a4_49 Po v0 v1 := by
  unfold f49 at h
  refine ⟨fun q => by rw [if_pos q] at h; exact w62 h, fun q n7 e7 n8 e8 => by rw [if_neg q] at h; rw [e7, e8]; exact w62 h⟩
theorem w34 {v0 v1 : Int32} (h : Po (f34 v0 v1)) : w_J6_numberOfTrailingZeros_0f7a4_34 Po v0 v1 := by
  unfold f34 at h
  refine ⟨fun q => by rw [if_pos q] at h; exact w49 h, fun q n7 e7 n8 e8 => by rw [if_neg q] at h; rw [e7, e8]; exact w49 h⟩
theorem p_ntz {x : Int32} {s : Nat} (hs : s < 31) (h1 : bt x s = true) (h0 : ∀ j, j < s → bt x j = false) (h : Po (nI s)) : wp_J6_numberOfTrailingZeros_0f7a4 x Po := by
  unfold wp_J6_numberOfTrailingZeros_0f7a4
  rw [ntz_low hs h1 h0]
  rw [← f00_v s hs] at h
  intro n1 e1
  subst e1
  unfold f00 at h
  refine ⟨fun q => ?_, fun q => ?_⟩
  · rw [if_pos q] at h
    exact ⟨fun q2 => by rw [if_pos q2] at h; exact w34 h, fun q2 n7 e7 n8 e8 => by rw [if_neg q2] at h; rw [e7, e8]; exact w34 h⟩
  · rw [if_neg q] at h; exact h
end
/-! lists of numbers, each greater than the one before -/
def srt (l : List Nat) : Prop := ∀ i j, i < j → j < l.length → gt0 l i < gt0 l j
theorem gt0_mem {l : List Nat} {i : Nat} (h : i < l.length) : gt0 l i ∈ l := by
  unfold gt0
  rw [List.getD_eq_getElem?_getD, List.getElem?_eq_getElem h]
  exact List.getElem_mem h
theorem mem_gt0 {l : List Nat} {x : Nat} (h : x ∈ l) : ∃ i, i < l.length ∧ gt0 l i = x := by
  obtain ⟨i, hi, e⟩ := List.mem_iff_getElem.mp h
  refine ⟨i, hi, ?_⟩
  unfold gt0
  rw [List.getD_eq_getElem?_getD, List.getElem?_eq_getElem hi]
  exact e
theorem gt0_ext {l1 l2 : List Nat} (hl : l1.length = l2.length) (h : ∀ i, i < l1.length → gt0 l1 i = gt0 l2 i) : l1 = l2 := by
  apply List.ext_getElem hl
  intro i h1 h2
  have := h i h1
  unfold gt0 at this
  rw [List.getD_eq_getElem?_getD, List.getElem?_eq_getElem h1, List.getD_eq_getElem?_getD, List.getElem?_eq_getElem h2] at this
  exact this
theorem gt0_cons {x : Nat} {l : List Nat} {i : Nat} : gt0 (x :: l) (i + 1) = gt0 l i := rfl
theorem srt_tail {x : Nat} {l : List Nat} (h : srt (x :: l)) : srt l ∧ ∀ y, y ∈ l → x < y := by
  refine ⟨fun i j hij hj => ?_, fun y hy => ?_⟩
  · have := h (i + 1) (j + 1) (by omega) (by rw [List.length_cons]; omega)
    exact this
  · obtain ⟨i, hi, rfl⟩ := mem_gt0 hy
    exact h 0 (i + 1) (by omega) (by rw [List.length_cons]; omega)
theorem srt_uniq : ∀ {l1 l2 : List Nat}, srt l1 → srt l2 → (∀ x, x ∈ l1 ↔ x ∈ l2) → l1 = l2
  | [], [], _, _, _ => rfl
  | [], y :: l2, _, _, h => absurd ((h y).mpr List.mem_cons_self) (by intro z; cases z)
  | x :: l1, [], _, _, h => absurd ((h x).mp List.mem_cons_self) (by intro z; cases z)
  | x :: l1, y :: l2, h1, h2, h => by
    obtain ⟨s1, m1⟩ := srt_tail h1
    obtain ⟨s2, m2⟩ := srt_tail h2
    have exy : x = y := by
      rcases List.mem_cons.mp ((h x).mp List.mem_cons_self) with e | e
      · exact e
      · rcases List.mem_cons.mp ((h y).mpr List.mem_cons_self) with e2 | e2
        · exact e2.symm
        · have := m2 x e; have := m1 y e2; omega
    subst exy
    rw [srt_uniq s1 s2 (fun z => ?_)]
    constructor
    · intro hz
      rcases List.mem_cons.mp ((h z).mp (List.mem_cons_of_mem _ hz)) with e | e
      · have := m1 z hz; omega
      · exact e
    · intro hz
      rcases List.mem_cons.mp ((h z).mpr (List.mem_cons_of_mem _ hz)) with e | e
      · have := m2 z hz; omega
      · exact e
def insAt (l : List Nat) (a M : Nat) : List Nat := l.take a ++ M :: l.drop a
theorem insAt_len {l : List Nat} {a M : Nat} (h : a ≤ l.length) : (insAt l a M).length = l.length + 1 := by
  unfold insAt
  rw [List.length_append, List.length_cons, List.length_take, List.length_drop]
  omega
theorem insAt_get {l : List Nat} {a M : Nat} (h : a ≤ l.length) (i : Nat) : gt0 (insAt l a M) i = if i < a then gt0 l i else if i = a then M else gt0 l (i - 1) := by
  unfold insAt gt0
  rw [List.getD_eq_getElem?_getD, List.getD_eq_getElem?_getD, List.getD_eq_getElem?_getD]
  have hl : (l.take a).length = a := by rw [List.length_take]; omega
  by_cases c : i < a
  · rw [if_pos c, List.getElem?_append_left (by omega), List.getElem?_take, if_pos c]
  · rw [if_neg c, List.getElem?_append_right (by omega), hl]
    by_cases c2 : i = a
    · rw [if_pos c2, c2, Nat.sub_self]; rfl
    · rw [if_neg c2, show i - a = (i - a - 1) + 1 by omega, List.getElem?_cons_succ, List.getElem?_drop, show a + (i - a - 1) = i - 1 by omega]
theorem insAt_mem {l : List Nat} {a M x : Nat} : x ∈ insAt l a M ↔ x = M ∨ x ∈ l := by
  unfold insAt
  conv => rhs; rhs; rw [← List.take_append_drop a l]
  rw [List.mem_append, List.mem_append, List.mem_cons]
  constructor
  · rintro (h | h | h)
    · exact Or.inr (Or.inl h)
    · exact Or.inl h
    · exact Or.inr (Or.inr h)
  · rintro (h | h | h)
    · exact Or.inr (Or.inl h)
    · exact Or.inl h
    · exact Or.inr (Or.inr h)
theorem insAt_srt {l : List Nat} {a M : Nat} (h : a ≤ l.length) (hs : srt l) (h1 : ∀ i, i < a → gt0 l i < M) (h2 : ∀ i, a ≤ i → i < l.length → M < gt0 l i) : srt (insAt l a M) := by
  intro i j hij hj
  rw [insAt_len h] at hj
  rw [insAt_get h, insAt_get h]
  by_cases c1 : i < a
  · rw [if_pos c1]
    by_cases c2 : j < a
    · rw [if_pos c2]; exact hs i j hij (by omega)
    · rw [if_neg c2]
      by_cases c3 : j = a
      · rw [if_pos c3]; exact h1 i c1
      · rw [if_neg c3]; exact hs i (j - 1) (by omega) (by omega)
  · rw [if_neg c1, if_neg (show ¬ j < a by omega)]
    by_cases c2 : i = a
    · rw [if_pos c2, if_neg (show ¬ j = a by omega)]; exact h2 (j - 1) (by omega) (by omega)
    · rw [if_neg c2, if_neg (show ¬ j = a by omega)]; exact hs (i - 1) (j - 1) (by omega) (by omega)
/-- no more than there are to choose from -/
theorem srt_le : ∀ {l q : List Nat}, srt l → (∀ x, x ∈ l → x ∈ q) → l.length ≤ q.length := by
  intro l q hs hm
  have hidx : ∀ i, i < l.length → ∃ j, j < q.length ∧ gt0 q j = gt0 l i := fun i hi => mem_gt0 (hm _ (gt0_mem hi))
  have hch : ∀ i, ∃ j, i < l.length → j < q.length ∧ gt0 q j = gt0 l i := fun i => by
    by_cases c : i < l.length
    · obtain ⟨j, h⟩ := hidx i c; exact ⟨j, fun _ => h⟩
    · exact ⟨0, fun z => absurd z c⟩
  refine g_pig q.length l.length (fun i => Classical.choose (hch i)) (fun i hi => (Classical.choose_spec (hch i) hi).1) (fun i j hi hj e => ?_)
  have e1 := (Classical.choose_spec (hch i) hi).2
  have e2 := (Classical.choose_spec (hch j) hj).2
  have e : Classical.choose (hch i) = Classical.choose (hch j) := e
  rw [e] at e1
  rcases Nat.lt_trichotomy i j with z | z | z
  · have := hs i j z hj; omega
  · exact z
  · have := hs j i z hi; omega
