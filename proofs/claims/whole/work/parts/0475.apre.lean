/-! methods that make cells -/
theorem gJ.eqst {X : gX} {V : gV} {cells slots pc : Nat} {lv : List (Nat × Value)} {st st' : List Value} {I : gI} {J : gL} (h : st = st') (k : gJ X V cells slots pc lv st' I J) : gJ X V cells slots pc lv st I J := by rw [h]; exact k
theorem gJ.nmV {X : gX} {V : gV} {cells slots pc : Nat} {lv : List (Nat × Value)} {st : List Value} {I : gI} {J : gL} (k : ∀ V1 : gV, V1 = V → gJ X V1 cells slots pc lv st I J) : gJ X V cells slots pc lv st I J := k V rfl
theorem gMet.at {l : Launch} {D : va_G} {cy : Nat → ClassId} {y : MethodName} {cc : ByteArray} {nL k b : Nat} {rt : Option FieldType} {rm : Room} {V : gV} {As : List Value} {I : gI} {J : gL} {Po : gPo} (e : V.2.1 k = b) (h : gMet l D cy y cc nL rt rm V (.ref b :: As) I J Po) : gMet l D cy y cc nL rt rm V (.ref (V.2.1 k) :: As) I J Po := by rw [e]; exact h
/-- fewer cells, each as it was -/
def gSub (V0 V : gV) : Prop := V0.1.Nodup ∧ (∀ k ∈ V0.1, k ∈ V.1) ∧ V0.2 = V.2
theorem gJ.drop {X : gX} {V V0 : gV} {cells slots pc : Nat} {lv : List (Nat × Value)} {st : List Value} {I : gI} {J : gL} (h : gSub V0 V) (k : gJ X V0 cells slots pc lv st I J) : gJ X V cells slots pc lv st I J := by
  obtain ⟨⟨p, l, e, R, s, m⟩, ⟨args, below, meth, c⟩, ⟨D, cy, A, Q, nL⟩⟩ := X
  obtain ⟨ks, ad, de⟩ := V
  obtain ⟨ks0, ad0, de0⟩ := V0
  obtain ⟨hnd, hsub, he⟩ := h
  obtain ⟨rfl, rfl⟩ : ad0 = ad ∧ de0 = de := by
    have h2 : (ad0, de0) = (ad, de) := he
    exact ⟨congrArg Prod.fst h2, congrArg Prod.snd h2⟩
  intro H locs ls hP hD hS hl
  have at' : ∀ (i : Nat) (q : Nat × va_E), (gW cy (ks0, ad0, de0) I J)[i]? = some q → ∃ k, ks0[i]? = some k ∧ q = (ad0 k, gE cy I J k (de0 k)) := by
    intro i q hq
    simp only [gW, List.getElem?_map] at hq
    cases hk : ks0[i]? with
    | none => rw [hk] at hq; cases hq
    | some k => rw [hk] at hq; cases hq; exact ⟨k, rfl, rfl⟩
  refine k H locs ls ?_ ⟨?_, ?_⟩ hS hl
  · intro i q hq
    obtain ⟨k, hk, rfl⟩ := at' i q hq
    obtain ⟨q0, -, h1⟩ := gW_at (cy := cy) (V := (ks, ad0, de0)) (I := I) (J := J) (hsub k (List.mem_of_getElem? hk))
    exact hP q0 _ h1
  · intro i j p q hi hj e
    obtain ⟨k1, h1, rfl⟩ := at' i p hi
    obtain ⟨k2, h2, rfl⟩ := at' j q hj
    have hkk : k1 = k2 := gW_inj hD (hsub k1 (List.mem_of_getElem? h1)) (hsub k2 (List.mem_of_getElem? h2)) e
    subst hkk
    obtain ⟨l1, g1⟩ := List.getElem?_eq_some_iff.mp h1
    obtain ⟨l2, g2⟩ := List.getElem?_eq_some_iff.mp h2
    have hp := List.pairwise_iff_getElem.mp hnd
    rcases Nat.lt_trichotomy i j with h | h | h
    · exact absurd (g1.trans g2.symm) (hp i j l1 l2 h)
    · exact h
    · exact absurd (g2.trans g1.symm) (hp j i l2 l1 h)
  · intro i q hq
    obtain ⟨k, hk, rfl⟩ := at' i q hq
    exact gW_A (V := (ks, ad0, de0)) hD (hsub k (List.mem_of_getElem? hk))
def gQi (Po : Int32 → gV → gI → gL → Prop) : gPo := fun r V' I' J' => ∃ x : Int32, r = some (.int x) ∧ Po x V' I' J'
def gQl (Po : Int64 → gV → gI → gL → Prop) : gPo := fun r V' I' J' => ∃ x : Int64, r = some (.long x) ∧ Po x V' I' J'
def gQv (Po : gV → gI → gL → Prop) : gPo := fun r V' I' J' => r = none ∧ Po V' I' J'
def gQr (Po : Nat → gV → gI → gL → Prop) : gPo := fun r V' I' J' => ∃ x : Nat, r = some (.ref x) ∧ Po x V' I' J'

theorem fs_X0 : ∀ j, j < 7 → defaultValue (tyX0 j) = vp_V (gSl (fun _ => 0) (fun _ => 0) 0 [.inl 0, .inl 0, .inr none, .inr none, .inr none, .inr none, .inr none]) j := by
  intro j hj
  rcases (show j = 0 ∨ j = 1 ∨ j = 2 ∨ j = 3 ∨ j = 4 ∨ j = 5 ∨ j = 6 by omega) with rfl | rfl | rfl | rfl | rfl | rfl | rfl <;> rfl
theorem fs_X1 : ∀ j, j < 9 → defaultValue (tyX1 j) = vp_V (gSl (fun _ => 0) (fun _ => 0) 0 [.inl 0, .inl 0, .inl 0, .inr none, .inr none, .inl 0, .inl 0, .inl 0, .inl 0]) j := by
  intro j hj
  rcases (show j = 0 ∨ j = 1 ∨ j = 2 ∨ j = 3 ∨ j = 4 ∨ j = 5 ∨ j = 6 ∨ j = 7 ∨ j = 8 by omega) with rfl | rfl | rfl | rfl | rfl | rfl | rfl | rfl | rfl <;> rfl
theorem fs_X2 : ∀ j, j < 10 → defaultValue (tyX2 j) = vp_V (gSl (fun _ => 0) (fun _ => 0) 0 [.inr none, .inr none, .inr none, .inr none, .inr none, .inl 0, .inl 0, .inl 0, .inl 0, .inl 0]) j := by
  intro j hj
  rcases (show j = 0 ∨ j = 1 ∨ j = 2 ∨ j = 3 ∨ j = 4 ∨ j = 5 ∨ j = 6 ∨ j = 7 ∨ j = 8 ∨ j = 9 by omega) with rfl | rfl | rfl | rfl | rfl | rfl | rfl | rfl | rfl | rfl <;> rfl
theorem fs_X3 : ∀ j, j < 6 → defaultValue (tyX3 j) = vp_V (gSl (fun _ => 0) (fun _ => 0) 0 [.inr none, .inl 0, .inl 1, .inl 1, .inr none, .inr none]) j := by
  intro j hj
  rcases (show j = 0 ∨ j = 1 ∨ j = 2 ∨ j = 3 ∨ j = 4 ∨ j = 5 by omega) with rfl | rfl | rfl | rfl | rfl | rfl <;> rfl
theorem fs_X4 : ∀ j, j < 13 → defaultValue (tyX4 j) = vp_V (gSl (fun _ => 0) (fun _ => 0) 0 [.inl 0, .inl 0, .inl 0, .inl 0, .inl 0, .inl 0, .inl 0, .inl 0, .inr none, .inr none, .inr none, .inr none, .inr none]) j := by
  intro j hj
  rcases (show j = 0 ∨ j = 1 ∨ j = 2 ∨ j = 3 ∨ j = 4 ∨ j = 5 ∨ j = 6 ∨ j = 7 ∨ j = 8 ∨ j = 9 ∨ j = 10 ∨ j = 11 ∨ j = 12 by omega) with rfl | rfl | rfl | rfl | rfl | rfl | rfl | rfl | rfl | rfl | rfl | rfl | rfl <;> rfl
theorem fs_X5 : ∀ j, j < 14 → defaultValue (tyX5 j) = vp_V (gSl (fun _ => 0) (fun _ => 0) 0 [.inl 0, .inr none, .inr none, .inr none, .inr none, .inr none, .inr none, .inr none, .inr none, .inl 0, .inl 0, .inl 0, .inl 0, .inl 0]) j := by
  intro j hj
  rcases (show j = 0 ∨ j = 1 ∨ j = 2 ∨ j = 3 ∨ j = 4 ∨ j = 5 ∨ j = 6 ∨ j = 7 ∨ j = 8 ∨ j = 9 ∨ j = 10 ∨ j = 11 ∨ j = 12 ∨ j = 13 by omega) with rfl | rfl | rfl | rfl | rfl | rfl | rfl | rfl | rfl | rfl | rfl | rfl | rfl | rfl <;> rfl
theorem fs_X6 : ∀ j, j < 2 → defaultValue (tyX6 j) = vp_V (gSl (fun _ => 0) (fun _ => 0) 0 [.inr none, .inr none]) j := by
  intro j hj
  rcases (show j = 0 ∨ j = 1 by omega) with rfl | rfl <;> rfl
theorem fs_X7 : ∀ j, j < 3 → defaultValue (tyX7 j) = vp_V (gSl (fun _ => 0) (fun _ => 0) 0 [.inr none, .inr none, .inl 0]) j := by
  intro j hj
  rcases (show j = 0 ∨ j = 1 ∨ j = 2 by omega) with rfl | rfl | rfl <;> rfl
theorem fs_X8 : ∀ j, j < 5 → defaultValue (tyX8 j) = vp_V (gSl (fun _ => 0) (fun _ => 0) 0 [.inr none, .inr none, .inr none, .inr none, .inl 0]) j := by
  intro j hj
  rcases (show j = 0 ∨ j = 1 ∨ j = 2 ∨ j = 3 ∨ j = 4 by omega) with rfl | rfl | rfl | rfl | rfl <;> rfl
theorem fs_X9 : ∀ j, j < 7 → defaultValue (tyX9 j) = vp_V (gSl (fun _ => 0) (fun _ => 0) 0 [.inr none, .inr none, .inr none, .inr none, .inr none, .inr none, .inr none]) j := by
  intro j hj
  rcases (show j = 0 ∨ j = 1 ∨ j = 2 ∨ j = 3 ∨ j = 4 ∨ j = 5 ∨ j = 6 by omega) with rfl | rfl | rfl | rfl | rfl | rfl | rfl <;> rfl
theorem fs_X10 : ∀ j, j < 45 → defaultValue (tyX10 j) = vp_V (gSl (fun _ => 0) (fun _ => 0) 0 [.inl 0, .inr none, .inr none, .inr none, .inr none, .inl 0, .inr none, .inr none, .inr none, .inr none, .inr none, .inl 0, .inr none, .inl 0, .inl 0, .inl 0, .inl 0, .inl 0, .inr none, .inr none, .inr none, .inr none, .inr none, .inr none, .inr none, .inr none, .inr none, .inr none, .inr none, .inl 1, .inl 0, .inl 0, .inl 0, .inr none, .inr none, .inr none, .inr none, .inr none, .inr none, .inr none, .inl 0, .inl 0, .inr none, .inr none, .inl 0]) j := by
  intro j hj
  rcases (show j = 0 ∨ j = 1 ∨ j = 2 ∨ j = 3 ∨ j = 4 ∨ j = 5 ∨ j = 6 ∨ j = 7 ∨ j = 8 ∨ j = 9 ∨ j = 10 ∨ j = 11 ∨ j = 12 ∨ j = 13 ∨ j = 14 ∨ j = 15 ∨ j = 16 ∨ j = 17 ∨ j = 18 ∨ j = 19 ∨ j = 20 ∨ j = 21 ∨ j = 22 ∨ j = 23 ∨ j = 24 ∨ j = 25 ∨ j = 26 ∨ j = 27 ∨ j = 28 ∨ j = 29 ∨ j = 30 ∨ j = 31 ∨ j = 32 ∨ j = 33 ∨ j = 34 ∨ j = 35 ∨ j = 36 ∨ j = 37 ∨ j = 38 ∨ j = 39 ∨ j = 40 ∨ j = 41 ∨ j = 42 ∨ j = 43 ∨ j = 44 by omega) with rfl | rfl | rfl | rfl | rfl | rfl | rfl | rfl | rfl | rfl | rfl | rfl | rfl | rfl | rfl | rfl | rfl | rfl | rfl | rfl | rfl | rfl | rfl | rfl | rfl | rfl | rfl | rfl | rfl | rfl | rfl | rfl | rfl | rfl | rfl | rfl | rfl | rfl | rfl | rfl | rfl | rfl | rfl | rfl | rfl <;> rfl
