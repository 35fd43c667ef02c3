/-! repeats: class and model side by side -/
theorem smM_pos {X : Nat} {ok : Nat → Bool} {N S : Nat → Nat} {cl : Bool} {ht : Nat} : 0 < smM X ok N S cl ht ↔ lf (gdF X ok ok N S (eM N cl) ht) X < X := by
  constructor
  · intro h
    obtain ⟨x, h1, h2, h3⟩ := sN_pos.mp h
    exact lf_ex h1 (gdF_t.mpr ⟨h2, h3⟩)
  · intro h
    obtain ⟨h1, h2⟩ := gdF_t.mp ((lf_sp (q := gdF X ok ok N S (eM N cl) ht) X).2 h)
    exact sN_pos.mpr ⟨_, h, h1, h2⟩
def rpV (i : Nat) : Bool := decide ((i / 4 + 1) % (i % 4 + 1) = 0) && decide ((i / 4 + 1) / (i % 4 + 1) ≤ 4)
noncomputable def rpG (T : Nat) (c : Nat → Nat → Nat) (i : Nat) : Bool := rpV i && decide (0 < smT T (i % 4 + 1) c true ((i / 4 + 1) / (i % 4 + 1)))
noncomputable def rpS (T : Nat) (c : Nat → Nat → Nat) : Nat := lf (rpG T c) 64
def rmC (T p : Nat) : Nat → Nat
  | 0 => p
  | i + 1 => if rpV i = true then nxR (rmC T p i) (T ^ (i % 4 + 1)) else rmC T p i
theorem rmC_p {T p : Nat} (hp : rmP p) : ∀ i, rmP (rmC T p i)
  | 0 => hp
  | i + 1 => by
    show rmP (if rpV i = true then nxR (rmC T p i) (T ^ (i % 4 + 1)) else rmC T p i)
    split
    · exact nxR_p (rmC_p hp i)
    · exact rmC_p hp i
theorem rmC_s {T p : Nat} (hT : T ≤ 8) (hp : rmP p) (i : Nat) : rmC T p i ≤ rmC T p (i + 1) := by
  show _ ≤ (if rpV i = true then nxR (rmC T p i) (T ^ (i % 4 + 1)) else rmC T p i)
  split
  · exact (nxR_le (rmC_p hp i) (pT4 hT (by omega))).1
  · exact Nat.le_refl _
theorem rmC_m {T p : Nat} (hT : T ≤ 8) (hp : rmP p) {i : Nat} : ∀ {j : Nat}, i ≤ j → rmC T p i ≤ rmC T p j
  | 0, h => by rw [show i = 0 by omega]; exact Nat.le_refl _
  | j + 1, h => by
    by_cases e : i = j + 1
    · rw [e]; exact Nat.le_refl _
    · exact Nat.le_trans (rmC_m hT hp (i := i) (j := j) (by omega)) (rmC_s hT hp j)
theorem rmC_1 {T p : Nat} (hT : T ≤ 8) (hp : rmP p) {i : Nat} (hi : 1 ≤ i) : rmC T p i ≠ 0 := by
  have h1 : rmC T p 1 ≠ 0 := by
    show (if rpV 0 = true then nxR p (T ^ 1) else p) ≠ 0
    rw [if_pos (by decide)]
    exact wp0 hp hT (by decide)
  have := rmC_m hT hp (i := 1) hi
  omega
/-- the answer at place i -/
def rpA (i : Nat) : Nat := 10 * (i % 4 + 1) + (i / 4 + 1) / (i % 4 + 1)
theorem ixw {a w : Nat} (ha : 1 ≤ a) (hw : 1 ≤ w) (hw4 : w ≤ 4) : (4 * (a - 1) + (w - 1)) / 4 + 1 = a ∧ (4 * (a - 1) + (w - 1)) % 4 + 1 = w := by omega
section
variable {v1 v2 : Nat} {r cv gr : Bool} {room mc ms p T : Nat} {c : Nat → Nat → Nat} {V : gV} {I : gI} {J : gL}
theorem q_repeats (hW : gWl v1 v2 r cv gr room V) (hG : RGi r room p I J) (hR : RelT T c I) (hc : rmC T p (min (rpS T c + 1) 64) - p ≤ mc) (hs : 32 * (rmC T p (min (rpS T c + 1) 64) - p) ≤ ms) {A : gV → Prop} (hA : ∀ V' r' cv' gr' room', gWl v1 v2 r' cv' gr' room' V' → A V') {Po : Int32 → Int32 → gV → gI → gL → Prop} (hok : ∀ x V' I' J', rwK v1 v2 cv gr (rmC T p (min (rpS T c + 1) 64)) I J V' I' J' → Po x x V' I' J') : wA_X9_repeats mc ms v1 V I J (fun x V1 I1 J1 => A V1 ∧ wp_X10_repeats I1 J1 (fun x2 I2 J2 => Po x x2 V1 I2 J2)) := by
  have hT8 := hR.1
  have hp := RGi_p hG
  have c9 := RelT_9 hR
  have hsl : rpS T c ≤ 64 := lf_le _
  obtain ⟨sp1, sp2⟩ := lf_sp (q := rpG T c) 64
  have far : ∀ i, i ≤ 64 → (∀ j, j < i → rpG T c j = false) → i ≤ rpS T c := fun i hi h => by
    rcases Nat.lt_or_ge (rpS T c) i with z | z
    · have : rpG T c (rpS T c) = true := sp2 (show rpS T c < 64 by omega)
      rw [h _ z] at this; exact absurd this (by decide)
    · exact z
  have model : ∀ (V1 : gV) (I2 : gI) (J2 : gL), gWl v1 v2 true cv gr (rmC T p (min (rpS T c + 1) 64)) V1 → gSm lRG I I2 → gJm lRG J J2 → RGi true (rmC T p (min (rpS T c + 1) 64)) (rmC T p (min (rpS T c + 1) 64)) I2 J2 → ∀ x, x = (if rpS T c = 64 then -1 else nI (rpA (rpS T c))) → wp_X10_repeats I2 J2 (fun x2 I3 J3 => Po x x2 V1 I3 J3) := by
    intro V1 I2 J2 hW1 k1 k2 k3 x hx
    have hR2 := RelT_S hR k1 (fun k h1 h2 => by simp only [List.mem_cons, List.not_mem_nil, or_false]; omega) (by rw [k1 200 (by decide)]) (by decide)
    unfold wp_X10_repeats w_X10_repeats_2
    refine gl3 (N := 17) (i0 := 1) (fun K v I J => w_X10_repeats_2b (fun x2 I3 J3 => Po x x2 V1 I3 J3) K v I J) (fun a I' J' => 1 ≤ a ∧ gSm [200, 202, 203, 204, 205, 207] I2 I' ∧ (∀ j, j ≠ 5 → I' 200 j = I2 200 j) ∧ gJm [206, 208, 209] J2 J' ∧ ∀ j, j < 4 * (a - 1) → rpG T c j = false) (by decide) (by decide) ⟨Nat.le_refl _, gSm_r _, fun _ _ => rfl, gJm_r _, fun j hj => absurd hj (by omega)⟩ ?_
    rintro a I3 J3 ha ⟨ha1, g1, g2, g3, g4⟩ K kk
    unfold w_X10_repeats_2b
    refine pk_lt 16 a (fun hz => ?_) (fun hz => ?_) rfl rfl
    · have : rpS T c = 64 := by have := far 64 (Nat.le_refl _) (fun j hj => g4 j (by omega)); omega
      rw [if_pos this] at hx
      rw [hx]; exact hok _ V1 I3 J3 (rwK_m hW1 k1 k2 k3 g1 g2 g3)
    · unfold w_X10_repeats_10
      refine gl3 (N := 5) (i0 := 1) (fun K2 v I J => w_X10_repeats_10b (fun x2 I3 J3 => Po x x2 V1 I3 J3) K K2 (nI a) v I J) (fun w I' J' => 1 ≤ w ∧ gSm [200, 202, 203, 204, 205, 207] I2 I' ∧ (∀ j, j ≠ 5 → I' 200 j = I2 200 j) ∧ gJm [206, 208, 209] J2 J' ∧ ∀ j, j < 4 * (a - 1) + (w - 1) → rpG T c j = false) (by decide) (by decide) ⟨Nat.le_refl _, g1, g2, g3, fun j hj => g4 j (by omega)⟩ ?_
      rintro w I4 J4 hw ⟨hw1, o1, o2, o3, o4⟩ K2 kk2
      unfold w_X10_repeats_10b
      refine pk_lt 4 w (fun hz2 => ?_) (fun hz2 => ?_) rfl rfl
      · intro n3 e3
        rw [nI_1] at e3
        subst e3
        exact kk (by omega) I4 J4 ⟨by omega, o1, o2, o3, fun j hj => o4 j (by omega)⟩
      · obtain ⟨ix1, ix2⟩ := ixw ha1 hw1 hz2
        have hdl : a / w ≤ a := Nat.div_le_self _ _
        have nx : ∀ (I' : gI) (J' : gL), gSm [200, 202, 203, 204, 205, 207] I2 I' → (∀ j, j ≠ 5 → I' 200 j = I2 200 j) → gJm [206, 208, 209] J2 J' → rpG T c (4 * (a - 1) + (w - 1)) = false → w_X10_repeats_51 (fun x2 I3 J3 => Po x x2 V1 I3 J3) K K2 (nI a) (nI w) I' J' := by
          intro I' J' u1 u2 u3 hf
          unfold w_X10_repeats_51
          intro n6 e6
          rw [nI_1] at e6
          subst e6
          refine kk2 (by omega) I' J' ⟨by omega, u1, u2, u3, fun j hj => ?_⟩
          by_cases e : j = 4 * (a - 1) + (w - 1)
          · rw [e]; exact hf
          · exact o4 j (by omega)
        rw [pk_rem (by omega) (by omega) (by omega), pk_div (by omega) (by omega) (by omega)]
        have hw0 : ¬ nI w = 0 := nI_ne0 (by omega) (by omega)
        have hmod : a % w < w := Nat.mod_lt _ (by omega)
        refine ⟨hw0, fun q => nx I4 J4 o1 o2 o3 ?_, fun q => ⟨hw0, ?_⟩⟩
        · unfold rpG rpV
          rw [ix1, ix2, decide_eq_false (fun z => q (by rw [z]; rfl)), Bool.false_and, Bool.false_and]
        · have hm0 : a % w = 0 := (nI_eq (b := 0) (by omega) (by decide)).mp q
          refine pk_lt 4 (a / w) (fun hz3 => nx I4 J4 o1 o2 o3 ?_) (fun hz3 => ⟨hw0, ?_⟩) rfl rfl
          · unfold rpG rpV
            rw [ix1, ix2, decide_eq_false (show ¬ a / w ≤ 4 by omega), Bool.and_false, Bool.false_and]
          · have hd1 : 1 ≤ a / w := by
              have := Nat.div_add_mod a w
              rcases Nat.eq_zero_or_pos (a / w) with z | z
              · rw [z, hm0, Nat.mul_zero] at this; omega
              · exact z
            have hV : rpV (4 * (a - 1) + (w - 1)) = true := by
              unfold rpV
              rw [ix1, ix2, decide_eq_true hm0, decide_eq_true hz3]; rfl
            have hR4 := RelT_S hR2 o1 (fun k h1 h2 => by simp only [List.mem_cons, List.not_mem_nil, or_false]; omega) (o2 0 (by decide)) (by decide)
            refine p_fillM (cl := true) hR4 hw1 hz2 hd1 hz3 ⟨fun z => absurd z one_ne, fun z => absurd z (by decide)⟩ (fun I5 J5 s1 s2 s3 => ?_)
            have b63 : smT T w c true (a / w) < _ := smT_63 hT8 hz2 hd1 hz3
            have u1 := gSm_t o1 s1
            have u2 : ∀ j, j ≠ 5 → I5 200 j = I2 200 j := fun j hj => by rw [s2 j hj, o2 j hj]
            have u3 := gJm_t o3 s3
            refine ⟨fun q2 => nx I5 J5 u1 u2 u3 ?_, fun q2 => ⟨hw0, ?_⟩⟩
            · have h0 : smT T w c true (a / w) = 0 := by
                have := (pk_lLE (b := 0) b63 (by decide)).mp ((lg_cmp_le _ _).mp q2)
                omega
              unfold rpG
              rw [ix1, ix2, decide_eq_false (by omega), Bool.and_false]
            · have hpos : 0 < smT T w c true (a / w) := by
                rcases Nat.eq_zero_or_pos (smT T w c true (a / w)) with z | z
                · exact absurd ((lg_cmp_le _ _).mpr (by show lN (smT T w c true (a / w)) ≤ 0; rw [z]; exact (pk_lLE (a := 0) (b := 0) (by decide) (by decide)).mpr (Nat.le_refl 0))) q2
                · exact z
              have hg : rpG T c (4 * (a - 1) + (w - 1)) = true := by
                unfold rpG
                rw [hV, ix1, ix2, decide_eq_true hpos]; rfl
              have hst : rpS T c = 4 * (a - 1) + (w - 1) := lf_at (by omega) hg o4
              rw [if_neg (by omega), hst] at hx
              unfold rpA at hx
              rw [ix1, ix2] at hx
              rw [i_10, pk_mul, nI_add, ← hx]
              exact hok _ V1 I5 J5 (rwK_m hW1 k1 k2 k3 u1 u2 u3)
  unfold wA_X9_repeats wA_X9_repeats_2
  refine gq7 (N := 17) (i0 := 1) (fun K v V c s I J => wA_X9_repeats_2b mc ms (fun x V1 I1 J1 => A V1 ∧ wp_X10_repeats I1 J1 (fun x2 I2 J2 => Po x x2 V1 I2 J2)) K v1 v V c s I J) (fun a V' c' s' I' J' => 1 ≤ a ∧ c' = rmC T p (4 * (a - 1)) - p ∧ s' = 32 * (rmC T p (4 * (a - 1)) - p) ∧ gSm lRG I I' ∧ gJm lRG J J' ∧ (∀ j, j < 4 * (a - 1) → rpG T c j = false) ∧ ∃ r' room', gWl v1 v2 r' cv gr room' V' ∧ RGi r' room' (rmC T p (4 * (a - 1))) I' J') (by decide) (by decide) ⟨Nat.le_refl _, by show 0 = p - p; omega, by show 0 = 32 * (p - p); omega, gSm_r _, gJm_r _, fun j hj => absurd hj (by omega), r, room, hW, hG⟩ ?_
  rintro a V1 _ _ I1 J1 ha ⟨ha1, rfl, rfl, g1, g2, g3, r', room', hW1, hG1⟩ K kk
  unfold wA_X9_repeats_2b
  refine pk_lt 16 a (fun hz => ?_) (fun hz => ?_) rfl rfl
  · have e4 : rpS T c = 64 := by have := far 64 (Nat.le_refl _) (fun j hj => g3 j (by omega)); omega
    have ek : min (rpS T c + 1) 64 = 4 * (a - 1) := by omega
    have hne := rmC_1 (p := p) hT8 hp (i := 4 * (a - 1)) (by omega)
    cases r' with
    | false => exact absurd (hG1.1 rfl) hne
    | true =>
      have er : rmC T p (4 * (a - 1)) = room' := (hG1.2 rfl).1
      rw [← er] at hW1 hG1
      rw [← ek] at hW1 hG1
      exact ⟨hA _ _ _ _ _ hW1, model V1 I1 J1 hW1 g1 g2 hG1 _ (by rw [if_pos e4])⟩
  · unfold wA_X9_repeats_10
    refine gq7 (N := 5) (i0 := 1) (fun K2 v V c s I J => wA_X9_repeats_10b mc ms (fun x V1 I1 J1 => A V1 ∧ wp_X10_repeats I1 J1 (fun x2 I2 J2 => Po x x2 V1 I2 J2)) K K2 v1 (nI a) v V c s I J) (fun w V' c' s' I' J' => 1 ≤ w ∧ c' = rmC T p (4 * (a - 1) + (w - 1)) - p ∧ s' = 32 * (rmC T p (4 * (a - 1) + (w - 1)) - p) ∧ gSm lRG I I' ∧ gJm lRG J J' ∧ (∀ j, j < 4 * (a - 1) + (w - 1) → rpG T c j = false) ∧ ∃ r' room', gWl v1 v2 r' cv gr room' V' ∧ RGi r' room' (rmC T p (4 * (a - 1) + (w - 1))) I' J') (by decide) (by decide) ⟨Nat.le_refl _, rfl, rfl, g1, g2, fun j hj => g3 j (by omega), r', room', hW1, hG1⟩ ?_
    clear hW1 hG1 g1 g2 g3
    rintro w V2 _ _ I2 J2 hw ⟨hw1, rfl, rfl, o1, o2, o3, r2, room2, hW2, hG2⟩ K2 kk2
    unfold wA_X9_repeats_10b
    refine pk_lt 4 w (fun hz2 => ?_) (fun hz2 => ?_) rfl rfl
    · intro n3 e3
      rw [nI_1] at e3
      subst e3
      have ei : 4 * (a - 1) + (w - 1) = 4 * (a + 1 - 1) := by omega
      rw [ei] at o3 hG2
      refine kk (by omega) V2 _ _ I2 J2 ⟨by omega, by rw [ei], by rw [ei], o1, o2, o3, r2, room2, hW2, hG2⟩
    · obtain ⟨ix1, ix2⟩ := ixw ha1 hw1 hz2
      have hdl : a / w ≤ a := Nat.div_le_self _ _
      have hw0 : ¬ nI w = 0 := nI_ne0 (by omega) (by omega)
      have hdm := Nat.div_add_mod a w
      have hmod : a % w < w := Nat.mod_lt _ (by omega)
      have m0 : p ≤ rmC T p (4 * (a - 1) + (w - 1)) := rmC_m (p := p) hT8 hp (i := 0) (Nat.zero_le _)
      have nx : ∀ (V' : gV) (c' s' : Nat) (I' : gI) (J' : gL), c' = rmC T p (4 * (a - 1) + (w - 1) + 1) - p → s' = 32 * (rmC T p (4 * (a - 1) + (w - 1) + 1) - p) → gSm lRG I I' → gJm lRG J J' → rpG T c (4 * (a - 1) + (w - 1)) = false → (∃ r' room', gWl v1 v2 r' cv gr room' V' ∧ RGi r' room' (rmC T p (4 * (a - 1) + (w - 1) + 1)) I' J') → wA_X9_repeats_54 mc ms (fun x V1 I1 J1 => A V1 ∧ wp_X10_repeats I1 J1 (fun x2 I2 J2 => Po x x2 V1 I2 J2)) K K2 v1 (nI a) (nI w) V' c' s' I' J' := by
        intro V' c' s' I' J' ec es u1 u2 hf hw'
        unfold wA_X9_repeats_54
        intro n7 e7
        rw [nI_1] at e7
        subst e7
        have ei : 4 * (a - 1) + (w - 1) + 1 = 4 * (a - 1) + (w + 1 - 1) := by omega
        rw [ei] at ec es hw'
        refine kk2 (by omega) V' c' s' I' J' ⟨by omega, ec, es, u1, u2, fun j hj => ?_, hw'⟩
        by_cases e : j = 4 * (a - 1) + (w - 1)
        · rw [e]; exact hf
        · exact o3 j (by omega)
      rw [pk_div (by omega) (by omega) (by omega)]
      refine ⟨hw0, ?_⟩
      intro n5 e5
      subst e5
      rw [pk_mul]
      have hmul : a / w * w ≤ a := Nat.div_mul_le_self a w
      have inval : rpV (4 * (a - 1) + (w - 1)) = false → wA_X9_repeats_54 mc ms (fun x V1 I1 J1 => A V1 ∧ wp_X10_repeats I1 J1 (fun x2 I2 J2 => Po x x2 V1 I2 J2)) K K2 v1 (nI a) (nI w) V2 (rmC T p (4 * (a - 1) + (w - 1)) - p) (32 * (rmC T p (4 * (a - 1) + (w - 1)) - p)) I2 J2 := by
        intro hV
        have es : rmC T p (4 * (a - 1) + (w - 1) + 1) = rmC T p (4 * (a - 1) + (w - 1)) := by
          show (if rpV (4 * (a - 1) + (w - 1)) = true then _ else _) = _
          rw [if_neg (by rw [hV]; decide)]
        refine nx V2 _ _ I2 J2 (by rw [es]) (by rw [es]) o1 o2 (by unfold rpG; rw [hV, Bool.false_and]) ⟨r2, room2, hW2, by rw [es]; exact hG2⟩
      refine ⟨fun q => inval ?_, fun q => ?_⟩
      · unfold rpV
        rw [ix1, ix2, decide_eq_false (fun z => q ?_), Bool.false_and]
        rw [Nat.mul_comm]
        exact congrArg nI (by omega)
      · have hm0 : a % w = 0 := by
          have := (nI_eq (by omega) (by omega)).mp q
          rw [Nat.mul_comm] at this
          omega
        have hd1 : 1 ≤ a / w := by
          rcases Nat.eq_zero_or_pos (a / w) with z | z
          · rw [z, hm0, Nat.mul_zero] at hdm; omega
          · exact z
        refine p_isSide (fun h4 => ⟨fun z => absurd z one_ne, fun _ => ?_⟩) (fun h4 => ⟨fun _ => inval ?_, fun z => absurd rfl z⟩)
        · obtain ⟨h', hh1, hh4, eh⟩ := inR_nI (lo := 1) (hi := 4) (by decide) (by decide) h4
          have hz3 : a / w ≤ 4 := by
            have := (nI_eq (by omega) (by omega)).mp eh
            omega
          have hV : rpV (4 * (a - 1) + (w - 1)) = true := by
            unfold rpV
            rw [ix1, ix2, decide_eq_true hm0, decide_eq_true hz3]; rfl
          have hstep : nxR (rmC T p (4 * (a - 1) + (w - 1))) (T ^ w) = rmC T p (4 * (a - 1) + (w - 1) + 1) := by
            show _ = (if rpV (4 * (a - 1) + (w - 1)) = true then nxR (rmC T p (4 * (a - 1) + (w - 1))) (T ^ ((4 * (a - 1) + (w - 1)) % 4 + 1)) else _)
            rw [if_pos hV, ix2]
          have hst := far (4 * (a - 1) + (w - 1)) (by omega) o3
          have m2 := rmC_s (p := p) hT8 hp (4 * (a - 1) + (w - 1))
          have m3 := rmC_m (p := p) hT8 hp (i := 4 * (a - 1) + (w - 1) + 1) (j := min (rpS T c + 1) 64) (by omega)
          have hR1 := RelT_S hR o1 (fun k h1 h2 => by simp only [List.mem_cons, List.not_mem_nil, or_false]; omega) (by rw [o1 200 (by decide)]) (by decide)
          obtain ⟨_, w2, _, wT, _⟩ := id hW2
          refine ⟨_, rmC T p (4 * (a - 1) + (w - 1) + 1) - rmC T p (4 * (a - 1) + (w - 1)), 32 * (rmC T p (4 * (a - 1) + (w - 1) + 1) - rmC T p (4 * (a - 1) + (w - 1))), wT.1, w2, wT.2, by omega, by omega, ?_⟩
          refine p_rowsOf (cl := true) hW2 hG2 hR1 hw1 hz2 (Or.inr rfl) ⟨fun z => absurd z one_ne, fun z => absurd z (by decide)⟩ (by rw [hstep]; exact Nat.le_refl _) (by rw [hstep]; exact Nat.le_refl _) (fun V3 I3 J3 D dig hW3 y1 y2 hG3 hB hD hi hR3 => ?_)
          rw [hstep] at hW3 hG3 hB
          obtain ⟨_, _, _, Fs, hTl⟩ := hG3.2 rfl
          obtain ⟨_, _, _, xT, xTS, _, _, _, _, xr, _⟩ := id hW3
          refine ⟨_, xTS, xr rfl, rfl, p_firstRingRow hB rfl hTl hd1 hz3 (fun I4 J4 Fs4 s1 s2 s3 x hx1 hx2 => ?_)⟩
          obtain ⟨k1, k2, k3⟩ := rwK_c hW3 (gSm_t o1 y1) (gJm_t o2 y2) hG3 s1 s2 ⟨Fs4, s3⟩
          have el : lf (gdF (T ^ w) (okM T w c true) (okM T w c true) (cd T 10 (fun t => c t 0) w) (cd T 10 (fun t => c t 2) w) (eM (cd T 10 (fun t => c t 0) w) true) (a / w)) (T ^ w) = lf (gdF (T ^ w) (okJ T w c true w) (fun x => okJ T w c true w x && allP T (hasN T c) w x) (cd T D (fun t => dig (c t 0)) w) (cd T D (fun t => dig (c t 2)) w) (fun x v => if v = cd T D (fun t => dig (c t 0)) w x then 1 else 0) (a / w)) (T ^ w) := by
            by_cases hT : 0 < T
            · exact br_lf (cl := true) hT c9 hD hi (a / w)
            · rw [pow0 hT hw1]; rfl
          have hle := lf_le (q := gdF (T ^ w) (okM T w c true) (okM T w c true) (cd T 10 (fun t => c t 0) w) (cd T 10 (fun t => c t 2) w) (eM (cd T 10 (fun t => c t 0) w) true) (a / w)) (T ^ w)
          have hpos : 0 < smT T w c true (a / w) ↔ lf (gdF (T ^ w) (okM T w c true) (okM T w c true) (cd T 10 (fun t => c t 0) w) (cd T 10 (fun t => c t 2) w) (eM (cd T 10 (fun t => c t 0) w) true) (a / w)) (T ^ w) < T ^ w := smM_pos
          have hTw := pT4 hT8 hz2
          rw [← el] at hx1 hx2
          refine ⟨fun q2 => ?_, fun q2 => ?_⟩
          · have hno : ¬ 0 < smT T w c true (a / w) := fun z => by
              have z' := hpos.mp z
              rw [hx2 z'] at q2
              exact nI_m1 (by have := cN_le (okJ T w c true w) (lf (gdF (T ^ w) (okM T w c true) (okM T w c true) (cd T 10 (fun t => c t 0) w) (cd T 10 (fun t => c t 2) w) (eM (cd T 10 (fun t => c t 0) w) true) (a / w)) (T ^ w)); omega) q2
            refine nx V3 _ _ I4 J4 (by omega) (by omega) k1 k2 (by unfold rpG; rw [ix1, ix2, decide_eq_false hno, Bool.and_false]) ⟨true, _, hW3, k3⟩
          · have hyes : 0 < smT T w c true (a / w) := hpos.mpr (by
              rcases Nat.lt_or_ge (lf (gdF (T ^ w) (okM T w c true) (okM T w c true) (cd T 10 (fun t => c t 0) w) (cd T 10 (fun t => c t 2) w) (eM (cd T 10 (fun t => c t 0) w) true) (a / w)) (T ^ w)) (T ^ w) with z | z
              · exact z
              · exact absurd (hx1 (by omega)) q2)
            have hg : rpG T c (4 * (a - 1) + (w - 1)) = true := by
              unfold rpG
              rw [hV, ix1, ix2, decide_eq_true hyes]; rfl
            have hst : rpS T c = 4 * (a - 1) + (w - 1) := lf_at (by omega) hg o3
            have ek : min (rpS T c + 1) 64 = 4 * (a - 1) + (w - 1) + 1 := by omega
            rw [← ek] at hW3 k3
            refine ⟨hA _ _ _ _ _ hW3, ?_⟩
            refine model V3 I4 J4 hW3 k1 k2 k3 _ ?_
            rw [if_neg (by omega), hst]
            unfold rpA
            rw [ix1, ix2, i_10, pk_mul, nI_add]
        · unfold rpV
          rw [ix1, ix2, decide_eq_false (fun z : a / w ≤ 4 => h4 (inR_of (by decide) hd1 z)), Bool.and_false]
end
