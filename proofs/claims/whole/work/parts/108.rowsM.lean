/-! the model: layRows, tellWays -/
theorem fdg_d {T : Nat} : ∀ (j p : Nat), fdg T j p = p / T ^ j % T
  | 0, p => by show p % T = _; rw [Nat.pow_zero, Nat.div_one]
  | j + 1, p => by
    show fdg T j (p / T) = _
    rw [fdg_d j (p / T), Nat.div_div_eq_div_mul, Nat.mul_comm, ← Nat.pow_succ]
def okM (T w : Nat) (c : Nat → Nat → Nat) (cl : Bool) (x : Nat) : Bool := okP T (fun t => c t 1) (fun t => c t 3) w x && (!cl || decide (c (x % T) 1 = c (x / T ^ (w - 1) % T) 3))
theorem okJ_M {T w : Nat} {c : Nat → Nat → Nat} {cl : Bool} {x : Nat} : okJ T w c cl w x = (okM T w c cl x && (!cl || allP T (hasN T c) w x)) := by
  unfold okJ okM
  rw [fdg_d, decide_eq_true rfl]
  generalize okP T (fun t => c t 1) (fun t => c t 3) w x = a
  generalize allP T (hasN T c) w x = b
  generalize decide (c (x % T) 1 = c (x / T ^ (w - 1) % T) 3) = d
  cases cl <;> cases a <;> cases b <;> cases d <;> rfl
theorem pw10 : ∀ j, j ≤ 4 → 10 ^ j ≤ 10000 := by decide
/-- the rows below hi, as the model has them -/
def MRp (ok : Nat → Bool) (N S : Nat → Nat) (hi : Nat) (I : gI) : Prop := I 200 5 = nI (cN ok hi) ∧ ∀ x, x < hi → ok x = true → I 202 (cN ok x) = nI x ∧ I 203 (cN ok x) = nI (N x) ∧ I 204 (cN ok x) = nI (S x)
def MR (X : Nat) (ok : Nat → Bool) (N S : Nat → Nat) (I : gI) : Prop := MRp ok N S X I ∧ X ≤ 4096 ∧ ∀ x, x < X → N x < 10000 ∧ S x < 10000
theorem p_layRows {T w : Nat} {c : Nat → Nat → Nat} {cl : Bool} {I : gI} (hR : RelT T c I) (hw1 : 1 ≤ w) (hw4 : w ≤ 4) {a2 : Int32} (hcl : a2 = 0 ↔ cl = false) {Po : gI → Prop} (hk : ∀ I', gSm [200, 202, 203, 204, 205] I I' → (∀ j, j ≠ 5 → I' 200 j = I 200 j) → MR (T ^ w) (okM T w c cl) (cd T 10 (fun t => c t 0) w) (cd T 10 (fun t => c t 2) w) I' → Po I') : wp_X10_layRows (nI w) a2 I Po := by
  obtain ⟨hT8, _, e200, hc⟩ := hR
  have hTw : T ^ w ≤ 8 ^ w := Nat.pow_le_pow_left hT8 w
  have h8w := pw8 w hw4
  have h10 := pw10 w hw4
  have hTj : ∀ i, i ≤ 4 → T ^ i ≤ 4096 := fun i hi => Nat.le_trans (Nat.pow_le_pow_left hT8 i) (pw8 i hi)
  unfold wp_X10_layRows
  intro I1 e1
  have q1 : ∀ j, j ≠ 5 → I1 200 j = I 200 j := fun j hj => by rw [e1, gup_ne hj]
  unfold w_X10_layRows_10
  refine gl2b (N := w) (i0 := 0) (fun K a v => w_X10_layRows_10b Po K (nI w) a2 a v I1) (fun i a => a = nI (T ^ i)) (by omega) (by omega) (by rw [Nat.pow_zero]; rfl) ?_
  rintro i _ hi rfl K kk
  unfold w_X10_layRows_10b
  refine pk_le w i (fun hz => ?_) (fun hz => ?_) rfl rfl
  · obtain rfl : i = w := by omega
    unfold w_X10_layRows_32
    refine gl2 (N := T ^ i) (i0 := 0) (fun K v I => w_X10_layRows_32b Po K (nI i) a2 (nI (T ^ i)) v I) (fun x I' => gSm [200, 202, 203, 204, 205] I I' ∧ (∀ j, j ≠ 5 → I' 200 j = I 200 j) ∧ MRp (okM T i c cl) (cd T 10 (fun t => c t 0) i) (cd T 10 (fun t => c t 2) i) x I') (by omega) (by omega) ⟨by rw [e1]; exact gSm_u (gSm_r I) (by decide), q1, by rw [e1, gup_at]; rfl, fun x hx => absurd hx (by omega)⟩ ?_
    rintro x I2 hx ⟨g1, g2, g3, g4⟩ K2 kk2
    unfold w_X10_layRows_32b
    refine pk_le (T ^ i) x (fun hz2 => ?_) (fun hz2 => ?_) rfl rfl
    · obtain rfl : x = T ^ i := by omega
      refine hk I2 g1 g2 ⟨⟨g3, g4⟩, by omega, fun x hx => ?_⟩
      have hT0 : 0 < T := by
        rcases Nat.eq_zero_or_pos T with z | z
        · subst z; rw [Nat.zero_pow (by omega)] at hx; omega
        · exact z
      exact ⟨Nat.lt_of_lt_of_le (cd_lt hT0 (fun t ht => by have := (hc t ht 0 (by decide)).1; omega) i x) h10, Nat.lt_of_lt_of_le (cd_lt hT0 (fun t ht => by have := (hc t ht 2 (by decide)).1; omega) i x) h10⟩
    · have hT0 : 0 < T := by
        rcases Nat.eq_zero_or_pos T with z | z
        · subst z; rw [Nat.zero_pow (by omega)] at hz2; omega
        · exact z
      have cml := cN_le (okM T i c cl) x
      intro n4 e4
      rw [Int32.sub_eq_add_neg] at e4
      subst e4
      unfold w_X10_layRows_47
      refine gr3 (m0 := i) (fun K a v I => w_X10_layRows_47b Po K2 K (nI i) a2 (nI (T ^ i)) (nI x) a v I) (fun m a v I' => m ≤ i ∧ a = nI (x / T ^ (i - m)) ∧ v = nI m + (-1) ∧ gSm [205] I2 I' ∧ ∀ k, m ≤ k → k < i → I' 205 k = nI (x / T ^ (i - 1 - k) % T)) ⟨Nat.le_refl _, by rw [Nat.sub_self, Nat.pow_zero, Nat.div_one], rfl, gSm_r _, fun k h1 h2 => by omega⟩ ?_
      rintro m _ _ I3 ⟨hm, rfl, rfl, o1, o2⟩ K3 kk3
      have x200 : I3 200 = I2 200 := o1 200 (by decide)
      have f0 : I3 200 0 = nI T := by rw [x200, g2 0 (by decide)]; exact e200
      unfold w_X10_layRows_47b
      cases m with
      | zero =>
        refine ⟨fun _ => ?_, fun z => absurd (by decide) z⟩
        have ch : ∀ k, k < i → I3 205 k = nI (x / T ^ (i - 1 - k) % T) := fun k hk => o2 k (Nat.zero_le _) hk
        have chT : ∀ k, x / T ^ (i - 1 - k) % T < T := fun k => Nat.mod_lt _ hT0
        have x201 : I3 201 = I 201 := by rw [o1 201 (by decide)]; exact g1 201 (by decide)
        have edge : ∀ k d, k < i → d < 4 → I3 201 (4 * (x / T ^ (i - 1 - k) % T) + d) = nI (c (x / T ^ (i - 1 - k) % T) d) := fun k d _ hd => by
          rw [x201]; exact (hc _ (chT k) d hd).2.2
        -- the row is looked at
        have go : ∀ b0 : Bool, b0 = (!cl || decide (c (x % T) 1 = c (x / T ^ (i - 1) % T) 3)) → w_X10_layRows_125 Po K2 (nI i) a2 (nI (T ^ i)) (nI x) (if b0 = true then 1 else 0) I3 := by
          intro b0 hb0
          unfold w_X10_layRows_125 w_X10_layRows_136
          refine gl4d (N := i) (i0 := 0) (fun K a b d v => w_X10_layRows_136b Po K2 K (nI i) a2 (nI (T ^ i)) (nI x) a b d v I3) (fun k a b d => a = (if (b0 && okP T (fun t => c t 1) (fun t => c t 3) k (x / T ^ (i - k))) = true then 1 else 0) ∧ b = nI (cd T 10 (fun t => c t 0) k (x / T ^ (i - k))) ∧ d = nI (cd T 10 (fun t => c t 2) k (x / T ^ (i - k)))) (by omega) (by omega) ⟨by show _ = (if (b0 && true) = true then 1 else 0); rw [Bool.and_true], rfl, rfl⟩ ?_
          rintro k _ _ _ hk4 ⟨rfl, rfl, rfl⟩ K4 kk4
          unfold w_X10_layRows_136b
          refine pk_le i k (fun hz4 => ?_) (fun hz4 => ?_) rfl rfl
          · obtain rfl : k = i := by omega
            rw [Nat.sub_self, Nat.pow_zero, Nat.div_one]
            have eok : (b0 && okP T (fun t => c t 1) (fun t => c t 3) k x) = okM T k c cl x := by
              unfold okM; rw [hb0, Bool.and_comm]
            rw [eok]
            have y5 : I3 200 5 = nI (cN (okM T k c cl) x) := by rw [x200]; exact g3
            have s3 : gSm [200, 202, 203, 204, 205] I I3 := gSm_t g1 (gSm_w o1 (by decide))
            have done : ∀ I' : gI, gSm [200, 202, 203, 204, 205] I I' → (∀ j, j ≠ 5 → I' 200 j = I 200 j) → MRp (okM T k c cl) (cd T 10 (fun t => c t 0) k) (cd T 10 (fun t => c t 2) k) (x + 1) I' → w_X10_layRows_296 Po K2 (nI k) a2 (nI (T ^ k)) (nI x) I' := by
              intro I' u1 u2 u3
              unfold w_X10_layRows_296
              intro n9 e9
              rw [nI_1] at e9
              subst e9
              exact kk2 hz2 I' ⟨u1, u2, u3⟩
            refine ⟨fun q => ?_, fun q => ?_⟩
            · have hno : ¬ okM T k c cl x = true := fun z => by rw [if_pos z] at q; exact absurd q (by decide)
              have ec : cN (okM T k c cl) (x + 1) = cN (okM T k c cl) x := by
                show cN (okM T k c cl) x + (if okM T k c cl x = true then 1 else 0) = _
                rw [if_neg hno, Nat.add_zero]
              refine done I3 s3 (fun j hj => by rw [x200]; exact g2 j hj) ⟨by rw [ec]; exact y5, fun y hy hoy => ?_⟩
              have hy' : y < x := by
                rcases Nat.lt_or_ge y x with z | z
                · exact z
                · rw [show y = x by omega] at hoy; exact absurd hoy hno
              rw [o1 202 (by decide), o1 203 (by decide), o1 204 (by decide)]
              exact g4 y hy' hoy
            · have hyes : okM T k c cl x = true := Classical.byContradiction fun z => q (by rw [if_neg z])
              have ec := cN_su hyes
              rw [y5, nI_clamp (by omega)]
              refine ⟨vp_in_nI (by omega) (by decide), ?_⟩
              intro I11 e11
              have y11 : I11 200 5 = nI (cN (okM T k c cl) x) := by rw [e11, gup_o (by decide)]; exact y5
              rw [y11, nI_clamp (by omega)]
              refine ⟨vp_in_nI (by omega) (by decide), ?_⟩
              intro I13 e13
              have y13 : I13 200 5 = nI (cN (okM T k c cl) x) := by rw [e13, gup_o (by decide)]; exact y11
              rw [y13, nI_clamp (by omega)]
              refine ⟨vp_in_nI (by omega) (by decide), ?_⟩
              intro I15 e15
              have y15 : I15 200 5 = nI (cN (okM T k c cl) x) := by rw [e15, gup_o (by decide)]; exact y13
              rw [y15, nI_1, ← ec]
              intro I16 e16
              have z202 : I16 202 = gup I3 202 (cN (okM T k c cl) x) (nI x) 202 := by rw [e16, gup_o (by decide), e15, gup_o (by decide), e13, gup_o (by decide), e11]
              have z203 : I16 203 = gup I11 203 (cN (okM T k c cl) x) (nI (cd T 10 (fun t => c t 0) k x)) 203 := by rw [e16, gup_o (by decide), e15, gup_o (by decide), e13]
              have z204 : I16 204 = gup I13 204 (cN (okM T k c cl) x) (nI (cd T 10 (fun t => c t 2) k x)) 204 := by rw [e16, gup_o (by decide), e15]
              refine done I16 (by rw [e16, e15, e13, e11]; exact gSm_u (gSm_u (gSm_u (gSm_u s3 (by decide)) (by decide)) (by decide)) (by decide)) (fun j hj => by rw [e16, gup_ne hj, e15, gup_o (by decide), e13, gup_o (by decide), e11, gup_o (by decide), x200]; exact g2 j hj) ⟨by rw [e16, gup_at], fun y hy hoy => ?_⟩
              rw [z202, z203, z204]
              by_cases e : y = x
              · subst e; rw [gup_at, gup_at, gup_at]; exact ⟨rfl, rfl, rfl⟩
              · have hne : cN (okM T k c cl) y ≠ cN (okM T k c cl) x := fun z => e (cN_inj hoy hyes z)
                rw [gup_ne hne, gup_ne hne, gup_ne hne, e13, gup_o (by decide), e11, gup_o (by decide), gup_o (by decide), o1 202 (by decide), o1 203 (by decide), o1 204 (by decide)]
                exact g4 y (by omega) hoy
          · have hdiv : x / T ^ (i - (k + 1)) / T = x / T ^ (i - k) := by
              rw [Nat.div_div_eq_div_mul, ← Nat.pow_succ, show (i - (k + 1)).succ = i - k by omega]
            have e1k : i - (k + 1) = i - 1 - k := by omega
            have okS : okP T (fun t => c t 1) (fun t => c t 3) (k + 1) (x / T ^ (i - (k + 1))) = (okP T (fun t => c t 1) (fun t => c t 3) k (x / T ^ (i - k)) && (decide (k = 0) || decide (c (x / T ^ (i - k) % T) 1 = c (x / T ^ (i - 1 - k) % T) 3))) := by
              show (okP T (fun t => c t 1) (fun t => c t 3) k (x / T ^ (i - (k + 1)) / T) && (decide (k = 0) || decide (c (x / T ^ (i - (k + 1)) / T % T) 1 = c (x / T ^ (i - (k + 1)) % T) 3))) = _
              rw [hdiv, e1k]
            have cdS : ∀ d, cd T 10 (fun t => c t d) (k + 1) (x / T ^ (i - (k + 1))) = cd T 10 (fun t => c t d) k (x / T ^ (i - k)) * 10 + c (x / T ^ (i - 1 - k) % T) d := fun d => by
              show cd T 10 (fun t => c t d) k (x / T ^ (i - (k + 1)) / T) * 10 + c (x / T ^ (i - (k + 1)) % T) d = _
              rw [hdiv, e1k]
            have hck := chT k
            have nx : ∀ b1 : Bool, b1 = (b0 && okP T (fun t => c t 1) (fun t => c t 3) (k + 1) (x / T ^ (i - (k + 1)))) → w_X10_layRows_194 Po K2 K4 (nI i) a2 (nI (T ^ i)) (nI x) (nI (cd T 10 (fun t => c t 0) k (x / T ^ (i - k)))) (nI (cd T 10 (fun t => c t 2) k (x / T ^ (i - k)))) (nI k) (if b1 = true then 1 else 0) I3 := by
              intro b1 hb1
              unfold w_X10_layRows_194
              rw [nI_clamp (n := k) (by omega), ch k hz4, i_4, pk_mul, i_2, nI_add, nI_clamp (by omega), nI_clamp (by omega), i_10, pk_mul, pk_mul]
              have ed0 := edge k 0 hz4 (by decide)
              rw [Nat.add_zero] at ed0
              rw [ed0, edge k 2 hz4 (by decide), nI_add, nI_add]
              refine ⟨vp_in_nI (by omega) (by decide), vp_in_nI (by omega) (by decide), ?_⟩
              intro n20 e20
              refine ⟨vp_in_nI (by omega) (by decide), vp_in_nI (by omega) (by decide), ?_⟩
              intro n23 e23 n24 e24
              rw [nI_1] at e24
              subst e20 e23 e24
              refine kk4 hz4 _ _ _ ⟨by rw [hb1], by rw [cdS, Nat.mul_comm 10], by rw [cdS, Nat.mul_comm 10]⟩
            have n193 : (b0 && okP T (fun t => c t 1) (fun t => c t 3) (k + 1) (x / T ^ (i - (k + 1)))) = false → w_X10_layRows_193 Po K2 K4 (nI i) a2 (nI (T ^ i)) (nI x) (nI (cd T 10 (fun t => c t 0) k (x / T ^ (i - k)))) (nI (cd T 10 (fun t => c t 2) k (x / T ^ (i - k)))) (nI k) I3 := by
              intro hf
              unfold w_X10_layRows_193
              have := nx false hf.symm
              rw [if_neg (by decide)] at this
              exact this
            have n189 : (b0 && okP T (fun t => c t 1) (fun t => c t 3) (k + 1) (x / T ^ (i - (k + 1)))) = true → w_X10_layRows_189 Po K2 K4 (nI i) a2 (nI (T ^ i)) (nI x) (nI (cd T 10 (fun t => c t 0) k (x / T ^ (i - k)))) (nI (cd T 10 (fun t => c t 2) k (x / T ^ (i - k)))) (nI k) I3 := by
              intro hf
              unfold w_X10_layRows_189
              have := nx true hf.symm
              rw [if_pos rfl] at this
              exact this
            refine ⟨fun q => n193 ?_, fun q => ?_⟩
            · have hno : ¬ (b0 && okP T (fun t => c t 1) (fun t => c t 3) k (x / T ^ (i - k))) = true := fun z => by rw [if_pos z] at q; exact absurd q (by decide)
              rw [okS, ← Bool.and_assoc, show (b0 && okP T (fun t => c t 1) (fun t => c t 3) k (x / T ^ (i - k))) = false by cases e : (b0 && okP T (fun t => c t 1) (fun t => c t 3) k (x / T ^ (i - k))) with | false => rfl | true => exact absurd e hno, Bool.false_and]
            · have hyes : (b0 && okP T (fun t => c t 1) (fun t => c t 3) k (x / T ^ (i - k))) = true := Classical.byContradiction fun z => q (by rw [if_neg z])
              have hS : (b0 && okP T (fun t => c t 1) (fun t => c t 3) (k + 1) (x / T ^ (i - (k + 1)))) = (decide (k = 0) || decide (c (x / T ^ (i - k) % T) 1 = c (x / T ^ (i - 1 - k) % T) 3)) := by
                rw [okS, ← Bool.and_assoc, hyes, Bool.true_and]
              refine ⟨fun q2 => n189 ?_, fun q2 => ?_⟩
              · have : k = 0 := (nI_eq (b := 0) (by omega) (by decide)).mp q2
                rw [hS, decide_eq_true this, Bool.true_or]
              · have hk0 : k ≠ 0 := fun z => q2 (by rw [z]; rfl)
                have e2k : i - 1 - (k - 1) = i - k := by omega
                have hck1 := chT (k - 1)
                rw [e2k] at hck1
                have c1 := ch (k - 1) (by omega)
                rw [e2k] at c1
                have ed1 := edge (k - 1) 1 (by omega) (by decide)
                rw [e2k] at ed1
                rw [i_1, pk_sub (by omega), nI_clamp (n := k - 1) (by omega), nI_clamp (n := k) (by omega), c1, ch k hz4, i_4, pk_mul, pk_mul, nI_add, i_3, nI_add, nI_clamp (by omega), nI_clamp (by omega), ed1, edge k 3 hz4 (by decide)]
                have b1 := (hc _ hck1 1 (by decide)).1
                have b3 := (hc _ hck 3 (by decide)).1
                refine ⟨vp_in_nI (by omega) (by decide), vp_in_nI (by omega) (by decide), vp_in_nI (by omega) (by decide), vp_in_nI (by omega) (by decide), fun q3 => n193 ?_, fun q3 => n189 ?_⟩
                · rw [hS, decide_eq_false hk0, Bool.false_or, decide_eq_false (fun z => q3 (by rw [z]))]
                · rw [hS, decide_eq_false hk0, Bool.false_or, decide_eq_true ((nI_eq (by omega) (by omega)).mp q3)]
        have go120 : (!cl || decide (c (x % T) 1 = c (x / T ^ (i - 1) % T) 3)) = true → w_X10_layRows_120 Po K2 (nI i) a2 (nI (T ^ i)) (nI x) I3 := by
          intro hb
          unfold w_X10_layRows_120
          have := go true hb.symm
          rw [if_pos rfl] at this
          exact this
        refine ⟨fun q => go120 ?_, fun q => ?_⟩
        · rw [hcl.mp q]; rfl
        · have ecl : cl = true := by
            cases e : cl with
            | true => rfl
            | false => exact absurd (hcl.mpr e) q
          have c1 := ch (i - 1) (by omega)
          rw [show i - 1 - (i - 1) = 0 by omega, Nat.pow_zero, Nat.div_one] at c1
          have c0 := ch 0 (by omega)
          rw [show i - 1 - 0 = i - 1 by omega] at c0
          have ed1 := edge (i - 1) 1 (by omega) (by decide)
          rw [show i - 1 - (i - 1) = 0 by omega, Nat.pow_zero, Nat.div_one] at ed1
          have ed0 := edge 0 3 (by omega) (by decide)
          rw [show i - 1 - 0 = i - 1 by omega] at ed0
          have l1 : x % T < T := Nat.mod_lt _ hT0
          have l0 : x / T ^ (i - 1) % T < T := Nat.mod_lt _ hT0
          have b1 := (hc _ l1 1 (by decide)).1
          have b3 := (hc _ l0 3 (by decide)).1
          rw [i_1, pk_sub (by omega), nI_clamp (n := i - 1) (by omega), c1, show ((0 : Int32)).toNatClampNeg = 0 from rfl, c0, i_4, pk_mul, pk_mul, nI_add, i_3, nI_add, nI_clamp (by omega), nI_clamp (by omega), ed1, ed0]
          refine ⟨vp_in_nI (by omega) (by decide), vp_in_nI (by omega) (by decide), vp_in_nI (n := 0) (by omega) (by decide), vp_in_nI (by omega) (by decide), fun q3 => ?_, fun q3 => go120 ?_⟩
          · have := go false (by rw [ecl, decide_eq_false (fun z => q3 (by rw [z]))]; rfl)
            rw [if_neg (by decide)] at this
            exact this
          · rw [ecl, decide_eq_true ((nI_eq (by omega) (by omega)).mp q3)]; rfl
      | succ q =>
        rw [pk_m1]
        have hneg : ¬ nI q < 0 := fun z => absurd ((nI_ltI (b := 0) (by omega) (by decide)).mp z) (by omega)
        refine ⟨fun z => absurd z hneg, fun _ => ?_⟩
        have hxl : x / T ^ (i - (q + 1)) < 4096 := Nat.lt_of_le_of_lt (Nat.div_le_self _ _) (by omega)
        rw [f0, nI_clamp (n := q) (by omega), pk_rem (by omega) hT0 (by omega)]
        refine ⟨nI_ne0 hT0 (by omega), vp_in_nI (by omega) (by decide), ?_⟩
        intro I38 e38
        have f38 : I38 200 0 = nI T := by rw [e38, gup_o (by decide)]; exact f0
        rw [f38, pk_div (by omega) hT0 (by omega)]
        refine ⟨nI_ne0 hT0 (by omega), ?_⟩
        intro n40 e40 n41 e41
        refine kk3 q _ _ _ (by omega) ⟨by omega, ?_, e41, by rw [e38]; exact gSm_u o1 (by decide), fun k h1 h2 => ?_⟩
        · rw [e40, Nat.div_div_eq_div_mul, ← Nat.pow_succ, show (i - (q + 1)).succ = i - q by omega]
        · by_cases e : k = q
          · subst e
            rw [e38, gup_at, show i - (k + 1) = i - 1 - k by omega]
          · rw [e38, gup_ne e]; exact o2 k (by omega) h2
  · have hTi := hTj i (by omega)
    rw [q1 0 (by decide), e200, pk_mul, nI_1, ← Nat.pow_succ]
    intro n42 e42 n43 e43
    subst e42 e43
    exact kk hz _ rfl
