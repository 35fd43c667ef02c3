/-! rowsOf: the RowGraph is made, or made anew when the rows want more room -/
def RGi (r : Bool) (room p : Nat) (I : gI) (J : gL) : Prop := (r = false → p = 0) ∧ (r = true → p = room ∧ (∃ k, k ≤ 6 ∧ room = 64 * 2 ^ k) ∧ I 70 0 = nI room ∧ ∃ Fs, Tls room Fs I J)
def nxR (p X : Nat) : Nat := if p ≠ 0 ∧ X ≤ p then p else rmF X
theorem pw64 {k : Nat} (hk : k ≤ 6) : 64 ≤ 64 * 2 ^ k ∧ 64 * 2 ^ k ≤ 4096 := by
  have h1 : 2 ^ k ≤ 2 ^ 6 := Nat.pow_le_pow_right (by decide) hk
  have h2 : 0 < 2 ^ k := Nat.pow_pos (by decide)
  omega
/-- a room: none yet, or a power of two -/
def rmP (p : Nat) : Prop := p = 0 ∨ ∃ k, k ≤ 6 ∧ p = 64 * 2 ^ k
theorem RGi_p {r : Bool} {room p : Nat} {I : gI} {J : gL} (h : RGi r room p I J) : rmP p := by
  cases r with
  | false => exact Or.inl (h.1 rfl)
  | true => obtain ⟨e, q, _⟩ := h.2 rfl; rw [e]; exact Or.inr q
theorem rmP_4 {p : Nat} (h : rmP p) : p ≤ 4096 := by
  rcases h with h | ⟨k, hk, h⟩
  · omega
  · have := pw64 hk; omega
theorem nxR_p {p X : Nat} (h : rmP p) : rmP (nxR p X) := by
  unfold nxR
  split
  · exact h
  · exact Or.inr (rmF_b X).2.2
theorem nxR_le {p X : Nat} (h : rmP p) (hX : X ≤ 4096) : p ≤ nxR p X ∧ X ≤ nxR p X ∧ nxR p X ≤ 4096 := by
  unfold nxR
  by_cases c : p ≠ 0 ∧ X ≤ p
  · rw [if_pos c]; exact ⟨Nat.le_refl _, c.2, rmP_4 h⟩
  · rw [if_neg c]
    have h1 := rmF_b X
    have h2 := rmF_x hX
    refine ⟨?_, h2, h1.2.1⟩
    rcases h with h | ⟨k, hk, h⟩
    · omega
    · have := pw64 hk
      have := rmF_2 hk hX (by omega)
      omega
/-- what a new one costs -/
theorem nxR_cost {p X : Nat} (h : rmP p) (hX : X ≤ 4096) (hc : ¬ (p ≠ 0 ∧ X ≤ p)) : nxR p X = rmF X ∧ 24 ≤ nxR p X - p ∧ 15 * rmF X + 46 ≤ 32 * (nxR p X - p) := by
  have e : nxR p X = rmF X := by unfold nxR; rw [if_neg hc]
  rw [e]
  have h1 := rmF_b X
  refine ⟨rfl, ?_⟩
  rcases h with h | ⟨k, hk, h⟩
  · omega
  · have := pw64 hk
    have := rmF_2 hk hX (by omega)
    omega
theorem tk4 : tk 4 = [82, 86, 90, 83, 87, 91, 84, 88, 92, 85, 89, 93] := rfl
section
variable {v1 v2 : Nat} {r cv gr cl : Bool} {room mc ms p T w : Nat} {c : Nat → Nat → Nat} {V : gV} {I : gI} {J : gL}
theorem p_rowsOf (hW : gWl v1 v2 r cv gr room V) (hG : RGi r room p I J) (hR : RelT T c I) (hw1 : 1 ≤ w) (hw4 : w ≤ 4) {a2 : Int32} (ha : a2 = 0 ∨ a2 = 1) (hcl : a2 = 0 ↔ cl = false) (hc : nxR p (T ^ w) - p ≤ mc) (hs : 32 * (nxR p (T ^ w) - p) ≤ ms) {Po : Nat → gV → gI → gL → Prop}
    (hPo : ∀ (V' : gV) (I' : gI) (J' : gL) (D : Nat) (dig : Nat → Nat), gWl v1 v2 true cv gr (nxR p (T ^ w)) V' → gSm lRG I I' → gJm lRG J J' → RGi true (nxR p (T ^ w)) (nxR p (T ^ w)) I' J' → Bla (nxR p (T ^ w)) (T ^ w) (D ^ w) w cl (okJ T w c cl w) (allP T (hasN T c) w) (cd T D (fun t => dig (c t 0)) w) (cd T D (fun t => dig (c t 2)) w) (cd T 8 (fun t => t) w) I' → (∀ t, t < T → dig (c t 2) < D) → (∀ t t', t < T → t' < T → dig (c t 2) = dig (c t' 2) → c t 2 = c t' 2) → RelT T c I' → Po (V'.2.1 70) V' I' J') : wA_X9_rowsOf mc ms v1 (nI w) a2 V I J Po := by
  have hX := gWl_x hW
  obtain ⟨w1, w2, w3, wT, wTS, wJG, wBL, wCO, wM, wr, wr', wc, wc', wg, wg'⟩ := id hW
  have hT8 := hR.1
  have hTw : T ^ w ≤ 8 ^ w := Nat.pow_le_pow_left hT8 w
  have h8w := pw8 w hw4
  have hX4 : T ^ w ≤ 4096 := by omega
  have hp := RGi_p hG
  obtain ⟨z1, z2, z3⟩ := nxR_le hp hX4
  have last : ∀ (V3 : gV) (c3 s3 : Nat) (I3 : gI) (J3 : gL), gWl v1 v2 true cv gr (nxR p (T ^ w)) V3 → gSm lRG I I3 → gJm lRG J J3 → RGi true (nxR p (T ^ w)) (nxR p (T ^ w)) I3 J3 → wA_X9_rowsOf_46 mc ms Po v1 (nI w) a2 V3 c3 s3 I3 J3 := by
    intro V3 c3 s3 I3 J3 h3 k1 k2 k3
    obtain ⟨x1, x2, x3, xT, xTS, xJG, xBL, xCO, xM, xr, xr', xc, xc', xg, xg'⟩ := id h3
    obtain ⟨_, kk, k70, Fs, kT⟩ := k3.2 rfl
    have rT : ∀ I' : gI, gSm lRG I I' → RelT T c I' := fun I' g => by
      obtain ⟨q1, q2, q3, q4⟩ := hR
      refine ⟨q1, by rw [g 10 (by decide)]; exact q2, by rw [g 200 (by decide)]; exact q3, fun j hj d hd => ?_⟩
      rw [g 201 (by decide), g (11 + d) (by simp only [List.mem_cons, List.not_mem_nil, or_false]; omega)]
      exact q4 j hj d hd
    unfold wA_X9_rowsOf_46
    refine ⟨_, V3.2.1 70, xT.1, x2, xT.2, rfl, nxR p (T ^ w), xTS, xr rfl, rfl, ?_⟩
    refine p_build (cl := cl) hT8 hw1 hw4 z2 (by omega) (rT I3 k1) k70 ha hcl (fun I4 dig D g1 hB => ⟨_, V3.2.1 70, xT.1, x2, xT.2, rfl, ?_⟩)
    have g1' : gSm lRG I3 I4 := gSm_w g1 (by decide)
    refine hPo V3 I4 J3 D dig h3 (gSm_t k1 g1') k2 ⟨fun e => absurd e (by decide), fun _ => ⟨rfl, kk, hB.2.2.1, Fs, fun d hd => Tl_k (kT d hd) ?_ ?_ rfl⟩⟩ ⟨T, D, c, dig, rfl, rfl, rfl, rfl, rfl, rfl, rfl, hT8, hw1, hw4, z2, by omega, hB⟩ hB.1.2.1 hB.1.2.2 (rT I4 (gSm_t k1 g1'))
    · rw [g1 (82 + d) (by simp only [List.mem_cons, List.not_mem_nil, or_false]; omega)]
    · rw [g1 (90 + d) (by simp only [List.mem_cons, List.not_mem_nil, or_false]; omega)]
  have make : ¬ (p ≠ 0 ∧ T ^ w ≤ p) → wA_X9_rowsOf_30 mc ms Po v1 (nI w) a2 (nI (T ^ w)) V 0 0 I J := by
    intro hn
    obtain ⟨e1, e2, e3⟩ := nxR_cost hp hX4 hn
    unfold wA_X9_rowsOf_30
    have mF : ∀ k, k ∈ V.1.filter (fun k => decide (k < 70 ∨ 93 < k)) ↔ k ∈ V.1 ∧ (k < 70 ∨ 93 < k) := fun k => by rw [List.mem_filter, decide_eq_true_eq]
    refine ⟨(V.1.filter (fun k => decide (k < 70 ∨ 93 < k)), V.2), ⟨List.Pairwise.filter _ w1, fun k hk => ((mF k).mp hk).1, rfl⟩, fun h => by have := ((mF 70).mp h).2; omega, by omega, by omega, ?_⟩
    intro b26 V25 e25 I27 J28 e27 e28
    have B0 : Bt (V.1.filter (fun k => decide (k < 70 ∨ 93 < k)), V.2) [(70, b26, .inl (5, [.inl 0, .inr none, .inr none, .inr none, .inr none, .inr none, .inr none, .inr none, .inr none, .inl 0, .inl 0, .inl 0, .inl 0, .inl 0]))] V25 := by
      rw [e25]
      exact Bt_add (ds := []) ⟨by simp, fun q hq => absurd hq (by simp), fun _ _ => ⟨rfl, rfl⟩⟩ (by simp)
    have f0 := B0.2.2 0 (by simp)
    refine ⟨_, V.2.1 10, by rw [B0.1]; exact List.mem_append_left _ ((mF 0).mpr ⟨wT.1, by omega⟩), f0.1.trans w2, f0.2.trans wT.2, rfl, 23, 15 * rmF (T ^ w) + 32, by omega, by omega, ?_⟩
    refine s_X5_init hX4 (Nat.le_refl _) (Nat.le_refl _) B0 rfl (fun k h1 h2 h => by have := ((mF k).mp h).2; omega) (fun V39 I40 J41 m39 mRG a70 fr sI sJ i70 tls => ?_)
    have fr0 := fr 0 (by omega)
    have m0 : 0 ∈ V39.1 := by rw [m39]; exact List.mem_append_left _ ((mF 0).mpr ⟨wT.1, by omega⟩)
    refine ⟨_, m0, fr0.1.trans w2, fr0.2.trans wT.2, Nat.le_of_ble_eq_true rfl, ?_⟩
    intro V47 e47
    have v471 : V47.1 = V39.1 := by rw [e47]; rfl
    have v472 : ∀ k, V47.2.1 k = V39.2.1 k := fun k => by rw [e47]; rfl
    have ad : ∀ k, k < 70 ∨ 93 < k → V47.2.1 k = V.2.1 k := fun k hk => by rw [v472]; exact (fr k hk).1
    have ds : ∀ k, k < 70 ∨ 93 < k → k ≠ 0 → V47.2.2 k = V.2.2 k := fun k hk h0 => by rw [e47, gde_o h0]; exact (fr k hk).2
    have inV : ∀ k, k ∈ V47.1 → k ∈ V.1 ∨ (70 ≤ k ∧ k ≤ 93) := fun k hk => by
      rw [v471, m39, List.mem_append] at hk
      rcases hk with h | h
      · exact Or.inl ((mF k).mp h).1
      · rw [tk4] at h
        simp only [List.cons_append, List.nil_append, List.mem_cons, List.not_mem_nil, or_false] at h
        exact Or.inr (by omega)
    have st : ∀ k, k ∈ V.1 → k ≠ 0 → (k < 70 ∨ 93 < k) → gSt k V V47 := fun k hm h0 hk => ⟨by rw [v471, m39]; exact List.mem_append_left _ ((mF k).mpr ⟨hm, hk⟩), ad k hk, ds k hk h0⟩
    have stS : ∀ {S : List Nat}, (∀ k, k ∈ S → k ∈ V.1) → (∀ k, k ∈ S → k ≠ 0 ∧ (k < 70 ∨ 93 < k)) → ∀ k, k ∈ S → gSt k V V47 := fun hS h k hk => st k (hS k hk) (h k hk).1 (h k hk).2
    have a20 := ad 20 (by omega)
    have a40 := ad 40 (by omega)
    have s0 : gSm lRG I I40 := fun k hk => by
      rw [sI k hk, e27, guc_o (fun e => hk (by rw [e]; decide))]
    have j0 : gJm lRG J J41 := fun k hk => by
      rw [sJ k hk, e28, guc_o (fun e => hk (by rw [e]; decide))]
    refine last V47 _ _ I40 J41 ?_ s0 j0 ⟨fun e => absurd e (by decide), fun _ => ⟨rfl, by rw [e1]; exact (rmF_b _).2.2, by rw [e1]; exact i70, _, by rw [e1]; exact tls⟩⟩
    rw [e1]
    refine ⟨?_, by rw [ad 0 (by omega)]; exact w2, by rw [ad 200 (by omega)]; exact w3, ?_, kp_TS wTS (stS (mem_TS wTS) (fun k hk => by simp only [List.mem_cons, List.not_mem_nil, or_false] at hk; omega)), kp_JG wJG (stS (mem_JG wJG) (fun k hk => by simp only [List.mem_cons, List.not_mem_nil, or_false] at hk; omega)), kp_BL wBL (stS (mem_BL wBL) (fun k hk => by simp only [List.mem_cons, List.not_mem_nil, or_false] at hk; omega)), kp_CO wCO (stS (mem_CO wCO) (fun k hk => by simp only [List.mem_cons, List.not_mem_nil, or_false] at hk; omega)), kp_M wM (stS (mem_M wM) (fun k hk => by simp only [List.mem_cons, List.not_mem_nil, or_false] at hk; omega)), fun _ => ?_, fun e => absurd e (by decide), fun e => kp_CV (wc e) (stS (mem_CV (wc e)) (fun k hk => by simp only [List.mem_cons, List.not_mem_nil, or_false] at hk; omega)) a20, fun e k h1 h2 h => ?_, fun e => kp_GR (wg e) (stS (mem_GR (wg e)) (fun k hk => by simp only [List.mem_cons, List.not_mem_nil, or_false] at hk; omega)) a40, fun e k h1 h2 h => ?_⟩
    · rw [v471, m39]
      refine List.nodup_append.mpr ⟨List.Pairwise.filter _ w1, by rw [tk4]; decide, fun a h1 b h2 e => ?_⟩
      have := ((mF a).mp h1).2
      rw [tk4] at h2
      simp only [List.cons_append, List.nil_append, List.mem_cons, List.not_mem_nil, or_false] at h2
      omega
    · refine ⟨by rw [v471]; exact m0, ?_⟩
      have d0 : V47.2.2 0 = .inl (9, ([.inr (some (V.2.1 10)), .inr (some (V.2.1 20)), .inr (some (V.2.1 40)), .inr (some (V.2.1 60)), .inr (if r then some (V.2.1 70) else none), .inr (if cv then some (V.2.1 94) else none), .inr (if gr then some (V.2.1 99) else none)] : List (Nat ⊕ Option Nat)).set 4 (.inr (some b26))) := by
        rw [e47]; simp [gde, va_up]
      rw [d0, ad 10 (by omega), a20, a40, ad 60 (by omega), ad 94 (by omega), ad 99 (by omega), v472 70, a70]
      rfl
    · refine kp_RG mRG (fun k hk => ⟨by rw [v471]; exact mem_RG mRG k hk, v472 k, by rw [e47]; exact gde_o (fun e => by rw [e] at hk; revert hk; decide)⟩) (v472 10)
    · rcases inV k h with q | q
      · exact wc' e k h1 h2 q
      · omega
    · rcases inV k h with q | q
      · exact wg' e k h1 h2 q
      · omega
  unfold wA_X9_rowsOf
  have c10 := c_10 wTS
  refine ⟨_, V.2.1 10, wT.1, w2, wT.2, rfl, _, c10.1, rfl, c10.2, rfl, ?_⟩
  rw [hR.2.1]
  refine p_power (by omega) ?_
  refine ⟨_, (if r then some (V.2.1 70) else none), wT.1, w2, wT.2, rfl, fun e => ?_, fun b18 e => ?_⟩
  · cases r with
    | true => cases e
    | false => exact make (fun z => z.1 (hG.1 rfl))
  · cases r with
    | false => cases e
    | true =>
      obtain ⟨g1, ⟨k, g2, g2'⟩, g3, g4⟩ := hG.2 rfl
      have b64 := pw64 g2
      have c70 := c_70 (wr rfl)
      refine ⟨_, V.2.1 70, wT.1, w2, wT.2, rfl, _, c70.1, rfl, c70.2, rfl, ?_⟩
      refine pk_le (T ^ w) room (fun hz => ?_) (fun hz => ?_) rfl g3
      · have e : nxR p (T ^ w) = p := by unfold nxR; rw [if_pos ⟨by omega, by omega⟩]
        refine last V 0 0 I J ?_ (gSm_r _) (gJm_r _) ?_
        · rw [e, g1]; exact hW
        · rw [e, g1]; exact ⟨fun q => absurd q (by decide), fun _ => ⟨rfl, ⟨k, g2, g2'⟩, g3, g4⟩⟩
      · exact make (fun z => by omega)
end
