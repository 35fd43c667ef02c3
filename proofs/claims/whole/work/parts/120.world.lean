/-! THE LAW: what holds between two calls -/
def LwT (I : gI) : Prop := ∃ (T : Nat) (c : Nat → Nat → Nat), RelT T c I
def LwL (I : gI) : Prop := ∃ (n a : Nat) (bl : Nat → Nat → Nat), RelL n a bl I
def LwC (I : gI) : Prop := ∃ (n : Nat) (sz : Nat → Nat) (t : Nat), RelC n sz t I
def LwP (cv : Bool) (k : Nat) (I : gI) (J : gL) : Prop := ∃ (n : Nat) (pc : Nat → Nat) (w h hs : Nat) (tu mi : Int32) (ver lv : Nat) (L : Nat → Nat → List Nat), RelP n pc w h hs tu mi ver lv I ∧ 1 ≤ ver ∧ ver ≤ k ∧ (lv = ver → Lst n pc w h hs tu mi L I) ∧ (cv = true → (lv = ver → tbO ver (w * h) n (fun s => elP L s n) J) ∧ (lv ≠ ver → tOld ver J))
def LwB (cv : Bool) (k p c s : Nat) : Prop := c ≤ 100 + p + (if cv = true then 5 else 0) + 3 * k ∧ s ≤ 3300000 + 32 * p + (if cv = true then 32906 else 0) + 48 * k
def LwI (v1 v2 k : Nat) (V : gV) (c s : Nat) (I : gI) (J : gL) : Prop := ∃ (r cv gr : Bool) (room p : Nat), gWl v1 v2 r cv gr room V ∧ RGi r room p I J ∧ LwT I ∧ LwL I ∧ LwC I ∧ LwP cv k I J ∧ LwB cv k p c s
def LwN (v1 v2 k : Nat) (v3 : Int32) (K : Int32 → gV → Nat → Nat → gI → gL → Prop) : Prop := ∀ (V : gV) (c s : Nat) (I : gI) (J : gL), LwI v1 v2 (k + 1) V c s I J → K (v3 + 6) V c s I J
def LwV (v3 : Int32) (L : Nat) : Prop := vp_in (v3 + (1 : Int32)) L ∧ vp_in (v3 + (2 : Int32)) L ∧ vp_in (v3 + (3 : Int32)) L ∧ vp_in (v3 + (4 : Int32)) L ∧ vp_in (v3 + (5 : Int32)) L
theorem lw_eq {α : Type} {P : Prop} {x : α} (h : P) : (x = x → P) ∧ (¬ x = x → False) := ⟨fun _ => h, fun n => n rfl⟩
theorem lw_cmp {P : Prop} {x : Int64} (h : P) : (lg_cmp x x = 0 → P) ∧ (¬ lg_cmp x x = 0 → False) := ⟨fun _ => h, fun n => n ((lg_cmp_eq x x).mpr rfl)⟩
theorem lw_b0 {p X Y : Prop} (h : p) : ((p → X) ∧ (¬ p → Y)) = X := propext ⟨fun t => t.1 h, fun t => ⟨fun _ => t, fun n => absurd h n⟩⟩
theorem lw_b1 {p X Y : Prop} (h : ¬ p) : ((p → X) ∧ (¬ p → Y)) = Y := propext ⟨fun t => t.2 h, fun t => ⟨fun n => absurd n h, fun _ => t⟩⟩
theorem lw_nx {L : Nat} {xs : Nat → Int32} {K : Int32 → gV → Nat → Nat → gI → gL → Prop} {v1 v2 k : Nat} {v3 : Int32} {V : gV} {c s : Nat} {I : gI} {J : gL} (hK : LwN v1 v2 k v3 K) (h : LwI v1 v2 (k + 1) V c s I J) : wA_L_law_1128 L xs () K v1 v2 v3 V c s I J := by
  unfold wA_L_law_1128
  intro n e
  subst e
  exact hK V c s I J h
theorem LwP_up {cv : Bool} {k : Nat} {I : gI} {J : gL} (h : LwP cv k I J) : LwP cv (k + 1) I J := by
  obtain ⟨n, pc, w, h', hs, tu, mi, ver, lv, L, q1, q2, q3, q4⟩ := h
  exact ⟨n, pc, w, h', hs, tu, mi, ver, lv, L, q1, q2, by omega, q4⟩
theorem LwB_b {cv : Bool} {k p c s : Nat} (h : LwB cv k p c s) (hp : p ≤ 4096) (hk : k ≤ 600) : c ≤ 7000 ∧ s ≤ 3500000 := by
  obtain ⟨h1, h2⟩ := h
  cases cv <;> simp at h1 h2 <;> constructor <;> omega
theorem LwB_3 {cv : Bool} {k p c s : Nat} (h : LwB cv k p c s) : LwB cv (k + 1) p (c + 3) (s + 48) := by
  obtain ⟨h1, h2⟩ := h
  exact ⟨by omega, by omega⟩
theorem LwB_up {cv : Bool} {k p c s : Nat} (h : LwB cv k p c s) : LwB cv (k + 1) p c s := by
  obtain ⟨h1, h2⟩ := h
  exact ⟨by omega, by omega⟩
theorem LwB_r {cv : Bool} {k p q c s : Nat} (h : LwB cv k p c s) (hq : p ≤ q) : LwB cv (k + 1) q (c + (q - p)) (s + 32 * (q - p)) := by
  obtain ⟨h1, h2⟩ := h
  exact ⟨by omega, by omega⟩
theorem LwB_t {cv : Bool} {k p c s : Nat} (h : LwB cv k p c s) : LwB true (k + 1) p c s := by
  obtain ⟨h1, h2⟩ := h
  cases cv <;> simp at h1 h2 <;> refine ⟨?_, ?_⟩ <;> simp <;> omega
theorem LwB_c {k p c s : Nat} (h : LwB false k p c s) : LwB true (k + 1) p (c + 5) (s + 32906) := by
  obtain ⟨h1, h2⟩ := h
  simp at h1 h2
  refine ⟨?_, ?_⟩ <;> simp <;> omega
theorem kG {r : Bool} {room p : Nat} {I I' : gI} {J J' : gL} {A B : List Nat} (h : RGi r room p I J) (g : gSm A I I') (gj : gJm B J J') (hA : ∀ k ∈ lRG, k ∉ A) (hB : ∀ k ∈ lRG, k ∉ B) : RGi r room p I' J' :=
  RGi_S h g gj (fun k h1 h2 => hA k (by unfold lRG; simp only [List.mem_cons, List.not_mem_nil, or_false]; omega)) (fun k h1 h2 => hB k (by unfold lRG; simp only [List.mem_cons, List.not_mem_nil, or_false]; omega))
theorem kT {I I' : gI} {A S : List Nat} (h : LwT I) (g : gSm A I I') (hm : ∀ j, j ∉ S → I' 200 j = I 200 j) (hA : ∀ k ∈ [10, 11, 12, 13, 14, 201], k ∉ A) (hS : 0 ∉ S) : LwT I' := by
  obtain ⟨T, c, h⟩ := h
  exact ⟨T, c, RelT_S h g (fun k h1 h2 => hA k (by simp only [List.mem_cons, List.not_mem_nil, or_false]; omega)) (hm 0 hS) (hA 201 (by decide))⟩
theorem kL {I I' : gI} {A S : List Nat} (h : LwL I) (g : gSm A I I') (hm : ∀ j, j ∉ S → I' 200 j = I 200 j) (hA : ∀ k ∈ [40, 42, 43, 44, 45, 46, 47, 222], k ∉ A) (hS : ∀ j ∈ [31, 32], j ∉ S) : LwL I' := by
  obtain ⟨n, a, bl, h⟩ := h
  refine ⟨n, a, bl, RelL_sm h (g 40 (hA 40 (by decide))) (fun j hj => hm j (hS j ?_)) (fun l hl => g _ (hA _ ?_)) (g 222 (hA 222 (by decide)))⟩
  · rcases hj with rfl | rfl <;> decide
  · simp only [List.mem_cons, List.not_mem_nil, or_false]; omega
theorem kC {I I' : gI} {A S : List Nat} (h : LwC I) (g : gSm A I I') (hm : ∀ j, j ∉ S → I' 200 j = I 200 j) (hA : ∀ k ∈ [60, 62, 229], k ∉ A) (hS : ∀ j ∈ [40, 41], j ∉ S) : LwC I' := by
  obtain ⟨n, sz, t, hn, c0, k0, t1, t18, ct, kt, hs, hinj, hbit⟩ := h
  refine ⟨n, sz, t, hn, ?_, ?_, t1, t18, ?_, ?_, fun j hj => ?_, hinj, fun s hs => ?_⟩
  · rw [g 60 (hA 60 (by decide))]; exact c0
  · rw [hm 41 (hS 41 (by decide))]; exact k0
  · rw [g 60 (hA 60 (by decide))]; exact ct
  · rw [hm 40 (hS 40 (by decide))]; exact kt
  · rw [g 62 (hA 62 (by decide)), g 229 (hA 229 (by decide))]; exact hs j hj
  · rw [g 60 (hA 60 (by decide))]; exact hbit s hs
theorem RelP_k2 {n : Nat} {pc : Nat → Nat} {w h hs : Nat} {tu mi : Int32} {ver lv : Nat} {I I' : gI} (hR : RelP n pc w h hs tu mi ver lv I) (h20 : I' 20 = I 20) (h21 : I' 21 = I 21) (h200 : ∀ j ∈ [11, 13, 14, 15, 16, 17], I' 200 j = I 200 j) (h210 : I' 210 = I 210) : RelP n pc w h hs tu mi ver lv I' := by
  obtain ⟨a, ⟨b0, b1, b2, b3, b4, b5, b6, b7⟩, ⟨c0, c1, c2, c3, c4, c5⟩, d⟩ := hR
  refine ⟨a, by rw [h20]; exact ⟨b0, b1, b2, b3, b4, b5, b6, b7⟩, ⟨?_, ?_, ?_, ?_, ?_, ?_⟩, fun p hp => ?_⟩
  · rw [h200 11 (by decide)]; exact c0
  · rw [h200 13 (by decide)]; exact c1
  · rw [h200 14 (by decide)]; exact c2
  · rw [h200 15 (by decide)]; exact c3
  · rw [h200 16 (by decide)]; exact c4
  · rw [h200 17 (by decide)]; exact c5
  · rw [h21, h210]; exact d p hp
theorem tbO_k {ver k n : Nat} {EL : Nat → List (Nat × Nat)} {J J' : gL} (h : tbO ver k n EL J) (h1 : J' 95 = J 95) (h2 : J' 96 = J 96) : tbO ver k n EL J' := by
  intro i hi
  rw [h1, h2]
  exact h i hi
theorem tOld_k {ver : Nat} {J J' : gL} (h : tOld ver J) (h1 : J' 95 = J 95) : tOld ver J' := by
  intro i hi
  rw [h1]
  exact h i hi
theorem kP {cv : Bool} {k : Nat} {I I' : gI} {J J' : gL} {A B S : List Nat} (h : LwP cv k I J) (g : gSm A I I') (gj : gJm B J J') (hm : ∀ j, j ∉ S → I' 200 j = I 200 j) (hA : ∀ k ∈ [20, 21, 23, 24, 25, 26, 27, 28, 29, 30, 31, 32, 33, 34, 35, 210], k ∉ A) (hB : ∀ k ∈ [95, 96], k ∉ B) (hS : ∀ j ∈ [11, 13, 14, 15, 16, 17], j ∉ S) : LwP cv (k + 1) I' J' := by
  obtain ⟨n, pc, w, h', hs, tu, mi, ver, lv, L, q1, q2, q3, q4, q5⟩ := h
  have e95 := gj 95 (hB 95 (by decide))
  have e96 := gj 96 (hB 96 (by decide))
  refine ⟨n, pc, w, h', hs, tu, mi, ver, lv, L, RelP_k2 q1 (g 20 (hA 20 (by decide))) (g 21 (hA 21 (by decide))) (fun j hj => hm j (hS j hj)) (g 210 (hA 210 (by decide))), q2, by omega, fun e => ?_, fun e => ⟨fun e2 => tbO_k ((q5 e).1 e2) e95 e96, fun e2 => tOld_k ((q5 e).2 e2) e95⟩⟩
  exact Lst_k (q4 e) q1.1.1 g (fun k h1 h2 => hA k (by simp only [List.mem_cons, List.not_mem_nil, or_false]; omega))
/-- a change of pieces or board: what was listed is old -/
theorem kV {cv : Bool} {k : Nat} {I' : gI} {J : gL} {n : Nat} {w h ver lv : Nat} {L : Nat → Nat → List Nat} {n' : Nat} {pc' : Nat → Nat} {w' h' hs' : Nat} {tu' mi' : Int32} (hlv : lv ≤ ver) (hk : ver ≤ k) (q5 : cv = true → (lv = ver → tbO ver (w * h) n (fun s => elP L s n) J) ∧ (lv ≠ ver → tOld ver J)) (hR : RelP n' pc' w' h' hs' tu' mi' (ver + 1) lv I') : LwP cv (k + 1) I' J := by
  refine ⟨n', pc', w', h', hs', tu', mi', ver + 1, lv, L, hR, by omega, by omega, fun e => absurd e (by omega), fun e => ⟨fun e2 => absurd e2 (by omega), fun _ => ?_⟩⟩
  by_cases e2 : lv = ver
  · exact tO_old ((q5 e).1 e2)
  · exact tOld_up ((q5 e).2 e2)
theorem gM0 {S A : List Nat} {I I' : gI} (g : gSm A I I') (h : 200 ∉ A) : ∀ j, j ∉ S → I' 200 j = I 200 j := fun j _ => by rw [g 200 h]
theorem q_unpieceR {n : Nat} {pc : Nat → Nat} {w h hs : Nat} {tu mi : Int32} {ver lv : Nat} {I : gI} (hR : RelP n pc w h hs tu mi ver lv I) {Po : Int32 → Int32 → gI → Prop} (h0 : Po (-1) (-1) I)
    (hok : ∀ x I', RelP (n - 1) pc w h hs tu mi (ver + 1) lv I' → gSm [20, 200] I I' → (∀ j, j ≠ 11 → I' 200 j = I 200 j) → Po x x I') : wp_X9_unpiece I (fun r I1 => wp_X10_unpiece I1 (fun r2 I2 => Po r r2 I2)) := by
  obtain ⟨⟨a1, a2, a3, a4, a5, a6, a7, a8, a9⟩, ⟨b0, b1, b2, b3, b4, b5, b6, b7⟩, ⟨c0, c1, c2, c3, c4, c5⟩, d⟩ := hR
  refine q_unpiece a1 b0 c0 (fun _ => h0) (fun hn => hok _ _ ?_ ?_ ?_)
  · refine ⟨⟨by omega, a2, a3, a4, a5, a6, a7, a8, by omega⟩, ⟨?_, ?_, ?_, ?_, ?_, ?_, ?_, ?_⟩, ⟨?_, ?_, ?_, ?_, ?_, ?_⟩, fun p hp => ?_⟩
    · rw [gup_o (by decide), gup_ne (by decide), gup_at]
    · rw [gup_o (by decide), gup_ne (by decide), gup_ne (by decide)]; exact b1
    · rw [gup_o (by decide), gup_ne (by decide), gup_ne (by decide)]; exact b2
    · rw [gup_o (by decide), gup_ne (by decide), gup_ne (by decide)]; exact b3
    · rw [gup_o (by decide), gup_at, b4, i_1, nI_add]
    · rw [gup_o (by decide), gup_ne (by decide), gup_ne (by decide)]; exact b5
    · rw [gup_o (by decide), gup_ne (by decide), gup_ne (by decide)]; exact b6
    · rw [gup_o (by decide), gup_ne (by decide), gup_ne (by decide)]; exact b7
    · rw [gup_at]
    · rw [gup_ne (by decide), gup_o (by decide), gup_o (by decide)]; exact c1
    · rw [gup_ne (by decide), gup_o (by decide), gup_o (by decide)]; exact c2
    · rw [gup_ne (by decide), gup_o (by decide), gup_o (by decide)]; exact c3
    · rw [gup_ne (by decide), gup_o (by decide), gup_o (by decide)]; exact c4
    · rw [gup_ne (by decide), gup_o (by decide), gup_o (by decide)]; exact c5
    · rw [gup_o (by decide), gup_o (by decide), gup_o (by decide), gup_o (by decide), gup_o (by decide), gup_o (by decide)]; exact d p (by omega)
  · exact gSm_u (gSm_u (gSm_u (gSm_r I) (by decide)) (by decide)) (by decide)
  · intro j hj
    rw [gup_ne hj, gup_o (by decide), gup_o (by decide)]
theorem q_mayR {n : Nat} {pc : Nat → Nat} {w h hs : Nat} {tu mi : Int32} {ver lv : Nat} {I : gI} (hR : RelP n pc w h hs tu mi ver lv I) {a1 a2 : Int32} (h2 : a2 = 0 ∨ a2 = 1) {Po : Int32 → Int32 → gI → Prop} (h0 : Po (-2) (-2) I)
    (hok : ∀ x tu' mi' I', RelP n pc w h hs tu' mi' (ver + 1) lv I' → gSm [20, 200] I I' → (∀ j, j ≠ 16 → j ≠ 17 → I' 200 j = I 200 j) → Po x x I') : wp_X9_may a1 a2 I (fun r I1 => wp_X10_may a1 a2 I1 (fun r2 I2 => Po r r2 I2)) := by
  obtain ⟨⟨x1, x2, x3, x4, x5, x6, x7, x8, x9⟩, ⟨b0, b1, b2, b3, b4, b5, b6, b7⟩, ⟨c0, c1, c2, c3, c4, c5⟩, d⟩ := hR
  refine q_may h2 (b5.trans c4.symm) (b6.trans c5.symm) (by rw [c4]; exact x7) (by rw [c5]; exact x8) (fun _ => h0) (fun _ I' e1 e2 e3 e4 e5 g => hok _ a2 mi I' ?_ g (fun j h1 _ => e5 j h1)) (fun _ I' e1 e2 e3 e4 e5 g => hok _ tu a2 I' ?_ g (fun j _ h1 => e5 j h1))
  · refine ⟨⟨x1, x2, x3, x4, x5, x6, h2, x8, by omega⟩, ⟨?_, ?_, ?_, ?_, ?_, e1, ?_, ?_⟩, ⟨?_, ?_, ?_, ?_, e2, ?_⟩, fun p hp => ?_⟩
    · rw [e4 0 (by decide) (by decide)]; exact b0
    · rw [e4 1 (by decide) (by decide)]; exact b1
    · rw [e4 2 (by decide) (by decide)]; exact b2
    · rw [e4 3 (by decide) (by decide)]; exact b3
    · rw [e3, b4, i_1, nI_add]
    · rw [e4 6 (by decide) (by decide)]; exact b6
    · rw [e4 7 (by decide) (by decide)]; exact b7
    · rw [e5 11 (by decide)]; exact c0
    · rw [e5 13 (by decide)]; exact c1
    · rw [e5 14 (by decide)]; exact c2
    · rw [e5 15 (by decide)]; exact c3
    · rw [e5 17 (by decide)]; exact c5
    · rw [g 21 (by decide), g 210 (by decide)]; exact d p hp
  · refine ⟨⟨x1, x2, x3, x4, x5, x6, x7, h2, by omega⟩, ⟨?_, ?_, ?_, ?_, ?_, ?_, e1, ?_⟩, ⟨?_, ?_, ?_, ?_, ?_, e2⟩, fun p hp => ?_⟩
    · rw [e4 0 (by decide) (by decide)]; exact b0
    · rw [e4 1 (by decide) (by decide)]; exact b1
    · rw [e4 2 (by decide) (by decide)]; exact b2
    · rw [e4 3 (by decide) (by decide)]; exact b3
    · rw [e3, b4, i_1, nI_add]
    · rw [e4 5 (by decide) (by decide)]; exact b5
    · rw [e4 7 (by decide) (by decide)]; exact b7
    · rw [e5 11 (by decide)]; exact c0
    · rw [e5 13 (by decide)]; exact c1
    · rw [e5 14 (by decide)]; exact c2
    · rw [e5 15 (by decide)]; exact c3
    · rw [e5 16 (by decide)]; exact c4
    · rw [g 21 (by decide), g 210 (by decide)]; exact d p hp
