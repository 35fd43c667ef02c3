/-! numbers: Int32 as natural numbers -/
theorem i_0 : (0 : Int32) = nI 0 := rfl
theorem i_1 : (1 : Int32) = nI 1 := rfl
theorem i_2 : (2 : Int32) = nI 2 := rfl
theorem i_3 : (3 : Int32) = nI 3 := rfl
theorem i_4 : (4 : Int32) = nI 4 := rfl
theorem i_5 : (5 : Int32) = nI 5 := rfl
theorem i_6 : (6 : Int32) = nI 6 := rfl
theorem i_7 : (7 : Int32) = nI 7 := rfl
theorem i_8 : (8 : Int32) = nI 8 := rfl
theorem i_9 : (9 : Int32) = nI 9 := rfl
theorem i_10 : (10 : Int32) = nI 10 := rfl
theorem i_11 : (11 : Int32) = nI 11 := rfl
theorem i_12 : (12 : Int32) = nI 12 := rfl
theorem i_13 : (13 : Int32) = nI 13 := rfl
theorem i_14 : (14 : Int32) = nI 14 := rfl
theorem i_15 : (15 : Int32) = nI 15 := rfl
theorem i_16 : (16 : Int32) = nI 16 := rfl
theorem i_17 : (17 : Int32) = nI 17 := rfl
theorem i_18 : (18 : Int32) = nI 18 := rfl
theorem i_19 : (19 : Int32) = nI 19 := rfl
theorem i_20 : (20 : Int32) = nI 20 := rfl
theorem i_21 : (21 : Int32) = nI 21 := rfl
theorem i_22 : (22 : Int32) = nI 22 := rfl
theorem i_23 : (23 : Int32) = nI 23 := rfl
theorem i_24 : (24 : Int32) = nI 24 := rfl
theorem i_25 : (25 : Int32) = nI 25 := rfl
theorem i_26 : (26 : Int32) = nI 26 := rfl
theorem i_27 : (27 : Int32) = nI 27 := rfl
theorem i_28 : (28 : Int32) = nI 28 := rfl
theorem i_29 : (29 : Int32) = nI 29 := rfl
theorem i_30 : (30 : Int32) = nI 30 := rfl
theorem i_31 : (31 : Int32) = nI 31 := rfl
theorem i_32 : (32 : Int32) = nI 32 := rfl
theorem i_33 : (33 : Int32) = nI 33 := rfl
theorem i_34 : (34 : Int32) = nI 34 := rfl
theorem i_35 : (35 : Int32) = nI 35 := rfl
theorem i_36 : (36 : Int32) = nI 36 := rfl
theorem i_37 : (37 : Int32) = nI 37 := rfl
theorem i_38 : (38 : Int32) = nI 38 := rfl
theorem i_39 : (39 : Int32) = nI 39 := rfl
theorem i_40 : (40 : Int32) = nI 40 := rfl
theorem i_42 : (42 : Int32) = nI 42 := rfl
theorem i_54 : (54 : Int32) = nI 54 := rfl
theorem i_60 : (60 : Int32) = nI 60 := rfl
theorem i_63 : (63 : Int32) = nI 63 := rfl
theorem i_64 : (64 : Int32) = nI 64 := rfl
theorem i_78 : (78 : Int32) = nI 78 := rfl
theorem i_90 : (90 : Int32) = nI 90 := rfl
theorem i_100 : (100 : Int32) = nI 100 := rfl
theorem i_200 : (200 : Int32) = nI 200 := rfl
theorem i_216 : (216 : Int32) = nI 216 := rfl
theorem i_512 : (512 : Int32) = nI 512 := rfl
theorem i_1200 : (1200 : Int32) = nI 1200 := rfl
theorem i_1296 : (1296 : Int32) = nI 1296 := rfl
theorem i_4096 : (4096 : Int32) = nI 4096 := rfl
theorem i_10000 : (10000 : Int32) = nI 10000 := rfl
theorem i_33554431 : (33554431 : Int32) = nI 33554431 := rfl
def inR (a lo hi : Int32) : Prop := lo ≤ a ∧ a ≤ hi
theorem nI_cases {P : Int32 → Prop} {a : Int32} (h : ∀ n : Nat, n < 2147483648 → a = nI n → P a) (hneg : a < 0 → P a) : P a := by
  by_cases c : a < 0
  · exact hneg c
  · obtain ⟨j, hj, rfl⟩ := nI_of c
    exact h j hj rfl
theorem inR_nI {a : Int32} {lo hi : Nat} (hlo : lo < 2147483648) (hhi : hi < 2147483648) (h : inR a (nI lo) (nI hi)) : ∃ n : Nat, lo ≤ n ∧ n ≤ hi ∧ a = nI n := by
  have h0 : ¬ a < 0 := by
    intro c
    have h1 := h.1
    rw [Int32.le_iff_toInt_le] at h1
    rw [Int32.lt_iff_toInt_lt] at c
    rw [nI_toInt hlo] at h1
    have h2 : (0 : Int32).toInt = 0 := rfl
    omega
  obtain ⟨n, hn, rfl⟩ := nI_of h0
  exact ⟨n, (nI_leI hlo hn).mp h.1, (nI_leI hn hhi).mp h.2, rfl⟩
theorem inR_of {n lo hi : Nat} (hhi : hi < 2147483648) (h1 : lo ≤ n) (h2 : n ≤ hi) : inR (nI n) (nI lo) (nI hi) := ⟨(nI_leI (by omega) (by omega)).mpr h1, (nI_leI (by omega) (by omega)).mpr h2⟩
theorem i32_lt_le {a b : Int32} : ¬ a < b ↔ b ≤ a := by
  rw [Int32.lt_iff_toInt_lt, Int32.le_iff_toInt_le]; omega
theorem i32_le_lt {a b : Int32} : ¬ a ≤ b ↔ b < a := by
  rw [Int32.lt_iff_toInt_lt, Int32.le_iff_toInt_le]; omega
theorem p_isIn {a lo hi : Int32} {Po : Int32 → Prop} (h1 : inR a lo hi → Po 1) (h0 : ¬ inR a lo hi → Po 0) : wp_X10_isIn a lo hi Po := by
  unfold wp_X10_isIn
  refine ⟨fun c => h0 (fun q => absurd q.1 (i32_le_lt.mpr c)), fun c => ⟨fun d => h0 (fun q => absurd q.2 (i32_le_lt.mpr d)), fun d => h1 ⟨i32_lt_le.mp c, i32_lt_le.mp d⟩⟩⟩
theorem p_isBetween {a lo hi : Int32} {Po : Int32 → Prop} (h1 : inR a lo hi → Po 1) (h0 : ¬ inR a lo hi → Po 0) : wp_X9_isBetween a lo hi Po := by
  unfold wp_X9_isBetween
  refine ⟨fun c => h0 (fun q => absurd q.1 (i32_le_lt.mpr c)), fun c => ⟨fun d => h0 (fun q => absurd q.2 (i32_le_lt.mpr d)), fun d => h1 ⟨i32_lt_le.mp c, i32_lt_le.mp d⟩⟩⟩
theorem one_ne : ¬ (1 : Int32) = 0 := by decide
