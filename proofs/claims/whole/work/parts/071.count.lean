/-! how many: cN p n = how many i < n have p; bitCount -/
def cN (p : Nat → Bool) : Nat → Nat
  | 0 => 0
  | n + 1 => cN p n + (if p n then 1 else 0)
theorem cN_congr {p q : Nat → Bool} : ∀ {n : Nat}, (∀ i, i < n → p i = q i) → cN p n = cN q n
  | 0, _ => rfl
  | n + 1, h => by
    unfold cN
    rw [cN_congr (fun i hi => h i (by omega)), h n (by omega)]
theorem cN_le (p : Nat → Bool) : ∀ n, cN p n ≤ n
  | 0 => Nat.le_refl _
  | n + 1 => by
    unfold cN
    have := cN_le p n
    split <;> omega
theorem cN_add (p : Nat → Bool) (m : Nat) : ∀ n, cN p (m + n) = cN p m + cN (fun i => p (m + i)) n
  | 0 => rfl
  | n + 1 => by
    show cN p (m + n) + _ = _
    rw [cN_add p m n]
    exact Nat.add_assoc _ _ _
theorem cN_zero {p : Nat → Bool} : ∀ {n : Nat}, (∀ i, i < n → p i = false) → cN p n = 0
  | 0, _ => rfl
  | n + 1, h => by
    unfold cN
    rw [cN_zero (fun i hi => h i (by omega)), h n (by omega)]
    rfl
theorem cN_set {p q : Nat → Bool} {c : Nat} (hp : p c = false) (hq : q c = true) (ho : ∀ i, i ≠ c → q i = p i) : ∀ {n : Nat}, c < n → cN q n = cN p n + 1
  | 0, h => absurd h (by omega)
  | n + 1, h => by
    unfold cN
    by_cases e : c = n
    · subst e
      rw [hp, hq, cN_congr (fun i hi => ho i (by omega))]
      rfl
    · rw [cN_set hp hq ho (by omega : c < n), ho n (by omega)]
      omega
theorem pc_land {a b c d : Nat} (hb : b < 256) (hd : d < 256) : (256 * a + b) &&& (256 * c + d) = 256 * (a &&& c) + (b &&& d) := by
  have hbd : b &&& d < 2 ^ 8 := Nat.and_lt_two_pow b (show d < 2 ^ 8 from hd)
  apply Nat.eq_of_testBit_eq
  intro i
  rw [Nat.testBit_and]
  have h := fun {x y : Nat} (hy : y < 2 ^ 8) => Nat.testBit_two_pow_mul_add x hy i
  rw [show (256 : Nat) = 2 ^ 8 from rfl, h hb, h hd, h hbd]
  split
  · rw [Nat.testBit_and]
  · rw [Nat.testBit_and]
def pcm (m : Nat) : Nat → Nat
  | 0 => 0
  | n + 1 => 256 * pcm m n + m
def pc1 (n x : Nat) : Nat := x - (x / 2 &&& pcm 85 n)
def pc2 (n x : Nat) : Nat := (x &&& pcm 51 n) + (x / 4 &&& pcm 51 n)
def pc3 (n x : Nat) : Nat := (x + x / 16) &&& pcm 15 n
def ph1 (b : Nat) : Nat := b - (b / 2 &&& 85)
def ph2 (b : Nat) : Nat := (b &&& 51) + (b / 4 &&& 51)
theorem pc_d1 : ∀ t, t < 2 → ∀ b, b < 256 → (128 * t + b / 2) &&& 85 = b / 2 &&& 85 := by decide +kernel
theorem pc_d2 : ∀ t, t < 4 → ∀ b, b < 256 → (64 * t + b / 4) &&& 51 = b / 4 &&& 51 := by decide +kernel
theorem pc_d3 : ∀ b, b < 256 → ph1 b < 256 ∧ ph2 (ph1 b) ≤ 68 ∧ ph2 (ph1 b) % 16 ≤ 4 ∧ (ph2 (ph1 b) + ph2 (ph1 b) / 16) % 16 = cN b.testBit 8 := by decide +kernel
theorem pc_s1 {n a b : Nat} (hb : b < 256) : pc1 (n + 1) (256 * a + b) = 256 * pc1 n a + ph1 b := by
  unfold pc1 ph1
  show (256 * a + b) - ((256 * a + b) / 2 &&& (256 * pcm 85 n + 85)) = _
  rw [show (256 * a + b) / 2 = 256 * (a / 2) + (128 * (a % 2) + b / 2) by omega, pc_land (by omega) (by omega), pc_d1 _ (by omega) b hb]
  have h1 : a / 2 &&& pcm 85 n ≤ a / 2 := Nat.and_le_left
  have h2 : b / 2 &&& 85 ≤ b / 2 := Nat.and_le_left
  omega
theorem pc_s2 {n a b : Nat} (hb : b < 256) : pc2 (n + 1) (256 * a + b) = 256 * pc2 n a + ph2 b := by
  unfold pc2 ph2
  show ((256 * a + b) &&& (256 * pcm 51 n + 51)) + ((256 * a + b) / 4 &&& (256 * pcm 51 n + 51)) = _
  rw [show (256 * a + b) / 4 = 256 * (a / 4) + (64 * (a % 4) + b / 4) by omega, pc_land (by omega) (by omega), pc_land (by omega) (by omega), pc_d2 _ (by omega) b hb]
  omega
theorem pc_s3 {n a b : Nat} (hb : b ≤ 68) (ha : a % 16 ≤ 4) : pc3 (n + 1) (256 * a + b) = 256 * pc3 n a + (b + b / 16) % 16 := by
  unfold pc3
  show ((256 * a + b) + (256 * a + b) / 16) &&& (256 * pcm 15 n + 15) = _
  rw [show (256 * a + b) + (256 * a + b) / 16 = 256 * (a + a / 16) + (b + b / 16 + 16 * (a % 16)) by omega, pc_land (by omega) (by omega), show (15 : Nat) = 2 ^ 4 - 1 from rfl, Nat.and_two_pow_sub_one_eq_mod]
  omega
def pcf (n x : Nat) : Nat := pc3 n (pc2 n (pc1 n x))
theorem pc_16 : ∀ n x, pc2 n (pc1 n x) % 16 ≤ 4
  | 0, x => by
    show ((pc1 0 x &&& 0) + (pc1 0 x / 4 &&& 0)) % 16 ≤ 4
    rw [Nat.and_zero, Nat.and_zero]
    decide
  | n + 1, x => by
    have e : x = 256 * (x / 256) + x % 256 := by omega
    have d := pc_d3 (x % 256) (by omega)
    rw [e, pc_s1 (by omega), pc_s2 d.1]
    omega
theorem pcf_s (n x : Nat) : pcf (n + 1) x = 256 * pcf n (x / 256) + cN (x % 256).testBit 8 := by
  have e : x = 256 * (x / 256) + x % 256 := by omega
  have d := pc_d3 (x % 256) (by omega)
  unfold pcf
  conv => lhs; rw [e]
  rw [pc_s1 (by omega), pc_s2 d.1, pc_s3 d.2.1 (pc_16 n _), d.2.2.2]
theorem pcf_0 (x : Nat) : pcf 0 x = 0 := by
  unfold pcf pc3
  exact Nat.and_zero _
theorem cN_s (x m : Nat) : cN x.testBit (8 + m) = cN (x % 256).testBit 8 + cN (x / 256).testBit m := by
  rw [cN_add]
  congr 1
  · apply cN_congr
    intro i hi
    rw [show (256 : Nat) = 2 ^ 8 from rfl, Nat.testBit_mod_two_pow]
    simp [hi]
  · apply cN_congr
    intro i hi
    rw [show (256 : Nat) = 2 ^ 8 from rfl, Nat.testBit_div_two_pow, Nat.add_comm]
theorem pc_n32 {c0 c1 c2 c3 y z w : Nat} (h0 : c0 ≤ 8) (h1 : c1 ≤ 8) (h2 : c2 ≤ 8) (h3 : c3 ≤ 8) (hy : y = 256 * (256 * (256 * c3 + c2) + c1) + c0) (hz : z = y + y / 256) (hw : w = z + z / 65536) : w % 64 = c0 + (c1 + (c2 + c3)) ∧ y < 2 ^ 32 ∧ z < 2 ^ 32 ∧ w < 2 ^ 32 := by
  have e1 : y / 256 = 256 * (256 * c3 + c2) + c1 := by omega
  have e2 : z = (c0 + c1) + 256 * ((c1 + c2) + 256 * ((c2 + c3) + 256 * c3)) := by omega
  have e3 : z / 65536 = (c2 + c3) + 256 * c3 := by omega
  have e4 : w = (c0 + (c1 + (c2 + c3))) + 256 * ((c1 + c2 + c3) + 256 * ((c2 + c3) + 256 * c3)) := by omega
  omega
theorem pc_dv {y Y c : Nat} (B : Nat) (h : y = c + B * Y) (hc : c < B) : y / B = Y := by
  rw [h, Nat.add_mul_div_left _ _ (by omega), Nat.div_eq_of_lt hc, Nat.zero_add]
theorem pc_n64 {c0 c1 c2 c3 c4 c5 c6 c7 y z w u : Nat} (h0 : c0 ≤ 8) (h1 : c1 ≤ 8) (h2 : c2 ≤ 8) (h3 : c3 ≤ 8) (h4 : c4 ≤ 8) (h5 : c5 ≤ 8) (h6 : c6 ≤ 8) (h7 : c7 ≤ 8) (hy : y = 256 * (256 * (256 * (256 * (256 * (256 * (256 * c7 + c6) + c5) + c4) + c3) + c2) + c1) + c0) (hz : z = y + y / 256) (hw : w = z + z / 65536) (hu : u = w + w / 4294967296) : u % 128 = c0 + (c1 + (c2 + (c3 + (c4 + (c5 + (c6 + c7)))))) ∧ y < 2 ^ 64 ∧ z < 2 ^ 64 ∧ w < 2 ^ 64 ∧ u < 2 ^ 64 := by
  rw [pc_dv (Y := 256 * (256 * (256 * (256 * (256 * (256 * c7 + c6) + c5) + c4) + c3) + c2) + c1) (c := c0) 256 (by rw [hy]; exact Nat.add_comm _ _) (by omega)] at hz
  have e2 : z = ((c0 + c1) + 256 * (c1 + c2)) + 65536 * ((c2 + c3) + 256 * ((c3 + c4) + 256 * ((c4 + c5) + 256 * ((c5 + c6) + 256 * ((c6 + c7) + 256 * c7))))) := by rw [hz, hy]; clear hz hy hw hu; omega
  rw [pc_dv 65536 e2 (by clear hz hy hw hu e2; omega)] at hw
  have e4 : w = ((c0 + c1 + c2 + c3) + 256 * ((c1 + c2 + c3 + c4) + 256 * ((c2 + c3 + c4 + c5) + 256 * (c3 + c4 + c5 + c6)))) + 4294967296 * ((c4 + c5 + c6 + c7) + 256 * ((c5 + c6 + c7) + 256 * ((c6 + c7) + 256 * c7))) := by rw [hw, e2]; clear hz hy hw hu e2; omega
  rw [pc_dv 4294967296 e4 (by clear hz hy hw hu e2 e4; omega)] at hu
  have e6 : u = (c0 + (c1 + (c2 + (c3 + (c4 + (c5 + (c6 + c7))))))) + 256 * ((c1 + c2 + c3 + c4 + c5 + c6 + c7) + 256 * ((c2 + c3 + c4 + c5 + c6 + c7) + 256 * ((c3 + c4 + c5 + c6 + c7) + 256 * ((c4 + c5 + c6 + c7) + 256 * ((c5 + c6 + c7) + 256 * ((c6 + c7) + 256 * c7)))))) := by rw [hu, e4]; clear hz hy hw hu e2 e4; omega
  refine ⟨?_, ?_, ?_, ?_, ?_⟩
  · clear hz hy hw hu e2 e4; omega
  · clear hz hw hu e2 e4 e6; omega
  · clear hz hy hw hu e4 e6; omega
  · clear hz hy hw hu e2 e6; omega
  · clear hz hy hw hu e2 e4; omega
theorem cN_8 (x : Nat) : cN x.testBit 8 = cN (x % 256).testBit 8 := by
  rw [show (8 : Nat) = 8 + 0 from rfl, cN_s x 0]; rfl
theorem pc_32 {x y z w : Nat} (hy : y = pcf 4 x) (hz : z = y + y / 256) (hw : w = z + z / 65536) : w % 64 = cN x.testBit 32 ∧ y < 2 ^ 32 ∧ z < 2 ^ 32 ∧ w < 2 ^ 32 := by
  rw [pcf_s, pcf_s, pcf_s, pcf_s, pcf_0, Nat.mul_zero, Nat.zero_add] at hy
  have h := pc_n32 (cN_le _ 8) (cN_le _ 8) (cN_le _ 8) (cN_le _ 8) hy hz hw
  rw [h.1, cN_s x 24, cN_s _ 16, cN_s _ 8, cN_8 (x / 256 / 256 / 256)]
  exact ⟨rfl, h.2⟩
theorem pc_64 {x y z w u : Nat} (hy : y = pcf 8 x) (hz : z = y + y / 256) (hw : w = z + z / 65536) (hu : u = w + w / 4294967296) : u % 128 = cN x.testBit 64 ∧ y < 2 ^ 64 ∧ z < 2 ^ 64 ∧ w < 2 ^ 64 ∧ u < 2 ^ 64 := by
  rw [pcf_s, pcf_s, pcf_s, pcf_s, pcf_s, pcf_s, pcf_s, pcf_s, pcf_0, Nat.mul_zero, Nat.zero_add] at hy
  have h := pc_n64 (cN_le _ 8) (cN_le _ 8) (cN_le _ 8) (cN_le _ 8) (cN_le _ 8) (cN_le _ 8) (cN_le _ 8) (cN_le _ 8) hy hz hw hu
  rw [h.1, cN_s x 56, cN_s _ 48, cN_s _ 40, cN_s _ 32, cN_s _ 24, cN_s _ 16, cN_s _ 8, cN_8 (x / 256 / 256 / 256 / 256 / 256 / 256 / 256)]
  exact ⟨rfl, h.2⟩
/-! the machine's words -/
def u32 (x : Int32) : Nat := x.toBitVec.toNat
theorem u_lt (x : Int32) : u32 x < 2 ^ 32 := x.toBitVec.isLt
theorem u_ext {x y : Int32} (h : u32 x = u32 y) : x = y := Int32.toBitVec_inj.mp (BitVec.eq_of_toNat_eq h)
theorem u_nI {m : Nat} (h : m < 2 ^ 31) : u32 (nI m) = m := by
  show (Int32.ofNat m).toBitVec.toNat = m
  rw [Int32.toBitVec_ofNat', BitVec.toNat_ofNat]
  exact Nat.mod_eq_of_lt (by omega)
theorem u_and (x y : Int32) : u32 (x &&& y) = u32 x &&& u32 y := by unfold u32; rw [Int32.toBitVec_and, BitVec.toNat_and]
theorem u_add (x y : Int32) : u32 (x + y) = (u32 x + u32 y) % 2 ^ 32 := by unfold u32; rw [Int32.toBitVec_add, BitVec.toNat_add]
theorem u_sub {x y : Int32} (h : u32 y ≤ u32 x) : u32 (x - y) = u32 x - u32 y := by
  have hx := u_lt x
  unfold u32 at *
  rw [Int32.toBitVec_sub, BitVec.toNat_sub]
  omega
theorem s_u' : ∀ n, n < 32 → (((nI n).toUInt32 &&& Int32.toUInt32 31).toBitVec % 32).toNat = n := by decide +kernel
theorem u_shr (n : Nat) (hn : n < 32) (x : Int32) : u32 ((x.toUInt32 >>> ((nI n).toUInt32 &&& Int32.toUInt32 31)).toInt32) = u32 x / 2 ^ n := by
  show (x.toUInt32 >>> ((nI n).toUInt32 &&& Int32.toUInt32 31)).toBitVec.toNat = x.toUInt32.toBitVec.toNat / 2 ^ n
  rw [UInt32.toBitVec_shiftRight]
  show (x.toUInt32.toBitVec >>> (((nI n).toUInt32 &&& Int32.toUInt32 31).toBitVec % 32).toNat).toNat = _
  rw [s_u' n hn, BitVec.toNat_ushiftRight, Nat.shiftRight_eq_div_pow]
def u64 (x : Int64) : Nat := x.toBitVec.toNat
theorem v_lt (x : Int64) : u64 x < 2 ^ 64 := x.toBitVec.isLt
theorem v_and (x y : Int64) : u64 (x &&& y) = u64 x &&& u64 y := by unfold u64; rw [Int64.toBitVec_and, BitVec.toNat_and]
theorem v_add (x y : Int64) : u64 (x + y) = (u64 x + u64 y) % 2 ^ 64 := by unfold u64; rw [Int64.toBitVec_add, BitVec.toNat_add]
theorem v_sub {x y : Int64} (h : u64 y ≤ u64 x) : u64 (x - y) = u64 x - u64 y := by
  have hx := v_lt x
  unfold u64 at *
  rw [Int64.toBitVec_sub, BitVec.toNat_sub]
  omega
theorem s_v' : ∀ n, n < 64 → (((nI n).toInt64.toUInt64 &&& Int64.toUInt64 63).toBitVec % 64).toNat = n := by decide +kernel
theorem v_shr (n : Nat) (hn : n < 64) (x : Int64) : u64 ((x.toUInt64 >>> ((nI n).toInt64.toUInt64 &&& Int64.toUInt64 63)).toInt64) = u64 x / 2 ^ n := by
  show (x.toUInt64 >>> ((nI n).toInt64.toUInt64 &&& Int64.toUInt64 63)).toBitVec.toNat = x.toUInt64.toBitVec.toNat / 2 ^ n
  rw [UInt64.toBitVec_shiftRight]
  show (x.toUInt64.toBitVec >>> (((nI n).toInt64.toUInt64 &&& Int64.toUInt64 63).toBitVec % 64).toNat).toNat = _
  rw [s_v' n hn, BitVec.toNat_ushiftRight, Nat.shiftRight_eq_div_pow]
theorem u_ofv (x : Int64) : u32 x.toInt32 = u64 x % 2 ^ 32 := by
  unfold u32 u64
  rw [Int64.toBitVec_toInt32, BitVec.signExtend_eq_setWidth_of_le _ (by decide), BitVec.toNat_setWidth]
theorem p_bitCount (a0 : Int32) {Po : Int32 → Prop} (h : Po (nI (cN (u32 a0).testBit 32))) : wp_J6_bitCount_0f7a4 a0 Po := by
  unfold wp_J6_bitCount_0f7a4
  intro n1 e1 n2 e2 n3 e3 n4 e4 n5 e5
  have k85 : u32 (1431655765 : Int32) = pcm 85 4 := by decide
  have k51 : u32 (858993459 : Int32) = pcm 51 4 := by decide
  have k15 : u32 (252645135 : Int32) = pcm 15 4 := by decide
  have s1 := u_shr 1 (by decide) a0
  have s2 := u_shr 2 (by decide) n1
  have s4 := u_shr 4 (by decide) n2
  have s8 := u_shr 8 (by decide) n3
  have s16 := u_shr 16 (by decide) n4
  have d1 : u32 n1 = pc1 4 (u32 a0) := by
    have g : u32 a0 / 2 &&& pcm 85 4 ≤ u32 a0 / 2 := Nat.and_le_left
    rw [e1, u_sub, u_and, show (1 : Int32) = nI 1 from rfl, s1, k85]
    · rfl
    · rw [u_and, show (1 : Int32) = nI 1 from rfl, s1, k85]
      show u32 a0 / 2 &&& pcm 85 4 ≤ u32 a0
      omega
  have d2 : u32 n2 = pc2 4 (u32 n1) := by
    have g1 : u32 n1 &&& pcm 51 4 ≤ pcm 51 4 := Nat.and_le_right
    have g2 : u32 n1 / 2 ^ 2 &&& pcm 51 4 ≤ pcm 51 4 := Nat.and_le_right
    have g3 : pcm 51 4 = 858993459 := by decide
    rw [e2, u_add, u_and, u_and, show (2 : Int32) = nI 2 from rfl, s2, k51, Nat.mod_eq_of_lt (by omega)]
    rfl
  have g2 : u32 n2 ≤ 1717986918 := by
    have g1 : u32 n1 &&& pcm 51 4 ≤ pcm 51 4 := Nat.and_le_right
    have g2 : u32 n1 / 4 &&& pcm 51 4 ≤ pcm 51 4 := Nat.and_le_right
    have g3 : pcm 51 4 = 858993459 := by decide
    rw [d2]; unfold pc2; omega
  have d3 : u32 n3 = pc3 4 (u32 n2) := by
    rw [e3, u_and, u_add, show (4 : Int32) = nI 4 from rfl, s4, k15, Nat.mod_eq_of_lt (by omega)]
    rfl
  have hf : u32 n3 = pcf 4 (u32 a0) := by rw [d3, d2, d1]; rfl
  have hp := pc_32 hf rfl rfl
  have d4 : u32 n4 = u32 n3 + u32 n3 / 256 := by
    rw [e4, u_add, show (8 : Int32) = nI 8 from rfl, s8]
    exact Nat.mod_eq_of_lt hp.2.2.1
  have d5 : u32 n5 = (u32 n3 + u32 n3 / 256) + (u32 n3 + u32 n3 / 256) / 65536 := by
    rw [e5, u_add, show (16 : Int32) = nI 16 from rfl, s16, d4]
    exact Nat.mod_eq_of_lt hp.2.2.2
  have fin : n5 &&& (63 : Int32) = nI (cN (u32 a0).testBit 32) := by
    apply u_ext
    have hc := cN_le (u32 a0).testBit 32
    rw [u_and, show u32 (63 : Int32) = 2 ^ 6 - 1 from rfl, Nat.and_two_pow_sub_one_eq_mod, u_nI (by omega), d5]
    exact hp.1
  rw [fin]
  exact h
theorem p_bitCountL (a0 : Int64) {Po : Int32 → Prop} (h : Po (nI (cN (u64 a0).testBit 64))) : wp_J13_bitCount_95d88 a0 Po := by
  unfold wp_J13_bitCount_95d88
  intro n1 e1 n2 e2 n3 e3 n4 e4 n5 e5 n6 e6
  have k85 : u64 (6148914691236517205 : Int64) = pcm 85 8 := by decide
  have k51 : u64 (3689348814741910323 : Int64) = pcm 51 8 := by decide
  have k15 : u64 (1085102592571150095 : Int64) = pcm 15 8 := by decide
  have s1 := v_shr 1 (by decide) a0
  have s2 := v_shr 2 (by decide) n1
  have s4 := v_shr 4 (by decide) n2
  have s8 := v_shr 8 (by decide) n3
  have s16 := v_shr 16 (by decide) n4
  have s32 := v_shr 32 (by decide) n5
  have d1 : u64 n1 = pc1 8 (u64 a0) := by
    have g : u64 a0 / 2 &&& pcm 85 8 ≤ u64 a0 / 2 := Nat.and_le_left
    rw [e1, v_sub, v_and, show (1 : Int32) = nI 1 from rfl, s1, k85]
    · rfl
    · rw [v_and, show (1 : Int32) = nI 1 from rfl, s1, k85]
      show u64 a0 / 2 &&& pcm 85 8 ≤ u64 a0
      omega
  have d2 : u64 n2 = pc2 8 (u64 n1) := by
    have g1 : u64 n1 &&& pcm 51 8 ≤ pcm 51 8 := Nat.and_le_right
    have g2 : u64 n1 / 2 ^ 2 &&& pcm 51 8 ≤ pcm 51 8 := Nat.and_le_right
    have g3 : pcm 51 8 = 3689348814741910323 := by decide
    rw [e2, v_add, v_and, v_and, show (2 : Int32) = nI 2 from rfl, s2, k51, Nat.mod_eq_of_lt (by omega)]
    rfl
  have g2 : u64 n2 ≤ 7378697629483820646 := by
    have g1 : u64 n1 &&& pcm 51 8 ≤ pcm 51 8 := Nat.and_le_right
    have g2 : u64 n1 / 4 &&& pcm 51 8 ≤ pcm 51 8 := Nat.and_le_right
    have g3 : pcm 51 8 = 3689348814741910323 := by decide
    rw [d2]; unfold pc2; omega
  have d3 : u64 n3 = pc3 8 (u64 n2) := by
    rw [e3, v_and, v_add, show (4 : Int32) = nI 4 from rfl, s4, k15, Nat.mod_eq_of_lt (by omega)]
    rfl
  have hf : u64 n3 = pcf 8 (u64 a0) := by rw [d3, d2, d1]; rfl
  have hp := pc_64 hf rfl rfl rfl
  have d4 : u64 n4 = u64 n3 + u64 n3 / 256 := by
    rw [e4, v_add, show (8 : Int32) = nI 8 from rfl, s8]
    exact Nat.mod_eq_of_lt hp.2.2.1
  have d5 : u64 n5 = (u64 n3 + u64 n3 / 256) + (u64 n3 + u64 n3 / 256) / 65536 := by
    rw [e5, v_add, show (16 : Int32) = nI 16 from rfl, s16, d4]
    exact Nat.mod_eq_of_lt hp.2.2.2.1
  have d6 : u64 n6 = u64 n5 + u64 n5 / 4294967296 := by
    rw [e6, v_add, show (32 : Int32) = nI 32 from rfl, s32]
    rw [d5]
    exact Nat.mod_eq_of_lt hp.2.2.2.2
  have fin : n6.toInt32 &&& (127 : Int32) = nI (cN (u64 a0).testBit 64) := by
    apply u_ext
    have hc := cN_le (u64 a0).testBit 64
    rw [u_and, show u32 (127 : Int32) = 2 ^ 7 - 1 from rfl, Nat.and_two_pow_sub_one_eq_mod, u_nI (by omega), u_ofv, Nat.mod_mod_of_dvd _ (by decide), d6, d5]
    exact hp.1
  rw [fin]
  exact h
theorem lb_u64 (x : Int64) (i : Nat) : (u64 x).testBit i = lb x i := BitVec.testBit_toNat _
theorem bt_u32 (x : Int32) (i : Nat) : (u32 x).testBit i = bt x i := BitVec.testBit_toNat _
