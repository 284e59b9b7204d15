/-! ===== how many bits a long has ===== -/
theorem nat64 {a : Nat} : (Int64.ofInt (a : Int)).toBitVec = BitVec.ofNat 64 a := by
  simp [Int64.ofInt, Int64.toBitVec]
theorem bm64 {a : Nat} (h : a < 2 ^ 63) : (a : Int).bmod (2 ^ 64) = (a : Int) := by
  have h' : a < 9223372036854775808 := h
  rw [Int.bmod_def]
  simp only [Nat.reducePow]
  omega
theorem toInt64 {a : Nat} (h : a < 2 ^ 63) : (BitVec.ofNat 64 a).toInt = (a : Int) := by
  have h' : a < 9223372036854775808 := h
  rw [BitVec.toInt_eq_toNat_bmod, BitVec.toNat_ofNat, Nat.mod_eq_of_lt (by simp only [Nat.reducePow]; omega)]
  exact bm64 h
theorem land64n {a b : Nat} (ha : a < 2 ^ 63) : land64 (a : Int) (b : Int) = ((a &&& b : Nat) : Int) := by
  unfold land64
  rw [← Int64.toInt_toBitVec, Int64.toBitVec_and, nat64, nat64, ← BitVec.ofNat_and, toInt64 (Nat.lt_of_le_of_lt Nat.and_le_left ha)]
theorem lor64n {a b : Nat} (ha : a < 2 ^ 63) (hb : b < 2 ^ 63) : lor64 (a : Int) (b : Int) = ((a ||| b : Nat) : Int) := by
  unfold lor64
  rw [← Int64.toInt_toBitVec, Int64.toBitVec_or, nat64, nat64, ← BitVec.ofNat_or, toInt64 (Nat.or_lt_two_pow ha hb)]
theorem shl64n : ∀ k : Nat, k < 61 → shl64 1 (k : Int) = ((2 ^ k : Nat) : Int) := by decide +kernel
theorem ushr64n {a : Nat} (ha : a < 2 ^ 63) {k : Nat} {y : Int} (hk : (Int32.ofInt y).toInt64.toUInt64 &&& Int64.toUInt64 63 = UInt64.ofNat k) (hk2 : k < 64) : ushr64 (a : Int) y = ((a / 2 ^ k : Nat) : Int) := by
  unfold ushr64
  rw [hk]
  have e : ((Int64.ofInt (a : Int)).toUInt64 >>> UInt64.ofNat k).toInt64.toInt = (((Int64.ofInt (a : Int)).toUInt64 >>> UInt64.ofNat k).toBitVec).toInt := rfl
  have e2 : (Int64.ofInt (a : Int)).toUInt64.toBitVec = BitVec.ofNat 64 a := nat64
  have h' : a < 9223372036854775808 := ha
  rw [e, BitVec.toInt_eq_toNat_bmod, UInt64.toNat_toBitVec, UInt64.toNat_shiftRight, ← UInt64.toNat_toBitVec, e2, BitVec.toNat_ofNat, Nat.mod_eq_of_lt (show a < 2 ^ 64 by simp only [Nat.reducePow]; omega), UInt64.toNat_ofNat', Nat.mod_eq_of_lt (show k < 2 ^ 64 by simp only [Nat.reducePow]; omega), Nat.mod_eq_of_lt hk2, Nat.shiftRight_eq_div_pow]
  exact bm64 (Nat.lt_of_le_of_lt (Nat.div_le_self _ _) ha)
theorem land127 {v : Nat} : land32 (v : Int) 127 = ((v % 128 : Nat) : Int) := by
  unfold land32
  have e : (Int32.ofInt (v : Int)).toBitVec = BitVec.ofNat 32 v := by simp [Int32.ofInt, Int32.toBitVec]
  have e2 : (Int32.ofInt 127).toBitVec = BitVec.ofNat 32 127 := rfl
  rw [← Int32.toInt_toBitVec, Int32.toBitVec_and, e, e2, ← BitVec.ofNat_and, show (127 : Nat) = 2 ^ 7 - 1 from rfl, Nat.and_two_pow_sub_one_eq_mod, BitVec.toInt_eq_toNat_bmod, BitVec.toNat_ofNat]
  have : v % 2 ^ 7 < 128 := Nat.mod_lt _ (by omega)
  rw [Nat.mod_eq_of_lt (by simp only [Nat.reducePow] at this ⊢; omega), Int.bmod_def]
  simp only [Nat.reducePow] at this ⊢
  omega
theorem andS (k a b : Nat) : a &&& b = 2 ^ k * ((a / 2 ^ k) &&& (b / 2 ^ k)) + ((a % 2 ^ k) &&& (b % 2 ^ k)) := by
  have h1 := Nat.and_div_two_pow (a := a) (b := b) (n := k)
  have h2 := Nat.and_mod_two_pow (a := a) (b := b) (n := k)
  rw [← h1, ← h2]
  exact (Nat.div_add_mod _ _).symm
def M1 : Nat → Nat
  | 0 => 0
  | m + 1 => 1 + 4 * M1 m
def M2 : Nat → Nat
  | 0 => 0
  | m + 1 => 3 + 16 * M2 m
def M3 : Nat → Nat
  | 0 => 0
  | m + 1 => 15 + 256 * M3 m
def s1 : Nat → Nat → Nat
  | 0, _ => 0
  | m + 1, x => (x % 2 + x / 2 % 2) + 4 * s1 m (x / 4)
def s2 : Nat → Nat → Nat
  | 0, _ => 0
  | m + 1, v => (v % 4 + v / 4 % 4) + 16 * s2 m (v / 16)
def s3 : Nat → Nat → Nat
  | 0, _ => 0
  | m + 1, v => (v % 16 + v / 16 % 16) + 256 * s3 m (v / 256)
def pcw : Nat → Nat → Nat
  | 0, _ => 0
  | w + 1, x => x % 2 + pcw w (x / 2)
def ds (b : Nat) : Nat → Nat → Nat
  | 0, _ => 0
  | m + 1, v => v % b + ds b m (v / b)
theorem s1_l : ∀ m x, x < 4 ^ m → x = s1 m x + ((x / 2) &&& M1 m)
  | 0, x, h => by
    rw [Nat.pow_zero] at h
    have : x = 0 := by omega
    subst this
    rfl
  | m + 1, x, h => by
    have ih := s1_l m (x / 4) (by rw [Nat.pow_succ] at h; omega)
    have a := andS 2 (x / 2) (M1 (m + 1))
    have e1 : M1 (m + 1) = 1 + 4 * M1 m := rfl
    rw [show (2 : Nat) ^ 2 = 4 from rfl, show x / 2 / 4 = x / 4 / 2 by omega, e1, show (1 + 4 * M1 m) / 4 = M1 m by omega, show (1 + 4 * M1 m) % 4 = 1 by omega] at a
    have b : (x / 2 % 4) &&& 1 = x / 2 % 2 := by
      rw [Nat.and_one_is_mod]; omega
    rw [b] at a
    rw [e1, a, s1]
    omega
theorem s2_l : ∀ m v, v < 16 ^ m → (v &&& M2 m) + ((v / 4) &&& M2 m) = s2 m v
  | 0, v, h => by
    rw [Nat.pow_zero] at h
    have : v = 0 := by omega
    subst this
    rfl
  | m + 1, v, h => by
    have ih := s2_l m (v / 16) (by rw [Nat.pow_succ] at h; omega)
    have a := andS 4 v (M2 (m + 1))
    have c := andS 4 (v / 4) (M2 (m + 1))
    have e1 : M2 (m + 1) = 3 + 16 * M2 m := rfl
    rw [show (2 : Nat) ^ 4 = 16 from rfl, e1, show (3 + 16 * M2 m) / 16 = M2 m by omega, show (3 + 16 * M2 m) % 16 = 3 by omega] at a c
    rw [show v / 4 / 16 = v / 16 / 4 by omega] at c
    have b1 : (v % 16) &&& 3 = v % 16 % 4 := by
      rw [show (3 : Nat) = 2 ^ 2 - 1 from rfl, Nat.and_two_pow_sub_one_eq_mod]
    have b2 : (v / 4 % 16) &&& 3 = v / 4 % 16 % 4 := by
      rw [show (3 : Nat) = 2 ^ 2 - 1 from rfl, Nat.and_two_pow_sub_one_eq_mod]
    rw [b1] at a
    rw [b2] at c
    rw [e1, a, c, s2]
    omega
/-- every nibble is at most 4 -/
def nb4 : Nat → Nat → Prop
  | 0, v => v = 0
  | m + 1, v => v % 16 ≤ 4 ∧ v / 16 % 16 ≤ 4 ∧ nb4 m (v / 256)
theorem nb4_16 : ∀ m v, nb4 m v → v % 16 ≤ 4
  | 0, v, h => by rw [nb4] at h; omega
  | m + 1, v, h => h.1
theorem s3_l : ∀ m v, nb4 m v → (v + v / 16) &&& M3 m = s3 m v
  | 0, v, h => by
    rw [nb4] at h
    subst h
    rfl
  | m + 1, v, h => by
    obtain ⟨h1, h2, h3⟩ := h
    have ih := s3_l m (v / 256) h3
    have n := nb4_16 m (v / 256) h3
    have a := andS 8 (v + v / 16) (M3 (m + 1))
    have e1 : M3 (m + 1) = 15 + 256 * M3 m := rfl
    have aux : ∀ c0 c1 y0 y1 : Nat, c0 ≤ 4 → c1 ≤ 4 → y0 ≤ 4 → (c0 + 16 * c1 + 256 * (y0 + 16 * y1) + (c1 + 16 * (y0 + 16 * y1))) / 256 = y0 + 16 * y1 + y1 ∧ (c0 + 16 * c1 + 256 * (y0 + 16 * y1) + (c1 + 16 * (y0 + 16 * y1))) % 256 % 16 = c0 + c1 := by
      intro c0 c1 y0 y1 w1 w2 w3
      omega
    obtain ⟨u1, u2⟩ := aux (v % 16) (v / 16 % 16) (v / 256 % 16) (v / 256 / 16) h1 h2 n
    rw [show v % 16 + 16 * (v / 16 % 16) + 256 * (v / 256 % 16 + 16 * (v / 256 / 16)) + (v / 16 % 16 + 16 * (v / 256 % 16 + 16 * (v / 256 / 16))) = v + v / 16 by omega] at u1 u2
    rw [show v / 256 % 16 + 16 * (v / 256 / 16) = v / 256 by omega] at u1
    rw [show (2 : Nat) ^ 8 = 256 from rfl, e1, show (15 + 256 * M3 m) / 256 = M3 m by omega, show (15 + 256 * M3 m) % 256 = 15 by omega, u1, ih] at a
    have b1 : ((v + v / 16) % 256) &&& 15 = (v + v / 16) % 256 % 16 := by
      rw [show (15 : Nat) = 2 ^ 4 - 1 from rfl, Nat.and_two_pow_sub_one_eq_mod]
    rw [b1, u2] at a
    rw [e1, a, s3]
    omega
theorem s1_b : ∀ m x, s1 m x < 4 ^ m
  | 0, x => by rw [s1, Nat.pow_zero]; omega
  | m + 1, x => by
    have := s1_b m (x / 4)
    rw [s1, Nat.pow_succ]; omega
/-- every pair of bits is at most 2 -/
def pr2 : Nat → Nat → Prop
  | 0, v => v = 0
  | m + 1, v => v % 4 ≤ 2 ∧ v / 4 % 4 ≤ 2 ∧ pr2 m (v / 16)
theorem s1_p : ∀ m x, pr2 m (s1 (m + m) x)
  | 0, x => rfl
  | m + 1, x => by
    have ih := s1_p m (x / 4 / 4)
    rw [show m + 1 + (m + 1) = m + m + 1 + 1 by omega, s1, s1, pr2]
    refine ⟨by omega, by omega, ?_⟩
    rw [show (x % 2 + x / 2 % 2 + 4 * (x / 4 % 2 + x / 4 / 2 % 2 + 4 * s1 (m + m) (x / 4 / 4))) / 16 = s1 (m + m) (x / 4 / 4) by omega]
    exact ih
theorem s2_n : ∀ m v, pr2 (m + m) v → nb4 m (s2 (m + m) v)
  | 0, v, h => rfl
  | m + 1, v, h => by
    rw [show m + 1 + (m + 1) = m + m + 1 + 1 by omega, pr2, pr2] at h
    obtain ⟨h1, h2, h3, h4, h5⟩ := h
    have ih := s2_n m (v / 16 / 16) h5
    rw [show m + 1 + (m + 1) = m + m + 1 + 1 by omega, s2, s2, nb4]
    have k1 : ∀ p q : Nat, p ≤ 4 → (p + 16 * q) % 16 ≤ 4 := by intro p q w; omega
    have k2 : ∀ p p' q : Nat, p ≤ 4 → p' ≤ 4 → (p + 16 * (p' + 16 * q)) / 16 % 16 ≤ 4 := by intro p p' q w w'; omega
    refine ⟨k1 _ _ (by omega), k2 _ _ _ (by omega) (by omega), ?_⟩
    rw [show (v % 4 + v / 4 % 4 + 16 * (v / 16 % 4 + v / 16 / 4 % 4 + 16 * s2 (m + m) (v / 16 / 16))) / 256 = s2 (m + m) (v / 16 / 16) by omega]
    exact ih
theorem d1 : ∀ m x, ds 4 m (s1 m x) = pcw (m + m) x
  | 0, x => rfl
  | m + 1, x => by
    rw [show m + 1 + (m + 1) = m + m + 1 + 1 by omega, pcw, pcw, ds, s1, show (x % 2 + x / 2 % 2 + 4 * s1 m (x / 4)) % 4 = x % 2 + x / 2 % 2 by omega, show (x % 2 + x / 2 % 2 + 4 * s1 m (x / 4)) / 4 = s1 m (x / 4) by omega, d1 m (x / 4), show x / 2 / 2 = x / 4 by omega]
    omega
theorem d2 : ∀ m v, ds 16 m (s2 m v) = ds 4 (m + m) v
  | 0, v => rfl
  | m + 1, v => by
    rw [show m + 1 + (m + 1) = m + m + 1 + 1 by omega, ds, ds, ds, s2, show (v % 4 + v / 4 % 4 + 16 * s2 m (v / 16)) % 16 = v % 4 + v / 4 % 4 by omega, show (v % 4 + v / 4 % 4 + 16 * s2 m (v / 16)) / 16 = s2 m (v / 16) by omega, d2 m (v / 16), show v / 4 / 4 = v / 16 by omega]
    omega
theorem d3 : ∀ m v, ds 256 m (s3 m v) = ds 16 (m + m) v
  | 0, v => rfl
  | m + 1, v => by
    rw [show m + 1 + (m + 1) = m + m + 1 + 1 by omega, ds, ds, ds, s3, show (v % 16 + v / 16 % 16 + 256 * s3 m (v / 256)) % 256 = v % 16 + v / 16 % 16 by omega, show (v % 16 + v / 16 % 16 + 256 * s3 m (v / 256)) / 256 = s3 m (v / 256) by omega, d3 m (v / 256), show v / 16 / 16 = v / 256 by omega]
    omega
/-- every byte is at most 8 -/
theorem s3_b : ∀ m v, nb4 m v → s3 m v < 256 ^ m ∧ ∀ i, (s3 m v / 256 ^ i) % 256 ≤ 8
  | 0, v, h => by rw [s3, Nat.pow_zero]; exact ⟨by omega, fun i => by rw [Nat.zero_div]; omega⟩
  | m + 1, v, h => by
    obtain ⟨h1, h2, h3⟩ := h
    obtain ⟨a1, a2⟩ := s3_b m (v / 256) h3
    rw [s3, Nat.pow_succ]
    refine ⟨by omega, fun i => ?_⟩
    rcases i with _ | i
    · rw [Nat.pow_zero, Nat.div_one]; omega
    · rw [Nat.pow_succ', ← Nat.div_div_eq_div_mul, show (v % 16 + v / 16 % 16 + 256 * s3 m (v / 256)) / 256 = s3 m (v / 256) by omega]
      exact a2 i
theorem bytes_a {b0 b1 b2 b3 b4 b5 b6 b7 z4 : Nat} (w0 : b0 ≤ 8) (w1 : b1 ≤ 8) (w2 : b2 ≤ 8) (w3 : b3 ≤ 8) (w4 : b4 ≤ 8) (w5 : b5 ≤ 8) (w6 : b6 ≤ 8) (w7 : b7 ≤ 8) (h4 : z4 = (b0 + b1) + 256 * (b1 + b2) + 65536 * ((b2 + b3) + 256 * (b3 + b4) + 65536 * (b4 + b5) + 16777216 * (b5 + b6) + 4294967296 * (b6 + b7) + 1099511627776 * b7)) : z4 / 65536 = (b2 + b3) + 256 * (b3 + b4) + 65536 * (b4 + b5) + 16777216 * (b5 + b6) + 4294967296 * (b6 + b7) + 1099511627776 * b7 := by
  generalize (b2 + b3) + 256 * (b3 + b4) + 65536 * (b4 + b5) + 16777216 * (b5 + b6) + 4294967296 * (b6 + b7) + 1099511627776 * b7 = k at h4 ⊢
  have : (b0 + b1) + 256 * (b1 + b2) < 65536 := by omega
  rw [h4, Nat.add_mul_div_left _ _ (by omega), Nat.div_eq_of_lt this, Nat.zero_add]
theorem bytes_b {p q k z5 : Nat} (hp : p < 4294967296) (h5 : z5 = p + 4294967296 * k) (hq : (p + k) % 128 = q) : (z5 + z5 / 4294967296) % 128 = q := by
  have e : z5 / 4294967296 = k := by rw [h5, Nat.add_mul_div_left _ _ (by omega), Nat.div_eq_of_lt hp, Nat.zero_add]
  rw [e, h5, show p + 4294967296 * k + k = p + k + 128 * (33554432 * k) by omega, Nat.add_mul_mod_self_left]
  exact hq
theorem bytes_c {y3 n1 n2 n3 n4 n5 n6 n7 b0 b1 b2 b3 b4 b5 b6 : Nat} (a0 : 256 * n1 + b0 = y3) (a1 : 256 * n2 + b1 = n1) (a2 : 256 * n3 + b2 = n2) (a3 : 256 * n4 + b3 = n3) (a4 : 256 * n5 + b4 = n4) (a5 : 256 * n6 + b5 = n5) (a6 : 256 * n7 + b6 = n6) : y3 + n1 = (b0 + b1) + 256 * (b1 + b2) + 65536 * ((b2 + b3) + 256 * (b3 + b4) + 65536 * (b4 + b5) + 16777216 * (b5 + b6) + 4294967296 * (b6 + n7) + 1099511627776 * n7) := by
  subst a6
  subst a5
  subst a4
  subst a3
  subst a2
  subst a1
  subst a0
  omega
theorem bytes_d {b0 b1 b2 b3 b4 b5 b6 : Nat} (w0 : b0 ≤ 8) (w1 : b1 ≤ 8) (w2 : b2 ≤ 8) (w3 : b3 ≤ 8) (w4 : b4 ≤ 8) (w5 : b5 ≤ 8) (w6 : b6 ≤ 8) : (b0 + b1 + (b2 + b3)) + 256 * (b1 + b2 + (b3 + b4)) + 65536 * (b2 + b3 + (b4 + b5)) + 16777216 * (b3 + b4 + (b5 + b6)) < 4294967296 := by omega
theorem bytes_e {b0 b1 b2 b3 b4 b5 b6 b7 : Nat} : (b0 + b1) + 256 * (b1 + b2) + 65536 * ((b2 + b3) + 256 * (b3 + b4) + 65536 * (b4 + b5) + 16777216 * (b5 + b6) + 4294967296 * (b6 + b7) + 1099511627776 * b7) + ((b2 + b3) + 256 * (b3 + b4) + 65536 * (b4 + b5) + 16777216 * (b5 + b6) + 4294967296 * (b6 + b7) + 1099511627776 * b7) = ((b0 + b1 + (b2 + b3)) + 256 * (b1 + b2 + (b3 + b4)) + 65536 * (b2 + b3 + (b4 + b5)) + 16777216 * (b3 + b4 + (b5 + b6))) + 4294967296 * ((b4 + b5 + (b6 + b7)) + 256 * (b5 + b6 + b7) + 65536 * (b6 + b7) + 16777216 * b7) := by omega
theorem bytes_f {b0 b1 b2 b3 b4 b5 b6 b7 : Nat} : ((b0 + b1 + (b2 + b3)) + 256 * (b1 + b2 + (b3 + b4)) + 65536 * (b2 + b3 + (b4 + b5)) + 16777216 * (b3 + b4 + (b5 + b6))) + ((b4 + b5 + (b6 + b7)) + 256 * (b5 + b6 + b7) + 65536 * (b6 + b7) + 16777216 * b7) = b0 + (b1 + (b2 + (b3 + (b4 + (b5 + (b6 + (b7 + 0))))))) + 128 * (2 * (b1 + b2 + (b3 + b4)) + 512 * (b2 + b3 + (b4 + b5)) + 131072 * (b3 + b4 + (b5 + b6)) + (2 * (b5 + b6 + b7) + 512 * (b6 + b7) + 131072 * b7)) := by omega
theorem bytes_g {b0 b1 b2 b3 b4 b5 b6 b7 : Nat} (w0 : b0 ≤ 8) (w1 : b1 ≤ 8) (w2 : b2 ≤ 8) (w3 : b3 ≤ 8) (w4 : b4 ≤ 8) (w5 : b5 ≤ 8) (w6 : b6 ≤ 8) (w7 : b7 ≤ 8) : b0 + (b1 + (b2 + (b3 + (b4 + (b5 + (b6 + (b7 + 0))))))) < 128 := by omega
theorem bytes8 {y3 n1 n2 n3 n4 n5 n6 n7 b0 b1 b2 b3 b4 b5 b6 b7 y4 y5 P : Nat} (a0 : 256 * n1 + b0 = y3) (a1 : 256 * n2 + b1 = n1) (a2 : 256 * n3 + b2 = n2) (a3 : 256 * n4 + b3 = n3) (a4 : 256 * n5 + b4 = n4) (a5 : 256 * n6 + b5 = n5) (a6 : 256 * n7 + b6 = n6) (a7 : b7 = n7) (w0 : b0 ≤ 8) (w1 : b1 ≤ 8) (w2 : b2 ≤ 8) (w3 : b3 ≤ 8) (w4 : b4 ≤ 8) (w5 : b5 ≤ 8) (w6 : b6 ≤ 8) (w7 : b7 ≤ 8) (e4 : y4 = y3 + n1) (e5 : y5 = y4 + y4 / 65536) (t : b0 + (b1 + (b2 + (b3 + (b4 + (b5 + (b6 + (b7 + 0))))))) = P) : (y5 + y5 / 4294967296) % 128 = P := by
  have h4 := e4.trans (bytes_c a0 a1 a2 a3 a4 a5 a6)
  rw [← a7] at h4
  have u := bytes_a w0 w1 w2 w3 w4 w5 w6 w7 h4
  have e6 := e5
  rw [u, h4, bytes_e] at e6
  refine bytes_b (bytes_d w0 w1 w2 w3 w4 w5 w6) e6 ?_
  rw [bytes_f, Nat.add_mul_mod_self_left, Nat.mod_eq_of_lt (bytes_g w0 w1 w2 w3 w4 w5 w6 w7)]
  exact t
theorem bitc {x : Nat} (hx : x < 2 ^ 62) (h : MH) : F_J13_bitCount_95d88 (x : Int) h = some ((pcw 64 x : Int), h) := by
  have hx' : x < 4611686018427387904 := hx
  have l1 := s1_l 32 x (Nat.lt_trans hx (by decide))
  have e1 : M1 32 = 6148914691236517205 := by decide
  have e2 : M2 16 = 3689348814741910323 := by decide
  have e3 : M3 8 = 1085102592571150095 := by decide
  rw [e1] at l1
  have b1 : s1 32 x ≤ x := by omega
  have l2 := s2_l 16 (s1 32 x) (Nat.lt_of_lt_of_le (s1_b 32 x) (by decide))
  rw [e2] at l2
  have p2 := s1_p 16 x
  have p3 := s2_n 8 (s1 32 x) p2
  have l3 := s3_l 8 (s2 16 (s1 32 x)) p3
  rw [e3] at l3
  obtain ⟨q1, q2⟩ := s3_b 8 (s2 16 (s1 32 x)) p3
  have t : ds 256 8 (s3 8 (s2 16 (s1 32 x))) = pcw 64 x := by rw [d3 8, d2 16, d1 32]
  have v2b : s2 16 (s1 32 x) < 9223372036854775808 := by
    have a1 : s1 32 x &&& 3689348814741910323 ≤ 3689348814741910323 := Nat.and_le_right
    have a2 : s1 32 x / 4 &&& 3689348814741910323 ≤ 3689348814741910323 := Nat.and_le_right
    omega
  unfold F_J13_bitCount_95d88 F_J13_bitCount_95d88_0
  simp only [nx_eq]
  rw [ushr64n (show x < 2 ^ 63 by simp only [Nat.reducePow]; omega) (k := 1) (by decide) (by omega), show (6148914691236517205 : Int) = ((6148914691236517205 : Nat) : Int) from rfl, land64n (Nat.lt_of_le_of_lt (Nat.div_le_self _ _) (show x < 2 ^ 63 by simp only [Nat.reducePow]; omega)), show (2 : Nat) ^ 1 = 2 from rfl, show (x : Int) - ((x / 2 &&& 6148914691236517205 : Nat) : Int) = ((s1 32 x : Nat) : Int) by omega]
  generalize s1 32 x = y1 at *
  rw [ushr64n (show y1 < 2 ^ 63 by simp only [Nat.reducePow]; omega) (k := 2) (by decide) (by omega), show (3689348814741910323 : Int) = ((3689348814741910323 : Nat) : Int) from rfl, land64n (show y1 < 2 ^ 63 by simp only [Nat.reducePow]; omega), land64n (Nat.lt_of_le_of_lt (Nat.div_le_self _ _) (show y1 < 2 ^ 63 by simp only [Nat.reducePow]; omega)), show (2 : Nat) ^ 2 = 4 from rfl, show ((y1 &&& 3689348814741910323 : Nat) : Int) + ((y1 / 4 &&& 3689348814741910323 : Nat) : Int) = ((s2 16 y1 : Nat) : Int) by omega]
  have v2c : s2 16 y1 ≤ 7378697629483820646 := by
    have a1 : y1 &&& 3689348814741910323 ≤ 3689348814741910323 := Nat.and_le_right
    have a2 : y1 / 4 &&& 3689348814741910323 ≤ 3689348814741910323 := Nat.and_le_right
    omega
  generalize s2 16 y1 = y2 at *
  rw [ushr64n (show y2 < 2 ^ 63 by simp only [Nat.reducePow]; omega) (k := 4) (by decide) (by omega), show (2 : Nat) ^ 4 = 16 from rfl, show (1085102592571150095 : Int) = ((1085102592571150095 : Nat) : Int) from rfl, show (y2 : Int) + ((y2 / 16 : Nat) : Int) = ((y2 + y2 / 16 : Nat) : Int) by omega, land64n (show y2 + y2 / 16 < 2 ^ 63 by simp only [Nat.reducePow]; omega), l3]
  have y3b : s3 8 y2 ≤ 1085102592571150095 := by rw [← l3]; exact Nat.and_le_right
  generalize s3 8 y2 = y3 at *
  rw [ushr64n (show y3 < 2 ^ 63 by simp only [Nat.reducePow]; omega) (k := 8) (by decide) (by omega), show (2 : Nat) ^ 8 = 256 from rfl, show (y3 : Int) + ((y3 / 256 : Nat) : Int) = ((y3 + y3 / 256 : Nat) : Int) by omega]
  obtain ⟨y4, e4⟩ : ∃ y4, y4 = y3 + y3 / 256 := ⟨_, rfl⟩
  rw [← e4, ushr64n (show y4 < 2 ^ 63 by simp only [Nat.reducePow]; omega) (k := 16) (by decide) (by omega), show (2 : Nat) ^ 16 = 65536 from rfl, show (y4 : Int) + ((y4 / 65536 : Nat) : Int) = ((y4 + y4 / 65536 : Nat) : Int) by omega]
  obtain ⟨y5, e5⟩ : ∃ y5, y5 = y4 + y4 / 65536 := ⟨_, rfl⟩
  rw [← e5, ushr64n (show y5 < 2 ^ 63 by simp only [Nat.reducePow]; omega) (k := 32) (by decide) (by omega), show (2 : Nat) ^ 32 = 4294967296 from rfl, show (y5 : Int) + ((y5 / 4294967296 : Nat) : Int) = ((y5 + y5 / 4294967296 : Nat) : Int) by omega, land127]
  -- eight bytes, none above 8
  have t' := t
  rw [show ds 256 8 y3 = y3 % 256 + (y3 / 256 % 256 + (y3 / 256 / 256 % 256 + (y3 / 256 / 256 / 256 % 256 + (y3 / 256 / 256 / 256 / 256 % 256 + (y3 / 256 / 256 / 256 / 256 / 256 % 256 + (y3 / 256 / 256 / 256 / 256 / 256 / 256 % 256 + (y3 / 256 / 256 / 256 / 256 / 256 / 256 / 256 % 256 + 0))))))) from rfl] at t'
  have R : ∀ i, y3 / 256 ^ i % 256 ≤ 8 := q2
  have r0 := R 0
  have r1 := R 1
  have r2 := R 2
  have r3 := R 3
  have r4 := R 4
  have r5 := R 5
  have r6 := R 6
  have r7 := R 7
  rw [Nat.pow_zero, Nat.div_one] at r0
  rw [Nat.pow_one] at r1
  rw [show (256 : Nat) ^ 2 = 256 * 256 from rfl, ← Nat.div_div_eq_div_mul] at r2
  rw [show (256 : Nat) ^ 3 = 256 * 256 * 256 from rfl, ← Nat.div_div_eq_div_mul, ← Nat.div_div_eq_div_mul] at r3
  rw [show (256 : Nat) ^ 4 = 256 * 256 * 256 * 256 from rfl, ← Nat.div_div_eq_div_mul, ← Nat.div_div_eq_div_mul, ← Nat.div_div_eq_div_mul] at r4
  rw [show (256 : Nat) ^ 5 = 256 * 256 * 256 * 256 * 256 from rfl, ← Nat.div_div_eq_div_mul, ← Nat.div_div_eq_div_mul, ← Nat.div_div_eq_div_mul, ← Nat.div_div_eq_div_mul] at r5
  rw [show (256 : Nat) ^ 6 = 256 * 256 * 256 * 256 * 256 * 256 from rfl, ← Nat.div_div_eq_div_mul, ← Nat.div_div_eq_div_mul, ← Nat.div_div_eq_div_mul, ← Nat.div_div_eq_div_mul, ← Nat.div_div_eq_div_mul] at r6
  rw [show (256 : Nat) ^ 7 = 256 * 256 * 256 * 256 * 256 * 256 * 256 from rfl, ← Nat.div_div_eq_div_mul, ← Nat.div_div_eq_div_mul, ← Nat.div_div_eq_div_mul, ← Nat.div_div_eq_div_mul, ← Nat.div_div_eq_div_mul, ← Nat.div_div_eq_div_mul] at r7
  have a0 := Nat.div_add_mod y3 256
  have a1 := Nat.div_add_mod (y3 / 256) 256
  have a2 := Nat.div_add_mod (y3 / 256 / 256) 256
  have a3 := Nat.div_add_mod (y3 / 256 / 256 / 256) 256
  have a4 := Nat.div_add_mod (y3 / 256 / 256 / 256 / 256) 256
  have a5 := Nat.div_add_mod (y3 / 256 / 256 / 256 / 256 / 256) 256
  have a6 := Nat.div_add_mod (y3 / 256 / 256 / 256 / 256 / 256 / 256) 256
  have a7 : y3 / 256 / 256 / 256 / 256 / 256 / 256 / 256 % 256 = y3 / 256 / 256 / 256 / 256 / 256 / 256 / 256 := by
    apply Nat.mod_eq_of_lt
    rw [Nat.div_div_eq_div_mul, Nat.div_div_eq_div_mul, Nat.div_div_eq_div_mul, Nat.div_div_eq_div_mul, Nat.div_div_eq_div_mul, Nat.div_div_eq_div_mul]
    exact Nat.div_lt_of_lt_mul q1
  exact congrArg some (Prod.ext (congrArg Int.ofNat (bytes8 a0 a1 a2 a3 a4 a5 a6 a7 r0 r1 r2 r3 r4 r5 r6 r7 e4 e5 t')) rfl)
