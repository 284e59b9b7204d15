/-! ===== a small heap of whole numbers over the machine's: cells by number, slots by number ===== -/
abbrev MH : Type := Nat → Nat → Int
abbrev GH : Type := Nat → Nat → Option Nat
def hup (h : MH) (c k : Nat) (v : Int) : MH := fun c' k' => if c' = c ∧ k' = k then v else h c' k'
def hcp (h : MH) (c1 p1 c2 p2 n : Nat) : MH := fun c' k' => if c' = c2 ∧ p2 ≤ k' ∧ k' < p2 + n then h c1 (p1 + (k' - p2)) else h c' k'
def gup (g : GH) (c k : Nat) (v : Nat) : GH := fun c' k' => if c' = c ∧ k' = k then some v else g c' k'
abbrev in32 (x : Int) : Prop := -2147483648 ≤ x ∧ x ≤ 2147483647
abbrev in64 (x : Int) : Prop := -9223372036854775808 ≤ x ∧ x ≤ 9223372036854775807
def ck {α : Type} (P : Prop) [Decidable P] (k : Option α) : Option α := if P then k else none
theorem ck_some {α : Type} {P : Prop} [Decidable P] {k : Option α} {t : α} (h : ck P k = some t) : P ∧ k = some t := by
  unfold ck at h
  by_cases hp : P
  · rw [if_pos hp] at h; exact ⟨hp, h⟩
  · rw [if_neg hp] at h; cases h
theorem ck_pos {α : Type} {P : Prop} [Decidable P] {k : Option α} (h : P) : ck P k = k := if_pos h
theorem ite_some {α : Type} {c : Prop} [Decidable c] {a b : Option α} {t : α} (h : (if c then a else b) = some t) : (c ∧ a = some t) ∨ (¬ c ∧ b = some t) := by
  by_cases hp : c
  · rw [if_pos hp] at h; exact Or.inl ⟨hp, h⟩
  · rw [if_neg hp] at h; exact Or.inr ⟨hp, h⟩
theorem bind_some {α β : Type} {o : Option α} {k : α → Option β} {t : β} (h : o.bind k = some t) : ∃ a, o = some a ∧ k a = some t := by
  cases o with
  | none => cases h
  | some a => exact ⟨a, rfl, h⟩
def iv (a : Int) : Value := .int (Int32.ofInt a)
def lvv (a : Int) : Value := .long (Int64.ofInt a)
def rfv (ad : Nat → Nat) (c : Nat) : Value := .ref (ad c)
/-! what comes of numbers that are cut -/
def land32 (x y : Int) : Int := (Int32.ofInt x &&& Int32.ofInt y).toInt
def lor32 (x y : Int) : Int := (Int32.ofInt x ||| Int32.ofInt y).toInt
def lxor32 (x y : Int) : Int := (Int32.ofInt x ^^^ Int32.ofInt y).toInt
def land64 (x y : Int) : Int := (Int64.ofInt x &&& Int64.ofInt y).toInt
def lor64 (x y : Int) : Int := (Int64.ofInt x ||| Int64.ofInt y).toInt
def lxor64 (x y : Int) : Int := (Int64.ofInt x ^^^ Int64.ofInt y).toInt
def shl32 (x y : Int) : Int := (Int32.ofInt x <<< (Int32.ofInt y &&& 31)).toInt
def shr32 (x y : Int) : Int := (Int32.ofInt x >>> (Int32.ofInt y &&& 31)).toInt
def shl64 (x y : Int) : Int := (Int64.ofInt x <<< ((Int32.ofInt y).toInt64 &&& 63)).toInt
def shr64 (x y : Int) : Int := (Int64.ofInt x >>> ((Int32.ofInt y).toInt64 &&& 63)).toInt
def ushr32 (x y : Int) : Int := ((Int32.ofInt x).toUInt32 >>> ((Int32.ofInt y).toUInt32 &&& Int32.toUInt32 31)).toInt32.toInt
def ushr64 (x y : Int) : Int := ((Int64.ofInt x).toUInt64 >>> ((Int32.ofInt y).toInt64.toUInt64 &&& Int64.toUInt64 63)).toInt64.toInt
def w8 (x : Int) : Int := (x + 128) % 256 - 128
def w16 (x : Int) : Int := (x + 32768) % 65536 - 32768
theorem w8_bmod (x : Int) : x.bmod 256 = w8 x := by
  unfold w8
  rw [Int.bmod_def]
  split <;> omega
theorem w16_bmod (x : Int) : x.bmod 65536 = w16 x := by
  unfold w16
  rw [Int.bmod_def]
  split <;> omega
theorem i_toInt {x : Int} (h : in32 x) : (Int32.ofInt x).toInt = x := Int32.toInt_ofInt_of_le (by omega) (by omega)
theorem l_toInt {x : Int} (h : in64 x) : (Int64.ofInt x).toInt = x := Int64.toInt_ofInt_of_le (by omega) (by omega)
theorem i_lt {x y : Int} (hx : in32 x) (hy : in32 y) : Int32.ofInt x < Int32.ofInt y ↔ x < y := by rw [Int32.lt_iff_toInt_lt, i_toInt hx, i_toInt hy]
theorem i_le {x y : Int} (hx : in32 x) (hy : in32 y) : Int32.ofInt x ≤ Int32.ofInt y ↔ x ≤ y := by rw [Int32.le_iff_toInt_le, i_toInt hx, i_toInt hy]
theorem i_eq {x y : Int} (hx : in32 x) (hy : in32 y) : Int32.ofInt x = Int32.ofInt y ↔ x = y := by rw [← Int32.toInt_inj, i_toInt hx, i_toInt hy]
theorem l_lt {x y : Int} (hx : in64 x) (hy : in64 y) : Int64.ofInt x < Int64.ofInt y ↔ x < y := by rw [Int64.lt_iff_toInt_lt, l_toInt hx, l_toInt hy]
theorem l_le {x y : Int} (hx : in64 x) (hy : in64 y) : Int64.ofInt x ≤ Int64.ofInt y ↔ x ≤ y := by rw [Int64.le_iff_toInt_le, l_toInt hx, l_toInt hy]
theorem l_eq {x y : Int} (hx : in64 x) (hy : in64 y) : Int64.ofInt x = Int64.ofInt y ↔ x = y := by rw [← Int64.toInt_inj, l_toInt hx, l_toInt hy]
theorem i_0 : Int32.ofInt 0 = 0 := by decide +kernel
theorem l_0 : Int64.ofInt 0 = 0 := by decide +kernel
theorem in32_0 : in32 0 := by decide
theorem i_in {x : Int} {n : Nat} (h : 0 ≤ x ∧ x < (n : Int)) (hn : n < 2147483648) : vp_in (Int32.ofInt x) n := vp_in_iff.mpr (by rw [i_toInt (by omega)]; omega)
theorem i_cl {x : Int} (h : in32 x) : (Int32.ofInt x).toNatClampNeg = x.toNat := by show (Int32.ofInt x).toInt.toNat = x.toNat; rw [i_toInt h]
theorem i_sub (x y : Int) : Int32.ofInt x - Int32.ofInt y = Int32.ofInt (x - y) := by
  rw [Int.sub_eq_add_neg, Int32.ofInt_add, ← Int32.neg_ofInt, Int32.sub_eq_add_neg]
theorem l_sub (x y : Int) : Int64.ofInt x - Int64.ofInt y = Int64.ofInt (x - y) := by
  rw [Int.sub_eq_add_neg, Int64.ofInt_add, ← Int64.neg_ofInt, Int64.sub_eq_add_neg]
theorem i_div {x y : Int} (hx : in32 x) (hy : in32 y) : Int32.ofInt x / Int32.ofInt y = Int32.ofInt (x.tdiv y) := by
  apply Int32.toInt.inj
  rw [Int32.toInt_div, i_toInt hx, i_toInt hy, Int32.toInt_ofInt]
theorem l_div {x y : Int} (hx : in64 x) (hy : in64 y) : Int64.ofInt x / Int64.ofInt y = Int64.ofInt (x.tdiv y) := by
  apply Int64.toInt.inj
  rw [Int64.toInt_div, l_toInt hx, l_toInt hy, Int64.toInt_ofInt]
theorem i_rem {x y : Int} (hx : in32 x) (hy : in32 y) : Int32.ofInt x - Int32.ofInt x / Int32.ofInt y * Int32.ofInt y = Int32.ofInt (x.tmod y) := by
  rw [i_div hx hy, ← Int32.ofInt_mul, i_sub, Int.tmod_def, Int.mul_comm y]
theorem l_rem {x y : Int} (hx : in64 x) (hy : in64 y) : Int64.ofInt x - Int64.ofInt x / Int64.ofInt y * Int64.ofInt y = Int64.ofInt (x.tmod y) := by
  rw [l_div hx hy, ← Int64.ofInt_mul, l_sub, Int.tmod_def, Int.mul_comm y]
theorem i_ne0 {y : Int} (hy : in32 y) (h : y ≠ 0) : ¬ Int32.ofInt y = 0 := fun q => h ((i_eq hy in32_0).mp (q.trans i_0.symm))
theorem l_ne0 {y : Int} (hy : in64 y) (h : y ≠ 0) : ¬ Int64.ofInt y = 0 := fun q => h ((l_eq hy (by decide)).mp (q.trans l_0.symm))
theorem i_bk (x : Int32) : Int32.ofInt x.toInt = x := Int32.ofInt_toInt x
theorem l_bk (x : Int64) : Int64.ofInt x.toInt = x := Int64.ofInt_toInt x
theorem i_i2l {x : Int} (h : in32 x) : (Int32.ofInt x).toInt64 = Int64.ofInt x := by
  apply Int64.toInt.inj
  rw [Int32.toInt_toInt64, i_toInt h, l_toInt ⟨by omega, by omega⟩]
theorem i_i2b (x : Int) : (Int32.ofInt x).toInt8.toInt32 = Int32.ofInt (w8 x) := by
  apply Int32.toInt.inj
  rw [Int32.toInt8_ofInt, Int8.toInt_toInt32, Int8.toInt_ofInt]
  have : in32 (w8 x) := by unfold w8; constructor <;> omega
  rw [i_toInt this]
  exact w8_bmod x
theorem i_i2s (x : Int) : (Int32.ofInt x).toInt16.toInt32 = Int32.ofInt (w16 x) := by
  apply Int32.toInt.inj
  rw [Int32.toInt16_ofInt, Int16.toInt_toInt32, Int16.toInt_ofInt]
  have : in32 (w16 x) := by unfold w16; constructor <;> omega
  rw [i_toInt this]
  exact w16_bmod x
