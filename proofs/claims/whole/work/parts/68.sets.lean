/-! ===== small sets of sorts as numbers ===== -/
def bt (S k : Nat) : Bool := (S / 2 ^ k) % 2 == 1
def dl (S k : Nat) : Nat := if bt S k then S - 2 ^ k else S
def pc (S : Nat) : Nat := S % 2 + S / 2 % 2 + S / 4 % 2 + S / 8 % 2 + S / 16 % 2 + S / 32 % 2 + S / 64 % 2
theorem st_bit : ∀ S : Nat, S < 128 → ∀ k : Nat, k < 7 → land32 (shr32 (S : Int) (k : Int)) 1 = if bt S k then 1 else 0 := by decide +kernel
theorem st_dl : ∀ S : Nat, S < 128 → ∀ k : Nat, k < 7 → land32 (S : Int) (lxor32 (shl32 1 (k : Int)) (-1)) = (dl S k : Int) := by decide +kernel
theorem st_lt : ∀ S : Nat, S < 128 → ∀ k : Nat, k < 7 → dl S k < 128 ∧ (bt S k = true → dl S k < S ∧ pc (dl S k) + 1 = pc S ∧ bt (dl S k) k = false) := by decide +kernel
theorem st_bd : ∀ S : Nat, S < 128 → ∀ k : Nat, k < 7 → ∀ j : Nat, j < 7 → bt (dl S k) j = (bt S j && decide (j ≠ k)) := by decide +kernel
theorem st_pc : ∀ S : Nat, S < 128 → (pc S = 0 → S = 0) ∧ pc S ≤ 7 := by decide +kernel
theorem st_sh : ∀ k : Nat, k < 8 → shl32 1 (k : Int) = ((2 ^ k : Nat) : Int) := by decide +kernel
theorem st_hi : ∀ n : Nat, n < 8 → ∀ S : Nat, S < 128 → S < 2 ^ n → ∀ k : Nat, k < 7 → bt S k = true → k < n := by decide +kernel
theorem st_ex : ∀ S : Nat, S < 128 → S ≠ 0 → ∃ k : Nat, k < 7 ∧ bt S k = true := by decide +kernel
theorem st_j6 : ∀ S : Nat, S < 128 → (F_J6_bitCount_0f7a4 (S : Int) (fun _ _ => 0)).map (fun q => q.1) = some (pc S : Int) := by decide +kernel
theorem st_lo : ∀ S : Nat, S < 128 → S ≠ 0 → ∃ T : Nat, T < S ∧ land32 (S : Int) ((S : Int) - 1) = (T : Int) ∧ pc T + 1 = pc S := by decide +kernel
