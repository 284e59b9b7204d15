/-! ===== counts, and heads that make every n-th bottle wrong ===== -/
def cn (p : Nat → Bool) : Nat → Nat
  | 0 => 0
  | k + 1 => cn p k + if p k then 1 else 0
theorem cn_le (p : Nat → Bool) : ∀ k, cn p k ≤ k
  | 0 => by rw [cn]; omega
  | k + 1 => by have := cn_le p k; rw [cn]; split <;> omega
theorem cn_mono (p : Nat → Bool) {j : Nat} : ∀ d, cn p j ≤ cn p (j + d)
  | 0 => Nat.le_refl _
  | d + 1 => by have := cn_mono p (j := j) d; rw [← Nat.add_assoc, cn]; omega
theorem cn_all (p : Nat → Bool) : ∀ k, cn p k = k ↔ ∀ i, i < k → p i = true
  | 0 => ⟨fun _ i hi => absurd hi (by omega), fun _ => rfl⟩
  | k + 1 => by
    have := cn_le p k
    have ih := cn_all p k
    rw [cn]
    constructor
    · intro h i hi
      by_cases q : p k = true
      · rw [if_pos q] at h
        by_cases e : i = k
        · subst e; exact q
        · exact ih.mp (by omega) i (by omega)
      · rw [if_neg q] at h; omega
    · intro h
      rw [if_pos (h k (by omega)), ih.mpr (fun i hi => h i (by omega))]
theorem cn_or (p q : Nat → Bool) : ∀ k, cn (fun i => p i || q i) k + cn (fun i => p i && q i) k = cn p k + cn q k
  | 0 => rfl
  | k + 1 => by
    have := cn_or p q k
    rw [cn, cn, cn, cn]
    cases p k <;> cases q k <;> simp <;> omega
def bv (p : Nat → Bool) : Nat → Nat
  | 0 => 0
  | k + 1 => if p k then bv p k ||| 2 ^ k else bv p k
theorem bv_lt (p : Nat → Bool) : ∀ k, bv p k < 2 ^ k
  | 0 => by rw [bv, Nat.pow_zero]; omega
  | k + 1 => by
    have := bv_lt p k
    have e : 2 ^ (k + 1) = 2 ^ k * 2 := Nat.pow_succ 2 k
    rw [bv]
    split
    · exact Nat.or_lt_two_pow (by omega) (by have : 1 ≤ 2 ^ k := Nat.one_le_two_pow; omega)
    · omega
theorem bv_t (p : Nat → Bool) (i : Nat) : ∀ k, (bv p k).testBit i = (decide (i < k) && p i)
  | 0 => by rw [bv]; simp
  | k + 1 => by
    have ih := bv_t p i k
    rw [bv]
    by_cases q : p k = true
    · rw [if_pos q, Nat.testBit_or, ih, Nat.testBit_two_pow]
      by_cases e : k = i
      · subst e; simp [q]
      · by_cases l : i < k
        · simp [l, e, show i < k + 1 by omega]
        · simp [l, e, show ¬ i < k + 1 by omega]
    · rw [if_neg q, ih]
      by_cases e : i = k
      · subst e; simp [q]
      · by_cases l : i < k
        · simp [l, show i < k + 1 by omega]
        · simp [l, show ¬ i < k + 1 by omega]
theorem bv_or (p q : Nat → Bool) (k : Nat) : bv p k ||| bv q k = bv (fun i => p i || q i) k := by
  apply Nat.eq_of_testBit_eq
  intro i
  rw [Nat.testBit_or, bv_t, bv_t, bv_t]
  cases decide (i < k) <;> simp
theorem bv_all (p : Nat → Bool) (k : Nat) : bv p k = 2 ^ k - 1 ↔ ∀ i, i < k → p i = true := by
  constructor
  · intro h i hi
    have z := bv_t p i k
    rw [h, Nat.testBit_two_pow_sub_one] at z
    simpa [hi] using z
  · intro h
    apply Nat.eq_of_testBit_eq
    intro i
    rw [bv_t, Nat.testBit_two_pow_sub_one]
    by_cases l : i < k
    · simp [l, h i l]
    · simp [l]
theorem pcw_0 : ∀ n, pcw n 0 = 0
  | 0 => rfl
  | n + 1 => by rw [pcw, Nat.zero_div, pcw_0 n]
theorem pcw_add : ∀ k n x, k < n → x < 2 ^ k → pcw n (x + 2 ^ k) = pcw n x + 1
  | 0, n, x, h, hx => by
    obtain ⟨n, rfl⟩ : ∃ m, n = m + 1 := ⟨n - 1, by omega⟩
    rw [Nat.pow_zero] at hx
    have : x = 0 := by omega
    subst this
    rw [Nat.pow_zero, pcw, pcw, Nat.zero_div, show (0 + 1) / 2 = 0 from rfl, show (0 + 1) % 2 = 1 from rfl, pcw_0, show 0 % 2 = 0 from rfl]
  | k + 1, n, x, h, hx => by
    obtain ⟨n, rfl⟩ : ∃ m, n = m + 1 := ⟨n - 1, by omega⟩
    have e : 2 ^ (k + 1) = 2 ^ k * 2 := Nat.pow_succ 2 k
    have ih := pcw_add k n (x / 2) (by omega) (by omega)
    rw [pcw, pcw, e, show (x + 2 ^ k * 2) % 2 = x % 2 by omega, show (x + 2 ^ k * 2) / 2 = x / 2 + 2 ^ k by omega, ih]
    omega
theorem bv_pc (p : Nat → Bool) : ∀ k, k ≤ 60 → pcw 64 (bv p k) = cn p k
  | 0, _ => by rw [bv, pcw_0]; rfl
  | k + 1, h => by
    have ih := bv_pc p k (by omega)
    rw [bv, cn]
    by_cases q : p k = true
    · have := Nat.two_pow_add_eq_or_of_lt (bv_lt p k) 1
      rw [if_pos q, if_pos q, Nat.or_comm, ← Nat.mul_one (2 ^ k), ← this, Nat.mul_one, Nat.add_comm, pcw_add k 64 _ (by omega) (bv_lt p k), ih]
    · rw [if_neg q, if_neg q, ih, Nat.add_zero]
/-! every n-th bottle -/
theorem mgap {u v H hd : Nat} (hu : u % H = hd) (hv : v % H = hd) (h : u < v) : u + H ≤ v := by
  have a := Nat.div_add_mod u H
  have b := Nat.div_add_mod v H
  have c : u / H < v / H := by
    rcases Nat.lt_or_ge (u / H) (v / H) with q | q
    · exact q
    · have := Nat.mul_le_mul_left H q
      omega
  have := Nat.mul_le_mul_left H (show u / H + 1 ≤ v / H from c)
  rw [Nat.mul_add, Nat.mul_one] at this
  omega
def und (B H hd : Nat) : Nat := (B + H - 1 - hd) / H
theorem und_lo {B H hd : Nat} (hB : 1 ≤ B) (hh : hd < H) : B ≤ hd + und B H hd * H := by
  unfold und
  have a := Nat.div_add_mod (B + H - 1 - hd) H
  have b := Nat.mod_lt (B + H - 1 - hd) (show 0 < H by omega)
  rw [Nat.mul_comm] at a
  omega
theorem und_hi {B H hd j : Nat} (hB : 1 ≤ B) (hh : hd < H) (hj : j < und B H hd) : hd + j * H < B := by
  unfold und at hj
  have a := Nat.div_mul_le_self (B + H - 1 - hd) H
  have b := Nat.mul_le_mul_right H (show j + 1 ≤ (B + H - 1 - hd) / H from hj)
  rw [Nat.add_mul, Nat.one_mul] at b
  omega
/-- wrong bottles under a head -/
def pH (W : Nat → Nat) (H hd : Nat) (i : Nat) : Bool := decide (W i % H = hd)
theorem pH_i {W : Nat → Nat} {H hd i : Nat} : pH W H hd i = true ↔ W i % H = hd := by unfold pH; exact decide_eq_true_iff
/-- all later ones lie a whole round further -/
theorem up_l {W : Nat → Nat} {H hd w : Nat} (hW : ∀ i j, i < j → j < w → W i < W j) : ∀ k, k ≤ w → ∀ v, v % H = hd → (∀ i, i < k → pH W H hd i = true → W i < v) → hd + cn (pH W H hd) k * H ≤ v
  | 0, _, v, hv, _ => by
    rw [cn, Nat.zero_mul, Nat.add_zero, ← hv]
    exact Nat.mod_le _ _
  | k + 1, hk, v, hv, hl => by
    rw [cn]
    by_cases q : pH W H hd k = true
    · have a := up_l hW k (by omega) (W k) (pH_i.mp q) (fun i hi _ => hW i k hi (by omega))
      have b := mgap (pH_i.mp q) hv (hl k (by omega) q)
      rw [if_pos q, Nat.add_mul, Nat.one_mul]
      omega
    · rw [if_neg q, Nat.add_zero]
      exact up_l hW k (by omega) v hv (fun i hi => hl i (by omega))
theorem up_2 {W : Nat → Nat} {H hd w i0 : Nat} (hW : ∀ i j, i < j → j < w → W i < W j) (h0 : pH W H hd i0 = true) : ∀ d, i0 + 1 + d ≤ w → ∀ v, v % H = hd → (∀ i, i < i0 + 1 + d → pH W H hd i = true → W i < v) → W i0 + (cn (pH W H hd) (i0 + 1 + d) - cn (pH W H hd) (i0 + 1) + 1) * H ≤ v
  | 0, _, v, hv, hl => by
    have b := mgap (pH_i.mp h0) hv (hl i0 (by omega) h0)
    rw [Nat.add_zero, Nat.sub_self, Nat.zero_add, Nat.one_mul]
    exact b
  | d + 1, hk, v, hv, hl => by
    have m := cn_mono (pH W H hd) (j := i0 + 1) d
    rw [show i0 + 1 + (d + 1) = i0 + 1 + d + 1 by omega, cn]
    by_cases q : pH W H hd (i0 + 1 + d) = true
    · have a := up_2 hW h0 d (by omega) (W (i0 + 1 + d)) (pH_i.mp q) (fun i hi _ => hW i _ hi (by omega))
      have b := mgap (pH_i.mp q) hv (hl (i0 + 1 + d) (by omega) q)
      rw [if_pos q, show cn (pH W H hd) (i0 + 1 + d) + 1 - cn (pH W H hd) (i0 + 1) + 1 = cn (pH W H hd) (i0 + 1 + d) - cn (pH W H hd) (i0 + 1) + 1 + 1 by omega, Nat.add_mul _ 1, Nat.one_mul]
      omega
    · rw [if_neg q, Nat.add_zero]
      exact up_2 hW h0 d (by omega) v hv (fun i hi => hl i (by omega))
/-- the count passes every number below it -/
theorem cn_hit (p : Nat → Bool) {j : Nat} : ∀ k, j < cn p k → ∃ i, i < k ∧ p i = true ∧ cn p i = j
  | 0, h => by rw [cn] at h; omega
  | k + 1, h => by
    rw [cn] at h
    rcases Nat.lt_or_ge j (cn p k) with q | q
    · obtain ⟨i, a, b, c⟩ := cn_hit p k q
      exact ⟨i, by omega, b, c⟩
    · by_cases q2 : p k = true
      · rw [if_pos q2] at h
        exact ⟨k, by omega, q2, by omega⟩
      · rw [if_neg q2] at h; omega
/-- the head fits: as many wrong under it as there are bottles under it: then every one is wrong -/
theorem fit_iff {W : Nat → Nat} {H hd w B : Nat} (hB : 1 ≤ B) (hh : hd < H) (hW : ∀ i j, i < j → j < w → W i < W j) (hb : ∀ i, i < w → W i < B) : cn (pH W H hd) w = und B H hd ↔ ∀ j, j < und B H hd → ∃ i, i < w ∧ W i = hd + j * H := by
  have vm : ∀ j, (hd + j * H) % H = hd := fun j => by rw [Nat.add_mul_mod_self_right, Nat.mod_eq_of_lt hh]
  have lo := und_lo hB hh
  have tot : cn (pH W H hd) w ≤ und B H hd := by
    have a := up_l (H := H) (hd := hd) hW w (by omega) (hd + und B H hd * H) (vm _) (fun i hi _ => by have := hb i hi; omega)
    rcases Nat.lt_or_ge (und B H hd) (cn (pH W H hd) w) with q | q
    · have := Nat.mul_le_mul_right H (show und B H hd + 1 ≤ cn (pH W H hd) w from q)
      rw [Nat.add_mul, Nat.one_mul] at this
      omega
    · exact q
  constructor
  · intro e j hj
    obtain ⟨i, i1, i2, i3⟩ := cn_hit (pH W H hd) (j := j) w (by omega)
    have a := up_l (H := H) (hd := hd) hW i (by omega) (W i) (pH_i.mp i2) (fun i' hi' _ => hW i' i hi' i1)
    rw [i3] at a
    refine ⟨i, i1, ?_⟩
    rcases Nat.lt_or_ge (hd + j * H) (W i) with q | q
    · exfalso
      have b := mgap (vm j) (pH_i.mp i2) q
      have c := up_2 hW i2 (w - i - 1) (by omega) (hd + und B H hd * H) (vm _) (fun i' hi' _ => by have := hb i' (by omega); omega)
      rw [show i + 1 + (w - i - 1) = w by omega, e, show cn (pH W H hd) (i + 1) = j + 1 by rw [cn, if_pos i2, i3]] at c
      have d : (und B H hd - (j + 1) + 1) * H + (j + 1) * H = und B H hd * H + H := by
        rw [← Nat.add_mul, show und B H hd - (j + 1) + 1 + (j + 1) = und B H hd + 1 by omega, Nat.add_mul, Nat.one_mul]
      rw [Nat.add_mul j, Nat.one_mul] at d
      omega
    · omega
  · intro h
    have st : ∀ j, j ≤ und B H hd → ∃ k, k ≤ w ∧ j ≤ cn (pH W H hd) k ∧ ∀ i, i < k → W i < hd + j * H := by
      intro j
      induction j with
      | zero => intro _; exact ⟨0, by omega, by omega, fun i hi => absurd hi (by omega)⟩
      | succ j ih =>
        intro hj
        obtain ⟨k, k1, k2, k3⟩ := ih (by omega)
        obtain ⟨i, i1, i2⟩ := h j (by omega)
        have ki : k ≤ i := by
          rcases Nat.lt_or_ge i k with q | q
          · have := k3 i q; omega
          · exact q
        have pi : pH W H hd i = true := pH_i.mpr (by rw [i2]; exact vm j)
        have m := cn_mono (pH W H hd) (j := k) (i - k)
        rw [show k + (i - k) = i by omega] at m
        refine ⟨i + 1, by omega, by rw [cn, if_pos pi]; omega, fun i' hi' => ?_⟩
        rw [Nat.add_mul, Nat.one_mul]
        by_cases q : i' = i
        · subst q; omega
        · have := hW i' i (by omega) i1; omega
    obtain ⟨k, k1, k2, k3⟩ := st (und B H hd) (by omega)
    have m := cn_mono (pH W H hd) (j := k) (w - k)
    rw [show k + (w - k) = w by omega] at m
    omega
