/-! ===== heads: what each head covers, on both sides ===== -/
/-- head k (machine k / 24, place k % 24) fits -/
def fit (n w B : Nat) (Hm W : Nat → Nat) (k : Nat) : Bool := decide (k / 24 < n ∧ 1 < Hm (k / 24) ∧ k % 24 < Hm (k / 24) ∧ cn (pH W (Hm (k / 24)) (k % 24)) w = und B (Hm (k / 24)) (k % 24))
def pK (Hm W : Nat → Nat) (k : Nat) : Nat → Bool := pH W (Hm (k / 24)) (k % 24)
def cvr (n w B : Nat) (Hm W : Nat → Nat) (k : Nat) : Int := if fit n w B Hm W k then (bv (pK Hm W k) w : Int) else -1
theorem cov_l {c w B H hd : Nat} {W : Nat → Nat} {h : MH} (hw : w ≤ 60) (hB : 1 ≤ B ∧ B ≤ 9999) (hH : 1 < H ∧ H ≤ 24) (hh : hd < H) (hc : ∀ i, i < w → h c i = (W i : Int) ∧ W i < 10000) : ∀ (d f k : Nat), k + d = w → d < f →
    F_X2_coveredBy_20 f (hd : Int) (H : Int) c (w : Int) (B : Int) (bv (pH W H hd) k : Int) (k : Int) h = some (if cn (pH W H hd) w = und B H hd then (bv (pH W H hd) w : Int) else -1, h) := by
  have b60 : ∀ k, k ≤ 60 → bv (pH W H hd) k < 1152921504606846976 * 2 := fun k hk => by
    have := bv_lt (pH W H hd) k
    have e : 2 ^ k ≤ 2 ^ 60 := Nat.pow_le_pow_right (by omega) hk
    have e2 : (2 : Nat) ^ 60 = 1152921504606846976 := by decide
    omega
  have ub : und B H hd ≤ 10023 := by
    unfold und
    have := Nat.div_le_self (B + H - 1 - hd) H
    omega
  intro d
  induction d with
  | zero =>
    intro f k e hf
    obtain ⟨f, rfl⟩ : ∃ g, f = g + 1 := ⟨f - 1, by omega⟩
    have : k = w := by omega
    subst this
    have bb := b60 k hw
    have bc := bitc (x := bv (pH W H hd) k) (show bv (pH W H hd) k < 2 ^ 62 by simp only [Nat.reducePow]; omega) h
    rw [bv_pc _ k hw] at bc
    have cl := cn_le (pH W H hd) k
    have td : Int.tdiv ((B : Int) - 1 - (hd : Int) + (H : Int)) (H : Int) = ((und B H hd : Nat) : Int) := by
      rw [show (B : Int) - 1 - (hd : Int) + (H : Int) = ((B + H - 1 - hd : Nat) : Int) by omega, Int.tdiv_eq_ediv_of_nonneg (by omega)]
      unfold und
      rw [Int.natCast_ediv]
    rw [F_X2_coveredBy_20]
    unfold ck
    rw [if_pos (by omega), if_pos (by omega), if_pos (by omega), if_pos (by omega), if_pos (by omega), if_pos (by omega), nx_eq, td, bc, bind_eq]
    dsimp only
    rw [if_pos (by omega), if_pos (by omega)]
    by_cases q : cn (pH W H hd) k = und B H hd
    · rw [if_neg (by omega), if_pos q]
    · rw [if_pos (by omega), if_neg q]
  | succ d ih =>
    intro f k e hf
    obtain ⟨f, rfl⟩ : ∃ g, f = g + 1 := ⟨f - 1, by omega⟩
    obtain ⟨c1, c2⟩ := hc k (by omega)
    have bb := b60 k (by omega)
    have tm : Int.tmod ((W k : Nat) : Int) (H : Int) = ((W k % H : Nat) : Int) := by
      rw [Int.tmod_eq_emod_of_nonneg (by omega), Int.natCast_emod]
    have ml := Nat.mod_lt (W k) (show 0 < H by omega)
    rw [← ih f (k + 1) (by omega) (by omega), F_X2_coveredBy_20]
    unfold F_X2_coveredBy_48 ck
    rw [if_pos (by omega), if_pos (by omega), if_neg (by omega), if_pos (by omega), if_pos (by omega), show ((k : Int)).toNat = k by omega, c1, tm, if_pos (by omega), if_pos (by omega), if_pos (by omega), if_pos (by omega), show (k : Int) + 1 = ((k + 1 : Nat) : Int) by omega, bv]
    have e2k : (2 : Nat) ^ k ≤ 1152921504606846976 := by
      have e : 2 ^ k ≤ 2 ^ 60 := Nat.pow_le_pow_right (by omega) (show k ≤ 60 by omega)
      have e2 : (2 : Nat) ^ 60 = 1152921504606846976 := by decide
      omega
    by_cases q : pH W H hd k = true
    · have q' := pH_i.mp q
      rw [if_neg (by omega), if_pos q, nx_eq, shl64n k (by omega), lor64n (show bv (pH W H hd) k < 2 ^ 63 by simp only [Nat.reducePow]; omega) (show 2 ^ k < 2 ^ 63 by simp only [Nat.reducePow]; omega)]
    · have q' : ¬ W k % H = hd := fun x => q (pH_i.mpr x)
      rw [if_pos (by omega), if_neg q]
theorem fin_l {c n w B : Nat} {Hm W : Nat → Nat} (hcc : c < 70) (hn : n ≤ 6) (hw : w ≤ 60) (hB : 1 ≤ B ∧ B ≤ 9999) (hH : ∀ m, m < n → 1 ≤ Hm m ∧ Hm m ≤ 24) : ∀ (d f k : Nat) (h : MH), k + d = 144 → d < f → h 35 0 = (n : Int) → (∀ m, m < n → h 47 m = (Hm m : Int)) → (∀ i, i < w → h c i = (W i : Int) ∧ W i < 10000) →
    ∃ (e : Nat) (h' : MH), F_X2_finds_19 f 34 c (w : Int) (B : Int) (k : Int) h = F_X2_finds_19 (e + 1) 34 c (w : Int) (B : Int) 144 h' ∧ (∀ j, k ≤ j → j < 144 → h' 74 j = cvr n w B Hm W j) ∧ ∀ i u, ¬ (i = 74 ∧ k ≤ u) → h' i u = h i u := by
  intro d
  induction d with
  | zero =>
    intro f k h e hf _ _ _
    obtain ⟨f, rfl⟩ : ∃ g, f = g + 1 := ⟨f - 1, by omega⟩
    have : k = 144 := by omega
    subst this
    exact ⟨f, h, rfl, fun j a b => absurd a (by omega), fun _ _ _ => rfl⟩
  | succ d ih =>
    intro f k h e hf h0 h47 hc
    obtain ⟨f, rfl⟩ : ∃ g, f = g + 1 := ⟨f - 1, by omega⟩
    have dv : Int.tdiv (k : Int) 24 = ((k / 24 : Nat) : Int) := by rw [Int.tdiv_eq_ediv_of_nonneg (by omega), Int.natCast_ediv]; rfl
    have md : Int.tmod (k : Int) 24 = ((k % 24 : Nat) : Int) := by rw [Int.tmod_eq_emod_of_nonneg (by omega), Int.natCast_emod]; rfl
    have cb : ∃ H : Nat, F_X2_headsAt 34 (Int.tdiv (k : Int) 24) h = some ((H : Int), h) ∧ (k / 24 < n → H = Hm (k / 24)) ∧ (¬ k / 24 < n → H = 0) := by
      unfold F_X2_headsAt F_X2_headsAt_0 ck
      rw [dv, show 34 + 1 = 35 from rfl, show 34 + 13 = 47 from rfl, h0, if_pos (by omega), if_pos (by omega)]
      by_cases q : k / 24 < n
      · rw [if_neg (by omega), if_pos (by omega), show (((k / 24 : Nat) : Int)).toNat = k / 24 by omega, h47 _ q]
        exact ⟨_, rfl, fun _ => rfl, fun x => absurd q x⟩
      · rw [if_pos (by omega)]
        exact ⟨0, rfl, fun x => absurd x q, fun _ => rfl⟩
    obtain ⟨H, H1, H2, H3⟩ := cb
    have cv : F_X2_coveredBy (Int.tmod (k : Int) 24) (H : Int) c (w : Int) (B : Int) h = some (cvr n w B Hm W k, h) := by
      unfold F_X2_coveredBy F_X2_coveredBy_0 ck cvr fit
      rw [md]
      have Hb : H ≤ 24 := by
        by_cases q : k / 24 < n
        · rw [H2 q]; exact (hH _ q).2
        · rw [H3 q]; omega
      rw [if_pos (by omega)]
      by_cases q1 : H ≤ 1
      · rw [if_pos (by omega), if_neg]
        intro x
        have x := of_decide_eq_true x
        have := H2 x.1
        omega
      · have q0 : k / 24 < n := by
          by_cases q : k / 24 < n
          · exact q
          · have := H3 q; omega
        have He := H2 q0
        rw [if_neg (by omega), if_pos (by omega)]
        by_cases q2 : k % 24 < H
        · have z := cov_l (c := c) (w := w) (B := B) (H := H) (hd := k % 24) (W := W) (h := h) hw hB (by omega) q2 hc w 20000 0 (by omega) (by omega)
          rw [show bv (pH W H (k % 24)) 0 = 0 from rfl, show ((0 : Nat) : Int) = 0 from rfl] at z
          rw [if_pos (by omega), z, ← He]
          unfold pK
          rw [← He]
          by_cases q3 : cn (pH W H (k % 24)) w = und B H (k % 24)
          · rw [if_pos q3, if_pos (decide_eq_true ⟨q0, by omega, q2, q3⟩)]
          · rw [if_neg q3, if_neg (fun x => q3 (of_decide_eq_true x).2.2.2)]
        · rw [if_neg (by omega), if_neg]
          intro x
          have x := of_decide_eq_true x
          omega
    obtain ⟨e', h', a1, a2, a3⟩ := ih f (k + 1) (hup h 74 k (cvr n w B Hm W k)) (by omega) (by omega) (by rw [hup_n _ _ _ _ _ _ (by omega)]; exact h0) (fun m hm => by rw [hup_n _ _ _ _ _ _ (by omega)]; exact h47 m hm) (fun i hi => by rw [hup_n _ _ _ _ _ _ (by omega)]; exact hc i hi)
    refine ⟨e', h', ?_, fun j q1 q2 => ?_, fun i u q => by rw [a3 i u (by omega), hup_n _ _ _ _ _ _ (by omega)]⟩
    · rw [← a1, F_X2_finds_19]
      unfold ck
      rw [if_pos (by omega), if_neg (by omega), H1, bind_eq]
      dsimp only
      rw [cv, bind_eq]
      dsimp only
      rw [if_pos (by omega), nx_eq, show ((k : Int)).toNat = k by omega, show (k : Int) + 1 = ((k + 1 : Nat) : Int) by omega]
    · by_cases q : j = k
      · subst q; rw [a3 _ _ (by omega), hup_s]
      · exact a2 j (by omega) q2
/-! the other's list -/
def rkf (n w B : Nat) (Hm W : Nat → Nat) : Nat → Nat := cn (fit n w B Hm W)
def TL (n w B : Nat) (Hm W : Nat → Nat) (K : Nat) (g : MH) : Prop := g 141 39 = (rkf n w B Hm W K : Int) ∧ ∀ k, k < K → fit n w B Hm W k = true → g 155 (rkf n w B Hm W k) = ((k / 24 : Nat) : Int) ∧ g 156 (rkf n w B Hm W k) = ((k % 24 : Nat) : Int) ∧ g 157 (rkf n w B Hm W k) = ((und B (Hm (k / 24)) (k % 24) : Nat) : Int)
def K155 (g g' : MH) : Prop := ∀ c k, c ≠ 155 → c ≠ 156 → c ≠ 157 → ¬ (c = 141 ∧ k = 39) → g' c k = g c k
theorem K155.tr {a b c : MH} (x : K155 a b) (y : K155 b c) : K155 a c := fun i k e e2 e3 e4 => (y i k e e2 e3 e4).trans (x i k e e2 e3 e4)
/-- is every bottle under this head wrong? -/
theorem th51 {n w B m H hd : Nat} {W : Nat → Nat} {k7 : Int → Int → MH → Option MH} {k30 : Int → Int → Int → Int → MH → Option MH} {g : MH} (hB : 1 ≤ B ∧ B ≤ 9999) (hH : 1 < H ∧ H ≤ 24) (hh : hd < H) (hg : ∀ v, v < B → (g 154 v = 0 ∨ g 154 v = 1) ∧ (g 154 v = 1 ↔ ∃ i, i < w ∧ W i = v)) : ∀ (d f j : Nat), j + d = und B H hd → d + 1 < f → (∀ j', j' < j → ∃ i, i < w ∧ W i = hd + j' * H) →
    ∃ b : Int, ((b = 1 ∧ ∀ j', j' < und B H hd → ∃ i, i < w ∧ W i = hd + j' * H) ∨ (b = 0 ∧ ¬ ∀ j', j' < und B H hd → ∃ i, i < w ∧ W i = hd + j' * H)) ∧ ∃ x5 : Int, (b = 1 → x5 = ((und B H hd : Nat) : Int)) ∧ F_X12_takesHeads_51 k7 k30 f (B : Int) (m : Int) (H : Int) (hd : Int) (j : Int) 1 ((hd + j * H : Nat) : Int) g = F_X12_takesHeads_83 k7 k30 (B : Int) (m : Int) (H : Int) (hd : Int) x5 b g := by
  intro d
  induction d with
  | zero =>
    intro f j e hf hj
    obtain ⟨f, rfl⟩ : ∃ g, f = g + 1 := ⟨f - 1, by omega⟩
    have ej : j = und B H hd := by omega
    have lo := und_lo (B := B) (H := H) (hd := hd) hB.1 hh
    rw [← ej] at lo
    have b1 : j * H ≤ 10100 := by
      rw [ej]; unfold und
      have := Nat.div_mul_le_self (B + H - 1 - hd) H
      omega
    refine ⟨1, Or.inl ⟨rfl, by rw [← ej]; exact hj⟩, (j : Int), fun _ => by rw [ej], ?_⟩
    rw [F_X12_takesHeads_51]
    unfold ck
    generalize j * H = jH at *
    rw [if_pos (by omega), if_pos (by omega), if_pos (by omega)]
  | succ d ih =>
    intro f j e hf hj
    obtain ⟨f, rfl⟩ : ∃ g, f = g + 1 := ⟨f - 1, by omega⟩
    have hi := und_hi (B := B) (H := H) (hd := hd) (j := j) hB.1 hh (by omega)
    obtain ⟨v1, v2⟩ := hg (hd + j * H) hi
    have st : F_X12_takesHeads_51 k7 k30 (f + 1) (B : Int) (m : Int) (H : Int) (hd : Int) (j : Int) 1 ((hd + j * H : Nat) : Int) g = F_X12_takesHeads_51 k7 k30 f (B : Int) (m : Int) (H : Int) (hd : Int) ((j + 1 : Nat) : Int) (g 154 (hd + j * H)) ((hd + (j + 1) * H : Nat) : Int) g := by
      rw [Nat.add_mul j, Nat.one_mul]
      generalize j * H = jH at *
      rw [F_X12_takesHeads_51]
      unfold ck
      rw [if_pos (by omega), if_pos (by omega), if_neg (by omega), if_pos (by omega), if_neg (by omega), if_pos (by omega), nx_eq, nx_eq, show (((hd + jH : Nat) : Int)).toNat = hd + jH by omega, show (j : Int) + 1 = ((j + 1 : Nat) : Int) by omega, show ((hd + jH : Nat) : Int) + (H : Int) = ((hd + (jH + H) : Nat) : Int) by omega]
    rcases v1 with q | q
    · refine ⟨0, Or.inr ⟨rfl, fun x => ?_⟩, ((j + 1 : Nat) : Int), fun x => absurd x (by omega), ?_⟩
      · have := v2.mpr (x j (by omega)); omega
      · obtain ⟨f, rfl⟩ : ∃ g, f = g + 1 := ⟨f - 1, by omega⟩
        rw [st, q, F_X12_takesHeads_51, Nat.add_mul j, Nat.one_mul]
        unfold ck
        generalize j * H = jH at *
        rw [if_pos (by omega), if_pos (by omega)]
        by_cases q2 : (B : Int) ≤ ((hd + (jH + H) : Nat) : Int)
        · rw [if_pos q2]
        · rw [if_neg q2, if_pos (by omega), if_pos (by omega)]
    · obtain ⟨b, b1, x5, b2, b3⟩ := ih f (j + 1) (by omega) (by omega) (fun j' hj' => by
        by_cases z : j' = j
        · subst z; exact v2.mp q
        · exact hj j' (by omega))
      refine ⟨b, b1, x5, b2, ?_⟩
      rw [st, q]
      exact b3
