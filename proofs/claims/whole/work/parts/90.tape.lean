/-! ===== the tape: texts on both sides ===== -/
theorem by_dec : ∀ b : Nat, b < 256 → land32 ((b : Int) - 128) 255 = ((b : Int) - 128) % 256 := by decide +kernel
theorem by_e {b : Int} (h : -128 ≤ b ∧ b ≤ 127) : land32 b 255 = b % 256 := by
  have := by_dec (b + 128).toNat (by omega)
  rw [show (((b + 128).toNat : Nat) : Int) - 128 = b by omega] at this
  exact this
/-- the class's text of L bytes -/
def TC (L : Nat) (h : MH) : Prop := h 8 2 = (L : Int) ∧ L ≤ 700 ∧ ∀ k, k < L → -128 ≤ h 9 k ∧ h 9 k ≤ 127
/-- the other's beside it -/
def TO (L : Nat) (h g : MH) : Prop := g 141 10 = (L : Int) ∧ ∀ k, k < L → g 147 k = h 9 k
theorem by_o {L k : Nat} {h g : MH} (c : TC L h) (o : TO L h g) (hk : k ≤ 700) : F_X12_byteAt (k : Int) g = some (if k < L then h 9 k % 256 else -1, g) := by
  obtain ⟨c1, c2, c3⟩ := c
  obtain ⟨o1, o2⟩ := o
  unfold F_X12_byteAt F_X12_byteAt_0 ck
  rw [o1, if_pos (by omega), if_pos (by omega)]
  by_cases q : k < L
  · rw [if_neg (by omega), if_pos (by omega), show ((k : Int)).toNat = k by omega, o2 k q, by_e (c3 k q), if_pos q]
  · rw [if_pos (by omega), if_neg q]
theorem sm_o {b : Int} {g : MH} (h : in32 b) : F_X12_isSmall b g = some (if 97 ≤ b ∧ b ≤ 122 then 1 else 0, g) := by
  unfold F_X12_isSmall F_X12_isSmall_0 ck
  rw [if_pos h]
  by_cases q1 : b < 97
  · rw [if_pos q1, if_neg (by omega)]
  · rw [if_neg q1]
    by_cases q2 : 122 < b
    · rw [if_pos q2, if_neg (by omega)]
    · rw [if_neg q2, if_pos (by omega)]
theorem dg_o {b : Int} {g : MH} (h : in32 b) : F_X12_isDigit b g = some (if 48 ≤ b ∧ b ≤ 57 then 1 else 0, g) := by
  unfold F_X12_isDigit F_X12_isDigit_0 ck
  rw [if_pos h]
  by_cases q1 : b < 48
  · rw [if_pos q1, if_neg (by omega)]
  · rw [if_neg q1]
    by_cases q2 : 57 < b
    · rw [if_pos q2, if_neg (by omega)]
    · rw [if_neg q2, if_pos (by omega)]
/-- n bytes of the text from a place -/
def wrd (h : MH) (p : Nat) : Nat → List Int
  | 0 => []
  | n + 1 => wrd h p n ++ [h 9 (p + n)]
theorem wrd_len {h : MH} {p : Nat} : ∀ n, (wrd h p n).length = n
  | 0 => rfl
  | n + 1 => by rw [wrd, List.length_append, wrd_len n]; rfl
theorem wrd_lw {h : MH} {p : Nat} : ∀ n, (∀ i, i < n → 97 ≤ h 9 (p + i) ∧ h 9 (p + i) ≤ 122) → lw (wrd h p n)
  | 0, _ => fun c hc => by cases hc
  | n + 1, w => fun c hc => by
    rw [wrd] at hc
    rcases List.mem_append.mp hc with q | q
    · exact wrd_lw n (fun i hi => w i (by omega)) c q
    · rw [List.mem_singleton.mp q]; exact w n (by omega)
theorem wrd_e {h h' : MH} {p : Nat} (w : ∀ k, h' 9 k = h 9 k) : ∀ n, wrd h' p n = wrd h p n
  | 0 => rfl
  | n + 1 => by rw [wrd, wrd, wrd_e w n, w]
theorem shlN {x k : Nat} {y : Int} (e : (Int32.ofInt y).toInt64 &&& 63 = Int64.ofNat k) (e5 : (Int64.toBitVec (Int64.ofNat k)).smod 64 = BitVec.ofNat 64 k) (hk : k < 64) (hx : x * 2 ^ k < 2 ^ 63) : shl64 (x : Int) y = ((x * 2 ^ k : Nat) : Int) := by
  unfold shl64
  rw [e, ← Int64.toInt_toBitVec, Int64.toBitVec_shiftLeft, nat64, e5, BitVec.shiftLeft_eq', BitVec.toInt_eq_toNat_bmod, BitVec.toNat_shiftLeft, BitVec.toNat_ofNat, BitVec.toNat_ofNat, Nat.shiftLeft_eq]
  have x1 : x < 2 ^ 64 := by
    have : x * 1 ≤ x * 2 ^ k := Nat.mul_le_mul_left x Nat.one_le_two_pow
    simp only [Nat.reducePow] at hx ⊢
    omega
  have x2 : x * 2 ^ k < 2 ^ 64 := by
    simp only [Nat.reducePow] at hx ⊢
    omega
  rw [Nat.mod_eq_of_lt (show k < 2 ^ 64 by simp only [Nat.reducePow]; omega), Nat.mod_eq_of_lt x1, Nat.mod_eq_of_lt x2]
  exact bm64 hx
theorem shl5 {x : Nat} (hx : x < 2 ^ 40) : shl64 (x : Int) 5 = ((x * 32 : Nat) : Int) := by
  have h' : x < 1099511627776 := hx
  exact shlN (k := 5) (by decide) (by decide) (by omega) (by simp only [Nat.reducePow]; omega)
theorem shl8 {x : Nat} (hx : x < 2 ^ 55) : shl64 (x : Int) 8 = ((x * 256 : Nat) : Int) := by
  have h' : x < 36028797018963968 := hx
  exact shlN (k := 8) (by decide) (by decide) (by omega) (by simp only [Nat.reducePow]; omega)
theorem lor_add {x y k : Nat} (hy : y < 2 ^ k) (hx : x * 2 ^ k < 2 ^ 63) (hk : y < 2 ^ 63) : lor64 ((x * 2 ^ k : Nat) : Int) (y : Int) = ((x * 2 ^ k + y : Nat) : Int) := by
  rw [lor64n hx hk, Nat.mul_comm, ← Nat.two_pow_add_eq_or_of_lt hy]
/-- what the other does once blanks are passed -/
def aRest (h : MH) : Option MH :=
        nx (hup h 141 12 (h 141 13)) fun h7 =>
        (F_X12_byteAt (h7 141 13) h7).bind fun q8 =>
        nx (hup q8.2 141 14 q8.1) fun h9 =>
        ck (in32 q8.1) <|
        if q8.1 ≠ (-1) then
          (F_X12_isSmall q8.1 h9).bind fun q12 =>
          ck (in32 q12.1) <|
          if q12.1 = 0 then
            (F_X12_isDigit q8.1 q12.2).bind fun q15 =>
            ck (in32 q15.1) <|
            if q15.1 = 0 then
              nx (hup q15.2 141 13 ((q15.2 141 13) + 1)) fun h18 =>
              if q8.1 ≠ 59 then
                nx (hup h18 141 11 1) fun h20 =>
                some h20
              else
                nx (hup h18 141 11 4) fun h21 =>
                some h21
            else
              nx (hup q15.2 141 14 0) fun h22 =>
              F_X12_ahead_128 20000 h22
          else
            F_X12_ahead_81 20000 q12.2
        else
          nx (hup h9 141 11 0) fun h23 =>
          some h23
theorem skp {L : Nat} : ∀ (d f f' p : Nat) (h : MH), p + d = L → d < f → d < f' → TC L h → h 8 3 = (p : Int) → ∃ p' : Nat, (p ≤ p' ∧ p' ≤ L) ∧ F_X8_advance_0 f h = F_X8_advance_52 (hup h 8 3 (p' : Int)) ∧ (p' < L → h 9 p' ≠ 32 ∧ h 9 p' ≠ 10) ∧ ∀ g, TO L h g → g 141 13 = (p : Int) → F_X12_ahead_0 f' g = aRest (hup g 141 13 (p' : Int)) := by
  intro d
  induction d with
  | zero =>
    intro f f' p h e hf hf' c hp
    obtain ⟨f, rfl⟩ : ∃ g, f = g + 1 := ⟨f - 1, by omega⟩
    obtain ⟨f', rfl⟩ : ∃ g, f' = g + 1 := ⟨f' - 1, by omega⟩
    have c1 := c.1
    have c2 := c.2.1
    refine ⟨p, by omega, ?_, fun q => absurd q (by omega), fun g o gp => ?_⟩
    · rw [F_X8_advance_0]
      unfold ck
      rw [hp, c1, if_pos (by omega), if_pos (by omega), if_pos (by omega), hup_same _ _ _ _ hp]
    · have z := by_o (k := p) c o (by omega)
      rw [if_neg (by omega)] at z
      rw [F_X12_ahead_0, gp, z, bind_eq]
      unfold ck
      dsimp only
      rw [if_pos (by omega), if_neg (by omega), gp, z, bind_eq]
      dsimp only
      rw [if_pos (by omega), if_pos (by omega), hup_same _ _ _ _ gp]
      rfl
  | succ d ih =>
    intro f f' p h e hf hf' c hp
    obtain ⟨f, rfl⟩ : ∃ g, f = g + 1 := ⟨f - 1, by omega⟩
    obtain ⟨f', rfl⟩ : ∃ g, f' = g + 1 := ⟨f' - 1, by omega⟩
    have c1 := c.1
    have c2 := c.2.1
    have b := c.2.2 p (by omega)
    by_cases q : h 9 p = 32 ∨ h 9 p = 10
    · obtain ⟨p', a1, a2, a3, a4⟩ := ih f f' (p + 1) (hup h 8 3 ((p + 1 : Nat) : Int)) (by omega) (by omega) (by omega) ⟨by rw [hup_n _ _ _ _ _ _ (by omega)]; exact c1, c2, fun k hk => by rw [hup_n _ _ _ _ _ _ (by omega)]; exact c.2.2 k hk⟩ (hup_s _ _ _ _)
      rw [hup_hup] at a2
      refine ⟨p', by omega, ?_, fun z => by have := a3 z; rw [hup_n _ _ _ _ _ _ (by omega)] at this; exact this, fun g o gp => ?_⟩
      · rw [← a2, F_X8_advance_0]
        unfold F_X8_advance_39 ck
        rw [hp, c1, if_pos (by omega), if_pos (by omega), if_neg (by omega), if_pos (by omega), show ((p : Int)).toNat = p by omega, if_pos (by omega), nx_eq, show (p : Int) + 1 = ((p + 1 : Nat) : Int) by omega]
        rcases q with q | q
        · rw [if_pos q]
        · rw [if_neg (by omega), if_neg (by omega)]
      · have z := by_o (k := p) c o (by omega)
        rw [if_pos (by omega)] at z
        have w := a4 (hup g 141 13 ((p + 1 : Nat) : Int)) ⟨by rw [hup_n _ _ _ _ _ _ (by omega)]; exact o.1, fun k hk => by rw [hup_n _ _ _ _ _ _ (by omega), hup_n _ _ _ _ _ _ (by omega)]; exact o.2 k hk⟩ (hup_s _ _ _ _)
        rw [hup_hup] at w
        rw [← w, F_X12_ahead_0, gp, z, bind_eq]
        unfold F_X12_ahead_26 ck
        dsimp only
        rw [if_pos (by omega), gp, nx_eq, show (p : Int) + 1 = ((p + 1 : Nat) : Int) by omega]
        rcases q with q | q
        · rw [if_pos (by rw [q]; rfl)]
        · rw [if_neg (by rw [q]; decide), z, bind_eq]
          dsimp only
          rw [if_pos (by omega), if_neg (by rw [q]; decide), gp, nx_eq, show (p : Int) + 1 = ((p + 1 : Nat) : Int) by omega]
    · refine ⟨p, by omega, ?_, fun _ => by omega, fun g o gp => ?_⟩
      · rw [F_X8_advance_0]
        unfold ck
        rw [hp, c1, if_pos (by omega), if_pos (by omega), if_neg (by omega), if_pos (by omega), show ((p : Int)).toNat = p by omega, if_pos (by omega), if_neg (by omega), if_pos (by omega), hup_same _ _ _ _ hp]
      · have z := by_o (k := p) c o (by omega)
        rw [if_pos (by omega)] at z
        rw [F_X12_ahead_0, gp, z, bind_eq]
        unfold ck
        dsimp only
        rw [if_pos (by omega), if_neg (by omega), gp, z, bind_eq]
        dsimp only
        rw [if_pos (by omega), if_pos (by omega), hup_same _ _ _ _ gp]
        rfl
