/-! ===== one token further, on both sides ===== -/
def kmp (k : Int) : Int := if k = 0 then 0 else if k = 1 then 2 else if k = 2 then 3 else if k = 3 then 4 else 1
/-- the class's token from p to q -/
def TK (L p q : Nat) (h : MH) : Prop := TC L h ∧ (h 8 5 = (p : Int) ∧ h 8 3 = (q : Int)) ∧ (p ≤ q ∧ q ≤ L) ∧ (0 ≤ h 8 4 ∧ h 8 4 ≤ 4) ∧ (h 8 4 = 0 → p = L) ∧ (h 8 4 ≠ 0 → p < q) ∧ (h 8 4 = 1 → ∀ i, p ≤ i → i < q → smb (h 9 i)) ∧ (h 8 4 = 1 → q - p ≤ 8 → h 8 6 = en5 (wrd h p (q - p))) ∧ (h 8 4 = 2 → 0 ≤ h 8 7 ∧ h 8 7 ≤ 9999)
/-- the other's beside it -/
def TG (L : Nat) (h g : MH) : Prop := TO L h g ∧ g 141 12 = h 8 5 ∧ g 141 13 = h 8 3 ∧ g 141 11 = kmp (h 8 4) ∧ (h 8 4 = 2 → g 141 14 = h 8 7)
def NT (h h' : MH) : Prop := ∀ c k, ¬ (c = 8 ∧ 3 ≤ k ∧ k ≤ 7) → h' c k = h c k
def NG (g g' : MH) : Prop := ∀ c k, ¬ (c = 141 ∧ 11 ≤ k ∧ k ≤ 14) → g' c k = g c k
theorem p10 {n : Nat} (h : n ≤ 4) : (10 : Int) ^ n ≤ 10000 := by
  have cs : n = 0 ∨ n = 1 ∨ n = 2 ∨ n = 3 ∨ n = 4 := by omega
  rcases cs with x | x | x | x | x <;> rw [x] <;> decide
/-- the class's side behind the blanks, and the other's -/
theorem tok {L p : Nat} {h : MH} (c : TC L h) (hp : p ≤ L) (h3 : h 8 3 = (p : Int)) (nb : p < L → h 9 p ≠ 32 ∧ h 9 p ≠ 10) :
    ∃ (q : Nat) (h' : MH), F_X8_advance_52 h = some h' ∧ TK L p q h' ∧ NT h h' ∧ ∀ g, TO L h g → g 141 13 = (p : Int) → ∃ g', aRest g = some g' ∧ TG L h' g' ∧ NG g g' := by
  have c1 := c.1
  have c2 := c.2.1
  generalize e1 : hup h 8 5 (p : Int) = h1
  have n1 : ∀ c k, ¬ (c = 8 ∧ k = 5) → h1 c k = h c k := fun c k z => by rw [← e1, hup_n _ _ _ _ _ _ z]
  have c' : TC L h1 := ⟨by rw [n1 _ _ (by omega)]; exact c1, c2, fun k hk => by rw [n1 _ _ (by omega)]; exact c.2.2 k hk⟩
  have h13 : h1 8 3 = (p : Int) := by rw [n1 _ _ (by omega)]; exact h3
  have h15 : h1 8 5 = (p : Int) := by rw [← e1, hup_s]
  have h12 : h1 8 2 = (L : Int) := c'.1
  by_cases q0 : p < L
  · have b := c.2.2 p q0
    have nbb := nb q0
    have h19 : h1 9 p = h 9 p := n1 _ _ (by omega)
    -- the other's start
    have go : ∀ g, TO L h g → g 141 13 = (p : Int) → aRest g = (let g9 := hup (hup g 141 12 (p : Int)) 141 14 (h 9 p % 256)
        (F_X12_isSmall (h 9 p % 256) g9).bind fun q12 =>
          ck (in32 q12.1) <|
          if q12.1 = 0 then
            (F_X12_isDigit (h 9 p % 256) q12.2).bind fun q15 =>
            ck (in32 q15.1) <|
            if q15.1 = 0 then
              nx (hup q15.2 141 13 ((q15.2 141 13) + 1)) fun h18 =>
              if (h 9 p % 256) ≠ 59 then
                nx (hup h18 141 11 1) fun h20 =>
                some h20
              else
                nx (hup h18 141 11 4) fun h21 =>
                some h21
            else
              nx (hup q15.2 141 14 0) fun h22 =>
              F_X12_ahead_128 20000 h22
          else
            F_X12_ahead_81 20000 q12.2) := fun g o gp => by
      have o7 : TO L h (hup g 141 12 (p : Int)) := ⟨by rw [hup_n _ _ _ _ _ _ (by omega)]; exact o.1, fun k hk => by rw [hup_n _ _ _ _ _ _ (by omega)]; exact o.2 k hk⟩
      have z := by_o (k := p) c o7 (by omega)
      rw [if_pos q0] at z
      unfold aRest
      rw [nx_eq, gp, hup_n _ _ _ _ _ _ (by omega), gp, z, bind_eq]
      dsimp only
      rw [nx_eq]
      unfold ck
      rw [if_pos (by omega), if_pos (by omega)]
    by_cases s : smb (h 9 p)
    · -- a word
      have s' := s
      unfold smb at s'
      generalize e2 : hup (hup h1 8 4 1) 8 6 0 = h2
      have n2 : ∀ c k, ¬ (c = 8 ∧ (k = 4 ∨ k = 6)) → h2 c k = h1 c k := fun c k z => by rw [← e2, hup_n _ _ _ _ _ _ (by omega), hup_n _ _ _ _ _ _ (by omega)]
      have c3 : TC L h2 := ⟨by rw [n2 _ _ (by omega)]; exact h12, c2, fun k hk => by rw [n2 _ _ (by omega)]; exact c'.2.2 k hk⟩
      obtain ⟨q', h', a1, a2, a3, a4, a5, a6, a7, a8, a9⟩ := wd_l (L := L) (p := p) (L - p) 20000 20000 p h2 (by omega) (by omega) (by omega) (by omega) c3 (by rw [n2 _ _ (by omega)]; exact h13) (fun i z1 z2 => absurd z1 (by omega)) (fun _ => by rw [Nat.sub_self, ← e2, hup_s]; rfl)
      have lt := a8 q0 (by rw [n2 _ _ (by omega), h19]; exact s)
      have k4 : h' 8 4 = 1 := by rw [a4 _ _ (by omega), ← e2, hup_n _ _ _ _ _ _ (by omega), hup_s]
      have w9 : ∀ k, h' 9 k = h2 9 k := fun k => a4 _ _ (by omega)
      refine ⟨q', h', ?_, ⟨⟨?_, c2, fun k hk => ?_⟩, ⟨?_, a3⟩, by omega, by omega, fun z => absurd z (by omega), fun _ => lt, fun _ i z1 z2 => ?_, fun _ z => ?_, fun z => absurd z (by omega)⟩, fun c k z => ?_, fun g o gp => ?_⟩
      · unfold F_X8_advance_52 F_X8_readWord F_X8_readWord_0 ck
        rw [nx_eq, h3, e1, h13, h12, if_pos (by omega), if_pos (by omega), if_pos (by omega), if_pos (by omega), show ((p : Int)).toNat = p by omega, h19, if_pos (by omega), if_neg (by omega), if_neg (by omega), nx_eq, nx_eq, e2, a1, bind_eq]
      · rw [a4 _ _ (by omega)]; exact c3.1
      · rw [w9]; exact c3.2.2 k hk
      · rw [a4 _ _ (by omega), n2 _ _ (by omega)]; exact h15
      · rw [w9]; exact a5 i z1 z2
      · rw [wrd_e w9]; exact a7 z
      · rw [a4 _ _ (by omega), n2 _ _ (by omega), n1 _ _ (by omega)]
      · generalize eg : hup (hup g 141 12 (p : Int)) 141 14 (h 9 p % 256) = g9
        have m9 : ∀ c k, ¬ (c = 141 ∧ (k = 12 ∨ k = 14)) → g9 c k = g c k := fun c k z => by rw [← eg, hup_n _ _ _ _ _ _ (by omega), hup_n _ _ _ _ _ _ (by omega)]
        have o9 : TO L h2 g9 := ⟨by rw [m9 _ _ (by omega)]; exact o.1, fun k hk => by rw [m9 _ _ (by omega), n2 _ _ (by omega), n1 _ _ (by omega)]; exact o.2 k hk⟩
        have w := a9 g9 o9 (by rw [m9 _ _ (by omega)]; exact gp)
        refine ⟨hup (hup g9 141 13 (q' : Int)) 141 11 2, ?_, ⟨⟨?_, fun k hk => ?_⟩, ?_, ?_, ?_, fun z => absurd z (by omega)⟩, fun c k z => ?_⟩
        · rw [go g o gp, eg]
          dsimp only
          rw [sm_o (by omega), bind_eq]
          unfold ck
          dsimp only
          rw [if_pos (show 97 ≤ h 9 p % 256 ∧ h 9 p % 256 ≤ 122 by omega), if_pos (by omega), if_neg (by omega), w]
        · rw [hup_n _ _ _ _ _ _ (by omega), hup_n _ _ _ _ _ _ (by omega)]; exact o9.1
        · rw [hup_n _ _ _ _ _ _ (by omega), hup_n _ _ _ _ _ _ (by omega), w9]; exact o9.2 k hk
        · rw [hup_n _ _ _ _ _ _ (by omega), hup_n _ _ _ _ _ _ (by omega), ← eg, hup_n _ _ _ _ _ _ (by omega), hup_s, a4 _ _ (by omega), n2 _ _ (by omega), h15]
        · rw [hup_n _ _ _ _ _ _ (by omega), hup_s, a3]
        · rw [hup_s, k4]; rfl
        · rw [hup_n _ _ _ _ _ _ (by omega), hup_n _ _ _ _ _ _ (by omega), m9 _ _ (by omega)]
    · have s' := s
      unfold smb at s'
      have cl : F_X8_advance_52 h = F_X8_advance_114 h1 := by
        unfold F_X8_advance_52 ck
        rw [nx_eq, h3, e1, h13, h12, if_pos (by omega), if_pos (by omega), if_pos (by omega), if_pos (by omega), show ((p : Int)).toNat = p by omega, h19, if_pos (by omega)]
        by_cases z : h 9 p < 97
        · rw [if_pos z]
        · rw [if_neg z, if_pos (by omega)]
      by_cases t : dgb (h 9 p)
      · -- a number
        have t' := t
        unfold dgb at t'
        generalize e2 : hup h1 8 7 0 = h2
        have n2 : ∀ c k, ¬ (c = 8 ∧ k = 7) → h2 c k = h1 c k := fun c k z => by rw [← e2, hup_n _ _ _ _ _ _ (by omega)]
        have c3 : TC L h2 := ⟨by rw [n2 _ _ (by omega)]; exact h12, c2, fun k hk => by rw [n2 _ _ (by omega)]; exact c'.2.2 k hk⟩
        have h27 : h2 8 7 = 0 := by rw [← e2, hup_s]
        obtain ⟨q', v, h', a1, a2, a3, a4, a5, a6, a7, a8, a9⟩ := nb_l (L := L) (p := p) (L - p) 20000 20000 p h2 (by omega) (by omega) (by omega) (by omega) c3 (by rw [n2 _ _ (by omega)]; exact h13) (by rw [n2 _ _ (by omega)]; exact h15) (fun _ => by rw [h27, Nat.sub_self]; decide)
        have lt := a8 q0 (by rw [n2 _ _ (by omega), h19]; exact t)
        have w9 : ∀ k, h' 9 k = h2 9 k := fun k => a4 _ _ (by omega)
        have k24 : h' 8 4 = 2 ∨ h' 8 4 = 4 := by
          rw [a5]
          by_cases z : q' - p ≤ 4
          · rw [if_pos z]; exact Or.inl rfl
          · rw [if_neg z]; exact Or.inr rfl
        have k2 : h' 8 4 = 2 → q' - p ≤ 4 := fun z => by
          by_cases y : q' - p ≤ 4
          · exact y
          · rw [a5, if_neg y] at z; omega
        refine ⟨q', h', ?_, ⟨⟨?_, c2, fun k hk => ?_⟩, ⟨?_, a3⟩, by omega, by omega, fun z => absurd z (by omega), fun _ => lt, fun z => absurd z (by omega), fun z => absurd z (by omega), fun z => ?_⟩, fun c k z => ?_, fun g o gp => ?_⟩
        · rw [cl]
          unfold F_X8_advance_114 F_X8_readNumber F_X8_readNumber_0 ck
          rw [h13, if_pos (by omega), show ((p : Int)).toNat = p by omega, h19, if_pos (by omega), if_neg (by omega), if_neg (by omega), nx_eq, e2, a1, bind_eq]
        · rw [a4 _ _ (by omega)]; exact c3.1
        · rw [w9]; exact c3.2.2 k hk
        · rw [a4 _ _ (by omega), n2 _ _ (by omega)]; exact h15
        · have y := a7 (k2 z)
          have y2 := p10 (k2 z)
          rw [a6]; omega
        · rw [a4 _ _ (by omega), n2 _ _ (by omega), n1 _ _ (by omega)]
        · generalize eg : hup (hup (hup g 141 12 (p : Int)) 141 14 (h 9 p % 256)) 141 14 0 = g9
          have m9 : ∀ c k, ¬ (c = 141 ∧ (k = 12 ∨ k = 14)) → g9 c k = g c k := fun c k z => by rw [← eg, hup_n _ _ _ _ _ _ (by omega), hup_n _ _ _ _ _ _ (by omega), hup_n _ _ _ _ _ _ (by omega)]
          have o9 : TO L h2 g9 := ⟨by rw [m9 _ _ (by omega)]; exact o.1, fun k hk => by rw [m9 _ _ (by omega), n2 _ _ (by omega), n1 _ _ (by omega)]; exact o.2 k hk⟩
          have g14 : g9 141 14 = 0 := by rw [← eg, hup_s]
          have g12 : g9 141 12 = (p : Int) := by rw [← eg, hup_n _ _ _ _ _ _ (by omega), hup_n _ _ _ _ _ _ (by omega), hup_s]
          obtain ⟨u, w1, w2⟩ := a9 g9 o9 (by rw [m9 _ _ (by omega)]; exact gp) g12 (by rw [g14]; omega) (fun _ => by rw [g14, h27])
          refine ⟨hup (hup (hup g9 141 14 u) 141 13 (q' : Int)) 141 11 (if q' - p ≤ 4 then 3 else 1), ?_, ⟨⟨?_, fun k hk => ?_⟩, ?_, ?_, ?_, fun z => ?_⟩, fun c k z => ?_⟩
          · rw [go g o gp]
            dsimp only
            rw [sm_o (by omega), bind_eq]
            unfold ck
            dsimp only
            rw [if_neg (show ¬ (97 ≤ h 9 p % 256 ∧ h 9 p % 256 ≤ 122) by omega), if_pos (by omega), if_pos rfl, dg_o (by omega), bind_eq]
            dsimp only
            rw [if_pos (show 48 ≤ h 9 p % 256 ∧ h 9 p % 256 ≤ 57 by omega), if_pos (by omega), if_neg (by omega), nx_eq, eg, w2]
          · rw [hup_n _ _ _ _ _ _ (by omega), hup_n _ _ _ _ _ _ (by omega), hup_n _ _ _ _ _ _ (by omega)]; exact o9.1
          · rw [hup_n _ _ _ _ _ _ (by omega), hup_n _ _ _ _ _ _ (by omega), hup_n _ _ _ _ _ _ (by omega), w9]; exact o9.2 k hk
          · rw [hup_n _ _ _ _ _ _ (by omega), hup_n _ _ _ _ _ _ (by omega), hup_n _ _ _ _ _ _ (by omega), g12, a4 _ _ (by omega), n2 _ _ (by omega), h15]
          · rw [hup_n _ _ _ _ _ _ (by omega), hup_s, a3]
          · rw [hup_s, a5]
            by_cases z : q' - p ≤ 4
            · rw [if_pos z, if_pos z]; rfl
            · rw [if_neg z, if_neg z]; rfl
          · rw [hup_n _ _ _ _ _ _ (by omega), hup_n _ _ _ _ _ _ (by omega), hup_s, a6]; exact w1 (k2 z)
          · rw [hup_n _ _ _ _ _ _ (by omega), hup_n _ _ _ _ _ _ (by omega), hup_n _ _ _ _ _ _ (by omega), m9 _ _ (by omega)]
      · -- a sign, or nothing
        have t' := t
        unfold dgb at t'
        generalize ek : (if h 9 p = 59 then (3 : Int) else 4) = kk
        have k34 : kk = 3 ∨ kk = 4 := by
          rw [← ek]
          by_cases z : h 9 p = 59
          · rw [if_pos z]; exact Or.inl rfl
          · rw [if_neg z]; exact Or.inr rfl
        generalize e2 : hup (hup h1 8 4 kk) 8 3 ((p + 1 : Nat) : Int) = h2
        have n2 : ∀ c k, ¬ (c = 8 ∧ (k = 3 ∨ k = 4)) → h2 c k = h1 c k := fun c k z => by rw [← e2, hup_n _ _ _ _ _ _ (by omega), hup_n _ _ _ _ _ _ (by omega)]
        have k4 : h2 8 4 = kk := by rw [← e2, hup_n _ _ _ _ _ _ (by omega), hup_s]
        have k3 : h2 8 3 = ((p + 1 : Nat) : Int) := by rw [← e2, hup_s]
        refine ⟨p + 1, h2, ?_, ⟨⟨?_, c2, fun k hk => ?_⟩, ⟨?_, k3⟩, by omega, by omega, fun z => absurd z (by omega), fun _ => by omega, fun z => absurd z (by omega), fun z => absurd z (by omega), fun z => absurd z (by omega)⟩, fun c k z => ?_, fun g o gp => ?_⟩
        · rw [cl]
          have c149 : F_X8_advance_149 h1 = some h2 := by
            unfold F_X8_advance_149 F_X8_advance_169 ck
            rw [h13, if_pos (by omega), show ((p : Int)).toNat = p by omega, h19, if_pos (by omega), nx_eq, nx_eq, nx_eq, nx_eq, hup_n _ _ _ _ 8 3 (by omega), hup_n _ _ _ _ 8 3 (by omega), h13, ← e2, ← ek, show (p : Int) + 1 = ((p + 1 : Nat) : Int) by omega]
            by_cases z : h 9 p = 59
            · rw [if_neg (by omega), if_pos z]
            · rw [if_pos z, if_neg z]
          unfold F_X8_advance_114 ck
          rw [h13, if_pos (by omega), show ((p : Int)).toNat = p by omega, h19, if_pos (by omega), c149]
          by_cases z : h 9 p < 48
          · rw [if_pos z]
          · rw [if_neg z, if_pos (by omega)]
        · rw [n2 _ _ (by omega)]; exact h12
        · rw [n2 _ _ (by omega)]; exact c'.2.2 k hk
        · rw [n2 _ _ (by omega)]; exact h15
        · rw [n2 _ _ (by omega), n1 _ _ (by omega)]
        · generalize eg : hup (hup g 141 12 (p : Int)) 141 14 (h 9 p % 256) = g9
          have m9 : ∀ c k, ¬ (c = 141 ∧ (k = 12 ∨ k = 14)) → g9 c k = g c k := fun c k z => by rw [← eg, hup_n _ _ _ _ _ _ (by omega), hup_n _ _ _ _ _ _ (by omega)]
          have g12 : g9 141 12 = (p : Int) := by rw [← eg, hup_n _ _ _ _ _ _ (by omega), hup_s]
          have g13 : g9 141 13 = (p : Int) := by rw [m9 _ _ (by omega)]; exact gp
          refine ⟨hup (hup g9 141 13 ((p + 1 : Nat) : Int)) 141 11 (kmp kk), ?_, ⟨⟨?_, fun k hk => ?_⟩, ?_, ?_, ?_, fun z => absurd z (by omega)⟩, fun c k z => ?_⟩
          · rw [go g o gp, eg]
            dsimp only
            rw [sm_o (by omega), bind_eq]
            unfold ck
            dsimp only
            rw [if_neg (show ¬ (97 ≤ h 9 p % 256 ∧ h 9 p % 256 ≤ 122) by omega), if_pos (by omega), if_pos rfl, dg_o (by omega), bind_eq]
            dsimp only
            rw [if_neg (show ¬ (48 ≤ h 9 p % 256 ∧ h 9 p % 256 ≤ 57) by omega), if_pos (by omega), if_pos rfl, nx_eq, nx_eq, nx_eq, g13, show (p : Int) + 1 = ((p + 1 : Nat) : Int) by omega, ← ek]
            by_cases z : h 9 p = 59
            · rw [if_neg (by omega), if_pos z]; rfl
            · rw [if_pos (by omega), if_neg z]; rfl
          · rw [hup_n _ _ _ _ _ _ (by omega), hup_n _ _ _ _ _ _ (by omega), m9 _ _ (by omega)]; exact o.1
          · rw [hup_n _ _ _ _ _ _ (by omega), hup_n _ _ _ _ _ _ (by omega), m9 _ _ (by omega), n2 _ _ (by omega), n1 _ _ (by omega)]; exact o.2 k hk
          · rw [hup_n _ _ _ _ _ _ (by omega), hup_n _ _ _ _ _ _ (by omega), g12, n2 _ _ (by omega), h15]
          · rw [hup_n _ _ _ _ _ _ (by omega), hup_s, k3]
          · rw [hup_s, k4]
          · rw [hup_n _ _ _ _ _ _ (by omega), hup_n _ _ _ _ _ _ (by omega), m9 _ _ (by omega)]
  · have pe : p = L := by omega
    generalize e2 : hup h1 8 4 0 = h2
    have n2 : ∀ c k, ¬ (c = 8 ∧ k = 4) → h2 c k = h1 c k := fun c k z => by rw [← e2, hup_n _ _ _ _ _ _ (by omega)]
    have k4 : h2 8 4 = 0 := by rw [← e2, hup_s]
    refine ⟨p, h2, ?_, ⟨⟨?_, c2, fun k hk => ?_⟩, ⟨?_, ?_⟩, by omega, by omega, fun z => pe, fun z => absurd k4 z, fun z => absurd z (by omega), fun z => absurd z (by omega), fun z => absurd z (by omega)⟩, fun c k z => ?_, fun g o gp => ?_⟩
    · unfold F_X8_advance_52 ck
      rw [nx_eq, h3, e1, h13, h12, if_pos (by omega), if_pos (by omega), if_neg (by omega), nx_eq, e2]
    · rw [n2 _ _ (by omega)]; exact h12
    · rw [n2 _ _ (by omega)]; exact c'.2.2 k hk
    · rw [n2 _ _ (by omega)]; exact h15
    · rw [n2 _ _ (by omega)]; exact h13
    · rw [n2 _ _ (by omega), n1 _ _ (by omega)]
    · have o7 : TO L h (hup g 141 12 (p : Int)) := ⟨by rw [hup_n _ _ _ _ _ _ (by omega)]; exact o.1, fun k hk => by rw [hup_n _ _ _ _ _ _ (by omega)]; exact o.2 k hk⟩
      have z := by_o (k := p) c o7 (by omega)
      rw [if_neg q0] at z
      refine ⟨hup (hup (hup g 141 12 (p : Int)) 141 14 (-1)) 141 11 0, ?_, ⟨⟨?_, fun k hk => ?_⟩, ?_, ?_, ?_, fun z => absurd z (by omega)⟩, fun c k z => ?_⟩
      · unfold aRest
        rw [nx_eq, gp, hup_n _ _ _ _ _ _ (by omega), gp, z, bind_eq]
        dsimp only
        rw [nx_eq]
        unfold ck
        rw [if_pos (by omega), if_neg (by omega), nx_eq]
      · rw [hup_n _ _ _ _ _ _ (by omega), hup_n _ _ _ _ _ _ (by omega), hup_n _ _ _ _ _ _ (by omega)]; exact o.1
      · rw [hup_n _ _ _ _ _ _ (by omega), hup_n _ _ _ _ _ _ (by omega), hup_n _ _ _ _ _ _ (by omega), n2 _ _ (by omega), n1 _ _ (by omega)]; exact o.2 k hk
      · rw [hup_n _ _ _ _ _ _ (by omega), hup_n _ _ _ _ _ _ (by omega), hup_s, n2 _ _ (by omega), h15]
      · rw [hup_n _ _ _ _ _ _ (by omega), hup_n _ _ _ _ _ _ (by omega), hup_n _ _ _ _ _ _ (by omega), gp, n2 _ _ (by omega), h13]
      · rw [hup_s, k4]; rfl
      · rw [hup_n _ _ _ _ _ _ (by omega), hup_n _ _ _ _ _ _ (by omega), hup_n _ _ _ _ _ _ (by omega)]
theorem adv0 {L p : Nat} {h g : MH} (c : TC L h) (o : TO L h g) (h3 : h 8 3 = (p : Int)) (g3 : g 141 13 = (p : Int)) (hp : p ≤ L) :
    ∃ (p' q' : Nat) (h' g' : MH), F_X8_advance h = some h' ∧ F_X12_ahead g = some g' ∧ TK L p' q' h' ∧ TG L h' g' ∧ p ≤ p' ∧ NT h h' ∧ NG g g' := by
  have c2 := c.2.1
  obtain ⟨p', a1, a2, a3, a4⟩ := skp (L := L) (L - p) 20000 20000 p h (by omega) (by omega) (by omega) c h3
  have n1 : ∀ c k, ¬ (c = 8 ∧ k = 3) → hup h 8 3 (p' : Int) c k = h c k := fun c k z => hup_n _ _ _ _ _ _ z
  obtain ⟨q', h', b1, b2, b3, b4⟩ := tok (L := L) (p := p') (h := hup h 8 3 (p' : Int)) ⟨by rw [n1 _ _ (by omega)]; exact c.1, c2, fun k hk => by rw [n1 _ _ (by omega)]; exact c.2.2 k hk⟩ (by omega) (hup_s _ _ _ _) (fun z => by rw [n1 _ _ (by omega)]; exact a3 z)
  obtain ⟨g', d1, d2, d3⟩ := b4 (hup g 141 13 (p' : Int)) ⟨by rw [hup_n _ _ _ _ _ _ (by omega)]; exact o.1, fun k hk => by rw [hup_n _ _ _ _ _ _ (by omega), n1 _ _ (by omega)]; exact o.2 k hk⟩ (hup_s _ _ _ _)
  refine ⟨p', q', h', g', ?_, ?_, b2, d2, by omega, fun c k z => by rw [b3 c k z, n1 _ _ (by omega)], fun c k z => by rw [d3 c k z, hup_n _ _ _ _ _ _ (by omega)]⟩
  · unfold F_X8_advance; rw [a2, b1]
  · unfold F_X12_ahead; rw [a4 g o g3, d1]
