/-! ===== the tape: words and numbers ===== -/
def smb (b : Int) : Prop := 97 ≤ b ∧ b ≤ 122
def dgb (b : Int) : Prop := 48 ≤ b ∧ b ≤ 57
/-- a word is read from p; now at q -/
theorem wd_l {L p : Nat} : ∀ (d f f' q : Nat) (h : MH), q + d = L → d < f → d < f' → p ≤ q → TC L h → h 8 3 = (q : Int) → (∀ i, p ≤ i → i < q → smb (h 9 i)) → (q - p ≤ 8 → h 8 6 = en5 (wrd h p (q - p))) →
    ∃ (q' : Nat) (h' : MH), F_X8_readWord_10 f h = some h' ∧ (q ≤ q' ∧ q' ≤ L) ∧ h' 8 3 = (q' : Int) ∧ (∀ c k, ¬ (c = 8 ∧ (k = 3 ∨ k = 6)) → h' c k = h c k) ∧ (∀ i, p ≤ i → i < q' → smb (h 9 i)) ∧ (q' < L → ¬ smb (h 9 q')) ∧ (q' - p ≤ 8 → h' 8 6 = en5 (wrd h p (q' - p))) ∧ (q < L → smb (h 9 q) → q < q') ∧
      ∀ g, TO L h g → g 141 13 = (q : Int) → F_X12_ahead_81 f' g = some (hup (hup g 141 13 (q' : Int)) 141 11 2) := by
  intro d
  induction d with
  | zero =>
    intro f f' q h e hf hf' hpq c h3 hs hl
    obtain ⟨f, rfl⟩ : ∃ g, f = g + 1 := ⟨f - 1, by omega⟩
    obtain ⟨f', rfl⟩ : ∃ g, f' = g + 1 := ⟨f' - 1, by omega⟩
    have c1 := c.1
    have c2 := c.2.1
    refine ⟨q, h, ?_, by omega, h3, fun _ _ _ => rfl, hs, fun z => absurd z (by omega), hl, fun z => absurd z (by omega), fun g o gp => ?_⟩
    · rw [F_X8_readWord_10]
      unfold ck
      rw [h3, c1, if_pos (by omega), if_pos (by omega), if_pos (by omega)]
    · have z := by_o (k := q) c o (by omega)
      rw [if_neg (by omega)] at z
      rw [F_X12_ahead_81, gp, z, bind_eq]
      dsimp only
      rw [sm_o (by omega), bind_eq]
      unfold ck
      dsimp only
      rw [if_neg (show ¬ ((97 : Int) ≤ -1 ∧ (-1 : Int) ≤ 122) by omega), if_pos (by omega), if_pos rfl, nx_eq, hup_same _ _ _ _ gp]
  | succ d ih =>
    intro f f' q h e hf hf' hpq c h3 hs hl
    obtain ⟨f, rfl⟩ : ∃ g, f = g + 1 := ⟨f - 1, by omega⟩
    obtain ⟨f', rfl⟩ : ∃ g, f' = g + 1 := ⟨f' - 1, by omega⟩
    have c1 := c.1
    have c2 := c.2.1
    have b := c.2.2 q (by omega)
    by_cases s : smb (h 9 q)
    · have s' := s
      unfold smb at s'
      generalize hv : lor64 (shl64 (h 8 6) 5) (h 9 q - 97 + 1) = v
      generalize hh : hup (hup h 8 6 v) 8 3 ((q + 1 : Nat) : Int) = h1
      have n1 : ∀ c k, ¬ (c = 8 ∧ (k = 3 ∨ k = 6)) → h1 c k = h c k := fun c k z => by rw [← hh, hup_n _ _ _ _ _ _ (by omega), hup_n _ _ _ _ _ _ (by omega)]
      have lt1 : q + 1 - p ≤ 8 → h1 8 6 = en5 (wrd h1 p (q + 1 - p)) := fun z => by
        have e0 := hl (by omega)
        have lw0 := wrd_lw (h := h) (p := p) (q - p) (fun i hi => hs (p + i) (by omega) (by omega))
        have ps := en5_pos _ _ (wrd_len (h := h) (p := p) (q - p)) lw0
        have bd := (en_bd _ _ (wrd_len (h := h) (p := p) (q - p)) (by omega) lw0).1
        have m : (32 : Int) ^ (q - p) ≤ 34359738368 := by
          have cs : q - p = 0 ∨ q - p = 1 ∨ q - p = 2 ∨ q - p = 3 ∨ q - p = 4 ∨ q - p = 5 ∨ q - p = 6 ∨ q - p = 7 := by omega
          rcases cs with x | x | x | x | x | x | x | x <;> rw [x] <;> decide
        obtain ⟨xx, ex⟩ : ∃ xx : Nat, h 8 6 = (xx : Int) := ⟨(h 8 6).toNat, by omega⟩
        obtain ⟨yy, ey⟩ : ∃ yy : Nat, h 9 q - 97 + 1 = (yy : Int) := ⟨(h 9 q - 97 + 1).toNat, by omega⟩
        rw [show q + 1 - p = q - p + 1 by omega, wrd_e (fun k => n1 9 k (by omega)), wrd, en_app5, ← e0, show p + (q - p) = q by omega, ← hh, hup_n _ _ _ _ _ _ (by omega), hup_s, ← hv, ex, ey, shl5 (by simp only [Nat.reducePow]; omega), show xx * 32 = xx * 2 ^ 5 from rfl, lor_add (k := 5) (by simp only [Nat.reducePow]; omega) (by simp only [Nat.reducePow]; omega) (by simp only [Nat.reducePow]; omega)]
        simp only [Nat.reducePow]
        omega
      obtain ⟨q', h', a1, a2, a3, a4, a5, a6, a7, a8, a9⟩ := ih f f' (q + 1) h1 (by omega) (by omega) (by omega) (by omega) ⟨by rw [n1 _ _ (by omega)]; exact c1, c2, fun k hk => by rw [n1 _ _ (by omega)]; exact c.2.2 k hk⟩ (by rw [← hh, hup_s]) (fun i z1 z2 => by
        rw [n1 _ _ (by omega)]
        by_cases z : i = q
        · subst z; exact s
        · exact hs i z1 (by omega)) lt1
      refine ⟨q', h', ?_, by omega, a3, fun c k z => by rw [a4 c k z, n1 c k z], fun i z1 z2 => by have := a5 i z1 z2; rw [n1 _ _ (by omega)] at this; exact this, fun z => by have := a6 z; rw [n1 _ _ (by omega)] at this; exact this, fun z => by rw [a7 z, wrd_e (fun k => n1 9 k (by omega))], fun _ _ => by omega, fun g o gp => ?_⟩
      · rw [← a1, F_X8_readWord_10]
        unfold ck
        rw [h3, c1, if_pos (by omega), if_pos (by omega), if_neg (by omega), if_pos (by omega), show ((q : Int)).toNat = q by omega, if_pos (by omega), if_neg (by omega), if_neg (by omega), if_pos (by omega), nx_eq, nx_eq, hv, hup_n _ _ _ _ 8 3 (by omega), h3, show (q : Int) + 1 = ((q + 1 : Nat) : Int) by omega, hh]
      · have z := by_o (k := q) c o (by omega)
        rw [if_pos (by omega)] at z
        have w := a9 (hup g 141 13 ((q + 1 : Nat) : Int)) ⟨by rw [hup_n _ _ _ _ _ _ (by omega)]; exact o.1, fun k hk => by rw [hup_n _ _ _ _ _ _ (by omega), n1 _ _ (by omega)]; exact o.2 k hk⟩ (hup_s _ _ _ _)
        rw [hup_hup] at w
        rw [← w, F_X12_ahead_81, gp, z, bind_eq]
        dsimp only
        rw [sm_o (by omega), bind_eq]
        unfold ck
        dsimp only
        rw [if_pos (show 97 ≤ h 9 q % 256 ∧ h 9 q % 256 ≤ 122 by omega), if_pos (by omega), if_neg (by omega), nx_eq, gp, show (q : Int) + 1 = ((q + 1 : Nat) : Int) by omega]
    · have s' := s
      unfold smb at s'
      refine ⟨q, h, ?_, by omega, h3, fun _ _ _ => rfl, hs, fun _ => s, hl, fun _ z => absurd z s, fun g o gp => ?_⟩
      · rw [F_X8_readWord_10]
        unfold ck
        rw [h3, c1, if_pos (by omega), if_pos (by omega), if_neg (by omega), if_pos (by omega), show ((q : Int)).toNat = q by omega, if_pos (by omega)]
        by_cases z : h 9 q < 97
        · rw [if_pos z]
        · rw [if_neg z, if_pos (by omega)]
      · have z := by_o (k := q) c o (by omega)
        rw [if_pos (by omega)] at z
        rw [F_X12_ahead_81, gp, z, bind_eq]
        dsimp only
        rw [sm_o (by omega), bind_eq]
        unfold ck
        dsimp only
        rw [if_neg (show ¬ (97 ≤ h 9 q % 256 ∧ h 9 q % 256 ≤ 122) by omega), if_pos (by omega), if_pos rfl, nx_eq, hup_same _ _ _ _ gp]
theorem nb_e {p q : Nat} {h : MH} (h3 : h 8 3 = (q : Int)) (h5 : h 8 5 = (p : Int)) (hpq : p ≤ q) (hq : q ≤ 700) : F_X8_readNumber_81 h = some (hup h 8 4 (if q - p ≤ 4 then 2 else 4)) := by
  unfold F_X8_readNumber_81 ck
  rw [h3, h5, if_pos (by omega)]
  by_cases z : q - p ≤ 4
  · rw [if_neg (by omega), if_pos z]; rfl
  · rw [if_pos (by omega), if_neg z]; rfl
theorem nb_f {p q : Nat} {g : MH} (g3 : g 141 13 = (q : Int)) (g5 : g 141 12 = (p : Int)) (hpq : p ≤ q) (hq : q ≤ 700) : (if in32 (g 141 13 - g 141 12) then (if g 141 13 - g 141 12 ≤ 4 then nx (hup g 141 11 3) fun h7 => some h7 else nx (hup g 141 11 1) fun h8 => some h8) else none) = some (hup (hup (hup g 141 14 (g 141 14)) 141 13 (q : Int)) 141 11 (if q - p ≤ 4 then 3 else 1)) := by
  rw [hup_same _ _ _ _ (rfl : g 141 14 = g 141 14), hup_same _ _ _ _ g3, g3, g5, if_pos (by omega)]
  by_cases z : q - p ≤ 4
  · rw [if_pos (by omega), if_pos z]; rfl
  · rw [if_neg (by omega), if_neg z]; rfl
/-- a number is read from p; now at q -/
theorem nb_l {L p : Nat} : ∀ (d f f' q : Nat) (h : MH), q + d = L → d < f → d < f' → p ≤ q → TC L h → h 8 3 = (q : Int) → h 8 5 = (p : Int) → (q - p ≤ 4 → 0 ≤ h 8 7 ∧ h 8 7 < 10 ^ (q - p)) →
    ∃ (q' : Nat) (v : Int) (h' : MH), F_X8_readNumber_5 f h = some h' ∧ (q ≤ q' ∧ q' ≤ L) ∧ h' 8 3 = (q' : Int) ∧ (∀ c k, ¬ (c = 8 ∧ (k = 3 ∨ k = 4 ∨ k = 7)) → h' c k = h c k) ∧ h' 8 4 = (if q' - p ≤ 4 then 2 else 4) ∧ h' 8 7 = v ∧ (q' - p ≤ 4 → 0 ≤ v ∧ v < 10 ^ (q' - p)) ∧ (q < L → dgb (h 9 q) → q < q') ∧
      ∀ g, TO L h g → g 141 13 = (q : Int) → g 141 12 = (p : Int) → (0 ≤ g 141 14 ∧ g 141 14 ≤ 100000) → (q - p ≤ 4 → g 141 14 = h 8 7) → ∃ u : Int, (q' - p ≤ 4 → u = v) ∧ F_X12_ahead_128 f' g = some (hup (hup (hup g 141 14 u) 141 13 (q' : Int)) 141 11 (if q' - p ≤ 4 then 3 else 1)) := by
  intro d
  induction d with
  | zero =>
    intro f f' q h e hf hf' hpq c h3 h5 hb
    obtain ⟨f, rfl⟩ : ∃ g, f = g + 1 := ⟨f - 1, by omega⟩
    obtain ⟨f', rfl⟩ : ∃ g, f' = g + 1 := ⟨f' - 1, by omega⟩
    have c1 := c.1
    have c2 := c.2.1
    refine ⟨q, h 8 7, hup h 8 4 (if q - p ≤ 4 then 2 else 4), ?_, by omega, by rw [hup_n _ _ _ _ _ _ (by omega)]; exact h3, fun c k z => hup_n _ _ _ _ _ _ (by omega), hup_s _ _ _ _, hup_n _ _ _ _ _ _ (by omega), hb, fun z => absurd z (by omega), fun g o gp gf gb ge => ⟨g 141 14, ge, ?_⟩⟩
    · rw [F_X8_readNumber_5]
      unfold ck
      rw [h3, c1, if_pos (by omega), if_pos (by omega), if_pos (by omega), nb_e h3 h5 hpq (by omega)]
    · have z := by_o (k := q) c o (by omega)
      rw [if_neg (by omega)] at z
      rw [F_X12_ahead_128, gp, z, bind_eq]
      dsimp only
      rw [dg_o (by omega), bind_eq]
      unfold ck
      dsimp only
      rw [if_neg (show ¬ ((48 : Int) ≤ -1 ∧ (-1 : Int) ≤ 57) by omega), if_pos (by omega), if_pos rfl, nb_f gp gf hpq (by omega)]
  | succ d ih =>
    intro f f' q h e hf hf' hpq c h3 h5 hb
    obtain ⟨f, rfl⟩ : ∃ g, f = g + 1 := ⟨f - 1, by omega⟩
    obtain ⟨f', rfl⟩ : ∃ g, f' = g + 1 := ⟨f' - 1, by omega⟩
    have c1 := c.1
    have c2 := c.2.1
    have b := c.2.2 q (by omega)
    by_cases s : dgb (h 9 q)
    · have s' := s
      unfold dgb at s'
      generalize hv : h 8 7 * 10 + h 9 q - 48 = v
      generalize hh : hup (hup h 8 7 v) 8 3 ((q + 1 : Nat) : Int) = h1
      have n1 : ∀ c k, ¬ (c = 8 ∧ (k = 3 ∨ k = 7)) → h1 c k = h c k := fun c k z => by rw [← hh, hup_n _ _ _ _ _ _ (by omega), hup_n _ _ _ _ _ _ (by omega)]
      have n7 : h1 8 7 = v := by rw [← hh, hup_n _ _ _ _ _ _ (by omega), hup_s]
      have hb1 : q + 1 - p ≤ 4 → 0 ≤ h1 8 7 ∧ h1 8 7 < 10 ^ (q + 1 - p) := fun z => by
        have := hb (by omega)
        rw [n7, show q + 1 - p = q - p + 1 by omega, Int.pow_succ]
        omega
      obtain ⟨q', w, h', a1, a2, a3, a4, a5, a6, a7, a8, a9⟩ := ih f f' (q + 1) h1 (by omega) (by omega) (by omega) (by omega) ⟨by rw [n1 _ _ (by omega)]; exact c1, c2, fun k hk => by rw [n1 _ _ (by omega)]; exact c.2.2 k hk⟩ (by rw [← hh, hup_s]) (by rw [n1 _ _ (by omega)]; exact h5) hb1
      refine ⟨q', w, h', ?_, by omega, a3, fun c k z => by rw [a4 c k z, n1 c k (by omega)], a5, a6, a7, fun _ _ => by omega, fun g o gp gf gb ge => ?_⟩
      · rw [← a1, F_X8_readNumber_5]
        unfold ck
        rw [h3, c1, if_pos (by omega), if_pos (by omega), if_neg (by omega), if_pos (by omega), show ((q : Int)).toNat = q by omega, if_pos (by omega), if_neg (by omega), if_neg (by omega), nx_eq, nx_eq, hv, hup_n _ _ _ _ 8 3 (by omega), h3, show (q : Int) + 1 = ((q + 1 : Nat) : Int) by omega, hh]
      · have z := by_o (k := q) c o (by omega)
        rw [if_pos (by omega)] at z
        have ms : h 9 q % 256 = h 9 q := by omega
        rw [ms] at z
        generalize hu : min 100000 (10 * g 141 14 + h 9 q - 48) = u
        generalize hg : hup (hup g 141 14 u) 141 13 ((q + 1 : Nat) : Int) = g1
        have m1 : ∀ c k, ¬ (c = 141 ∧ (k = 13 ∨ k = 14)) → g1 c k = g c k := fun c k z => by rw [← hg, hup_n _ _ _ _ _ _ (by omega), hup_n _ _ _ _ _ _ (by omega)]
        have m14 : g1 141 14 = u := by rw [← hg, hup_n _ _ _ _ _ _ (by omega), hup_s]
        obtain ⟨w', x1, x2⟩ := a9 g1 ⟨by rw [m1 _ _ (by omega)]; exact o.1, fun k hk => by rw [m1 _ _ (by omega), n1 _ _ (by omega)]; exact o.2 k hk⟩ (by rw [← hg, hup_s]) (by rw [m1 _ _ (by omega)]; exact gf) (by rw [m14, ← hu]; omega) (fun y => by
          have y1 := ge (by omega)
          have y2 := (hb (by omega)).2
          have y0 := (hb (by omega)).1
          have m : (10 : Int) ^ (q - p) ≤ 1000 := by
            have cs : q - p = 0 ∨ q - p = 1 ∨ q - p = 2 ∨ q - p = 3 := by omega
            rcases cs with x | x | x | x <;> rw [x] <;> decide
          rw [m14, n7, ← hu, ← hv]
          omega)
        refine ⟨w', x1, ?_⟩
        rw [F_X12_ahead_128, gp, z, bind_eq]
        dsimp only
        rw [dg_o (by omega), bind_eq]
        unfold ck
        dsimp only
        rw [if_pos (show 48 ≤ h 9 q ∧ h 9 q ≤ 57 by omega), if_pos (by omega), if_neg (by omega), gp, z, bind_eq]
        dsimp only
        rw [if_pos (by omega), nx_eq, nx_eq, hu, hup_n _ _ _ _ 141 13 (by omega), gp, show (q : Int) + 1 = ((q + 1 : Nat) : Int) by omega, hg, x2, ← hg]
        rw [show hup (hup (hup g 141 14 u) 141 13 ((q + 1 : Nat) : Int)) 141 14 w' = hup (hup g 141 14 w') 141 13 ((q + 1 : Nat) : Int) from by rw [hup_comm _ _ _ _ _ _ _ (by omega), hup_hup], hup_hup]
    · have s' := s
      unfold dgb at s'
      refine ⟨q, h 8 7, hup h 8 4 (if q - p ≤ 4 then 2 else 4), ?_, by omega, by rw [hup_n _ _ _ _ _ _ (by omega)]; exact h3, fun c k z => hup_n _ _ _ _ _ _ (by omega), hup_s _ _ _ _, hup_n _ _ _ _ _ _ (by omega), hb, fun _ z => absurd z s, fun g o gp gf gb ge => ⟨g 141 14, ge, ?_⟩⟩
      · rw [F_X8_readNumber_5]
        unfold ck
        rw [h3, c1, if_pos (by omega), if_pos (by omega), if_neg (by omega), if_pos (by omega), show ((q : Int)).toNat = q by omega, if_pos (by omega), nb_e h3 h5 hpq (by omega)]
        by_cases z : h 9 q < 48
        · rw [if_pos z]
        · rw [if_neg z, if_pos (by omega)]
      · have z := by_o (k := q) c o (by omega)
        rw [if_pos (by omega)] at z
        rw [F_X12_ahead_128, gp, z, bind_eq]
        dsimp only
        rw [dg_o (by omega), bind_eq]
        unfold ck
        dsimp only
        rw [if_neg (show ¬ (48 ≤ h 9 q % 256 ∧ h 9 q % 256 ≤ 57) by omega), if_pos (by omega), if_pos rfl, nb_f gp gf hpq (by omega)]
