/-! ===== a line's turns ===== -/
theorem part_l {L M T : Nat} {h g : MH} (s : S0 L h g) (p : LI M T h g) :
    ∃ b h' g', F_X3_takePart h = some (b, h') ∧ F_X12_part g = some (b, g') ∧ LN L h b h' g' ∧ HL h h' ∧ GL g g' ∧ (b = 0 ∨ b = 1) := by
  have iw := iw19 s
  have ib := ix_b (tWd h) w19 0 (by omega)
  have il : w19.length = 8 := rfl
  rw [il] at ib
  by_cases e0 : tWd h = zsB.getD 0 []
  · obtain ⟨b, h', g', a1, a2, a3, a4, a5, a6⟩ := mach_l s p (wd1k s (by omega) e0)
    refine ⟨b, h', g', ?_, ?_, a3, a4, a5, a6⟩
    · unfold F_X3_takePart F_X3_takePart_0 ck
      rw [is_t s (by omega) e0, bind_eq]
      dsimp only
      rw [if_pos (by omega), if_neg (by omega), a1, bind_eq]
      dsimp only
      rw [if_pos a6]
    · unfold F_X12_part F_X12_part_0 ck
      rw [iw, (w19_0 _).mpr e0, bind_eq]
      dsimp only
      rw [if_pos (by omega), if_neg (by omega)]
      exact a2
  have i0 : ix w19 0 (tWd h) ≠ 0 := fun z => e0 ((w19_0 _).mp z)
  by_cases e1 : tWd h = zsB.getD 5 []
  · obtain ⟨b, h', g', a1, a2, a3, a4, a5, a6⟩ := table_l s p (wd1k s (by omega) e1)
    refine ⟨b, h', g', ?_, ?_, a3, a4, a5, a6⟩
    · unfold F_X3_takePart F_X3_takePart_0 ck
      rw [is_f s (by omega) e0, bind_eq]
      dsimp only
      rw [if_pos (by omega), if_pos rfl, is_t s (by omega) e1, bind_eq]
      dsimp only
      rw [if_pos (by omega), if_neg (by omega), a1, bind_eq]
      dsimp only
      rw [if_pos a6]
    · unfold F_X12_part F_X12_part_0 ck
      rw [iw, (w19_1 _).mpr e1, bind_eq]
      dsimp only
      rw [if_pos (by omega), if_pos (by omega), if_neg (by omega)]
      exact a2
  have i1 : ix w19 0 (tWd h) ≠ 1 := fun z => e1 ((w19_1 _).mp z)
  by_cases e2 : tWd h = zsB.getD 6 []
  · obtain ⟨b, h', g', a1, a2, a3, a4, a5, a6⟩ := sort_l s p (wd1k s (by omega) e2)
    refine ⟨b, h', g', ?_, ?_, a3, a4, a5, a6⟩
    · unfold F_X3_takePart F_X3_takePart_0 ck
      rw [is_f s (by omega) e0, bind_eq]
      dsimp only
      rw [if_pos (by omega), if_pos rfl, is_f s (by omega) e1, bind_eq]
      dsimp only
      rw [if_pos (by omega), if_pos rfl, is_t s (by omega) e2, bind_eq]
      dsimp only
      rw [if_pos (by omega), if_neg (by omega), a1, bind_eq]
      dsimp only
      rw [if_pos a6]
    · unfold F_X12_part F_X12_part_0 ck
      rw [iw, (w19_2 _).mpr e2, bind_eq]
      dsimp only
      rw [if_pos (by omega), if_pos (by omega), if_pos (by omega), if_neg (by omega)]
      exact a2
  have i2 : ix w19 0 (tWd h) ≠ 2 := fun z => e2 ((w19_2 _).mp z)
  by_cases e3 : tWd h = zsB.getD 7 []
  · obtain ⟨b, h', g', a1, a2, a3, a4, a5, a6⟩ := wash_l s p
    refine ⟨b, h', g', ?_, ?_, a3, a4, a5, a6⟩
    · unfold F_X3_takePart F_X3_takePart_0 ck
      rw [is_f s (by omega) e0, bind_eq]
      dsimp only
      rw [if_pos (by omega), if_pos rfl, is_f s (by omega) e1, bind_eq]
      dsimp only
      rw [if_pos (by omega), if_pos rfl, is_f s (by omega) e2, bind_eq]
      dsimp only
      rw [if_pos (by omega), if_pos rfl, is_t s (by omega) e3, bind_eq]
      dsimp only
      rw [if_pos (by omega), if_neg (by omega), a1, bind_eq]
      dsimp only
      rw [if_pos a6]
    · unfold F_X12_part F_X12_part_0 ck
      rw [iw, (w19_3 _).mpr e3, bind_eq]
      dsimp only
      rw [if_pos (by omega), if_pos (by omega), if_pos (by omega), if_pos (by omega), if_neg (by omega)]
      exact a2
  have i3 : ix w19 0 (tWd h) ≠ 3 := fun z => e3 ((w19_3 _).mp z)
  obtain ⟨h', g', a1, a2, a3, a4, a5⟩ := fl_m s
  refine ⟨0, h', g', ?_, ?_, Or.inr ⟨rfl, a3⟩, fun c k z1 _ _ _ _ _ => a4 c k z1, fun c k z1 _ _ _ => a5 c k z1, Or.inl rfl⟩
  · unfold F_X3_takePart F_X3_takePart_0 ck
    rw [is_f s (by omega) e0, bind_eq]
    dsimp only
    rw [if_pos (by omega), if_pos rfl, is_f s (by omega) e1, bind_eq]
    dsimp only
    rw [if_pos (by omega), if_pos rfl, is_f s (by omega) e2, bind_eq]
    dsimp only
    rw [if_pos (by omega), if_pos rfl, is_f s (by omega) e3, bind_eq]
    dsimp only
    rw [if_pos (by omega), if_pos rfl, a1, bind_eq]
    dsimp only
    rw [if_pos (by omega)]
  · unfold F_X12_part F_X12_part_0 ck
    rw [iw, bind_eq]
    dsimp only
    rw [if_pos (by omega), if_pos i0, if_pos i1, if_pos i2, if_pos i3, a2, bind_eq]
    exact p59_0
/-- the other's end of a line -/
def lEnd (h : MH) : Option (Int × MH) :=
  nx (hup h 141 15 (h 141 17)) fun h3 =>
  ck (in32 (h3 141 17)) <|
  if (h3 141 17) ≤ 0 then
    (F_X12_fresh 1760 0 h3).bind fun q6 =>
    nx (hup q6 142 1765 (q6 142 5)) fun h7 =>
    F_X12_line_176 20000 0 h7
  else
    (F_X12_refuse 9 h3).bind fun q8 =>
    some (q8.1, q8.2)
theorem l103_0 {f : Nat} {g : MH} : F_X12_line_103 (f + 1) 0 g = lEnd g := by
  rw [F_X12_line_103]
  unfold lEnd ck
  rw [if_pos (by omega), if_pos rfl]
theorem ltur {L : Nat} (hL : L ≤ 700) : ∀ (d f f' t : Nat) (h g : MH), t + d = 701 → d < f → d + 1 < f' → S0 L h g → (∃ M T : Nat, LI M T h g) → (t : Int) ≤ h 8 5 →
    ∃ b h' g', F_X3_takesAll_17 f (t : Int) h = some (b, h') ∧ F_X12_line_103 f' (if h 8 4 = 0 then 0 else 1) g = lEnd g' ∧ ((b = 1 ∧ S0 L h' g' ∧ ∃ M T : Nat, LI M T h' g') ∨ (b = 0 ∧ FT h' g')) ∧ HL h h' ∧ GL g g' := by
  intro d
  induction d with
  | zero =>
    intro f f' t h g e hf hf' s p ht
    have k := s.k.2.2.1
    omega
  | succ d ih =>
    intro f f' t h g e hf hf' s p ht
    obtain ⟨f, rfl⟩ : ∃ g, f = g + 1 := ⟨f - 1, by omega⟩
    obtain ⟨f', rfl⟩ : ∃ g, f' = g + 1 + 1 := ⟨f' - 2, by omega⟩
    obtain ⟨M, T, p⟩ := p
    obtain ⟨k1, k2, k3, k4, k5, k6⟩ := s.k
    by_cases z : h 8 4 = 0
    · rw [if_pos z]
      refine ⟨1, h, g, ?_, l103_0, Or.inl ⟨rfl, s, M, T, p⟩, fun _ _ _ _ _ _ _ _ => rfl, fun _ _ _ _ _ _ => rfl⟩
      rw [F_X3_takesAll_17]
      unfold ck
      rw [if_pos (by omega), if_neg (by omega), if_pos (by omega), if_neg (by omega)]
    · have k6' := k6 z
      rw [if_neg z]
      obtain ⟨b, h', g', a1, a2, a3, a4, a5, a6⟩ := part_l s p
      have cl : F_X3_takesAll_17 (f + 1) (t : Int) h = if b ≠ 0 then F_X3_takesAll_17 f ((t + 1 : Nat) : Int) h' else some (0, h') := by
        rw [F_X3_takesAll_17]
        unfold ck
        rw [if_pos (by omega), if_neg (by omega), if_pos (by omega), if_pos z, a1, bind_eq]
        dsimp only
        rw [if_pos (by omega), show (t : Int) + 1 = ((t + 1 : Nat) : Int) by omega]
      rcases a3 with ⟨b1, b2, b3, b4⟩ | ⟨b1, b2⟩
      · rw [b1, if_pos (by omega)] at cl
        rw [b1] at a2
        obtain ⟨b', h5, g5, c1, c2, c3, c4, c5⟩ := ih f (f' + 1) (t + 1) h' g' (by omega) (by omega) (by omega) b2 b3 (by omega)
        obtain ⟨j1, j2, -⟩ := b2.k
        obtain ⟨m1, m2, m3, m4, m5, m6⟩ := kmp_1 j1
        refine ⟨b', h5, g5, by rw [cl, c1], ?_, c3, fun c k z1 z2 z3 z4 z5 z6 => by rw [c4 c k z1 z2 z3 z4 z5 z6, a4 c k z1 z2 z3 z4 z5 z6], fun c k z1 z2 z3 z4 => by rw [c5 c k z1 z2 z3 z4, a5 c k z1 z2 z3 z4]⟩
        rw [← c2, F_X12_line_103]
        unfold F_X12_line_125 F_X12_line_126 ck
        rw [if_pos (by omega), if_neg (by omega), a2, bind_eq]
        dsimp only
        rw [if_pos (by omega), if_neg (by omega), if_pos (by rw [j2]; exact m1)]
        by_cases w : h' 8 4 = 0
        · rw [if_pos (by rw [j2]; exact m6.mpr w), if_pos w]
        · rw [if_neg (by rw [j2]; exact fun v => w (m6.mp v)), if_neg w]
      · rw [b1, if_neg (by omega)] at cl
        rw [b1] at a2
        refine ⟨0, h', g', cl, ?_, Or.inr ⟨rfl, b2⟩, a4, a5⟩
        rw [F_X12_line_103]
        unfold F_X12_line_125 F_X12_line_126 ck
        rw [if_pos (by omega), if_neg (by omega), a2, bind_eq]
        dsimp only
        rw [if_pos (by omega), if_pos rfl, l103_0]
theorem l25 : ∀ (d f j : Nat) (g : MH), j + d = 190 → d < f → ∃ g', F_X12_line_25 f (j : Int) g = F_X12_line_71 20000 0 g' ∧ (∀ k, j ≤ k → k < 190 → g' 142 (1760 + k) = if 140 ≤ k ∧ k < 189 then 10 else 0) ∧ ∀ c k, ¬ (c = 142 ∧ 1760 + j ≤ k ∧ k < 1950) → g' c k = g c k := by
  intro d
  induction d with
  | zero =>
    intro f j g e hf
    obtain ⟨f, rfl⟩ : ∃ g, f = g + 1 := ⟨f - 1, by omega⟩
    refine ⟨g, ?_, fun k h1 h2 => absurd h1 (by omega), fun _ _ _ => rfl⟩
    rw [F_X12_line_25]
    unfold ck
    rw [if_pos (by omega), if_pos (by omega)]
  | succ d ih =>
    intro f j g e hf
    obtain ⟨f, rfl⟩ : ∃ g, f = g + 1 := ⟨f - 1, by omega⟩
    generalize ev : (if 140 ≤ j ∧ j < 189 then (10 : Int) else 0) = v
    obtain ⟨g', a1, a2, a3⟩ := ih f (j + 1) (hup g 142 (1760 + j) v) (by omega) (by omega)
    refine ⟨g', ?_, fun k h1 h2 => ?_, fun c k z => by rw [a3 c k (by omega), hup_n _ _ _ _ _ _ (by omega)]⟩
    · rw [← a1, F_X12_line_25, ← ev]
      unfold F_X12_line_61 F_X12_line_62 ck
      rw [if_pos (by omega), if_neg (by omega), if_pos (show 0 ≤ (1760 : Int) + (j : Int) ∧ (1760 : Int) + (j : Int) < 2640 by omega), if_pos (show 0 ≤ (1760 : Int) + (j : Int) ∧ (1760 : Int) + (j : Int) < 2640 by omega), nx_eq, nx_eq, show ((1760 : Int) + (j : Int)).toNat = 1760 + j by omega, show (j : Int) + 1 = ((j + 1 : Nat) : Int) by omega]
      by_cases w : j < 140
      · rw [if_pos (by omega), if_neg (by omega)]
      · rw [if_neg (by omega)]
        by_cases y : 189 ≤ j
        · rw [if_pos (by omega), if_neg (by omega)]
        · rw [if_neg (by omega), if_pos (by omega)]
    · by_cases z : k = j
      · subst z
        rw [a3 _ _ (by omega), hup_s, ← ev]
      · rw [a2 k (by omega) h2]
theorem l71 : ∀ (d f j : Nat) (g : MH), j + d = 49 → d < f → in32 (g 141 11) → ∃ g', F_X12_line_71 f (j : Int) g = (if g 141 11 = 0 then F_X12_line_103 20000 0 g' else F_X12_line_103 20000 1 g') ∧ (∀ k, j ≤ k → k < 49 → g' 149 k = 0) ∧ ∀ c k, ¬ (c = 149 ∧ j ≤ k ∧ k < 49) → g' c k = g c k := by
  intro d
  induction d with
  | zero =>
    intro f j g e hf hi
    obtain ⟨f, rfl⟩ : ∃ g, f = g + 1 := ⟨f - 1, by omega⟩
    refine ⟨g, ?_, fun k h1 h2 => absurd h1 (by omega), fun _ _ _ => rfl⟩
    rw [F_X12_line_71]
    unfold F_X12_line_102 ck
    rw [if_pos (by omega), if_pos (by omega), if_pos hi]
  | succ d ih =>
    intro f j g e hf hi
    obtain ⟨f, rfl⟩ : ∃ g, f = g + 1 := ⟨f - 1, by omega⟩
    obtain ⟨g', a1, a2, a3⟩ := ih f (j + 1) (hup g 149 j 0) (by omega) (by omega) (by rw [hup_n _ _ _ _ _ _ (by omega)]; exact hi)
    rw [hup_n _ _ _ _ _ _ (by omega)] at a1
    refine ⟨g', ?_, fun k h1 h2 => ?_, fun c k z => by rw [a3 c k (by omega), hup_n _ _ _ _ _ _ (by omega)]⟩
    · rw [← a1, F_X12_line_71]
      unfold ck
      rw [if_pos (by omega), if_neg (by omega), if_pos (by omega), nx_eq, show ((j : Int)).toNat = j by omega, show (j : Int) + 1 = ((j + 1 : Nat) : Int) by omega]
    · by_cases z : k = j
      · subst z
        rw [a3 _ _ (by omega), hup_s]
      · exact a2 k (by omega) h2
theorem cp176 : ∀ (d f j : Nat) (g : MH), j + d = 190 → d < f → ∃ g', F_X12_line_176 f (j : Int) g = some (g' 142 0, hup g' 141 1 0) ∧ (∀ k, j ≤ k → k < 190 → g' 142 k = g 142 (1760 + k)) ∧ ∀ c k, ¬ (c = 142 ∧ j ≤ k ∧ k < 190) → g' c k = g c k := by
  intro d
  induction d with
  | zero =>
    intro f j g e hf
    obtain ⟨f, rfl⟩ : ∃ g, f = g + 1 := ⟨f - 1, by omega⟩
    refine ⟨g, ?_, fun k h1 h2 => absurd h1 (by omega), fun _ _ _ => rfl⟩
    rw [F_X12_line_176]
    unfold F_X12_gives F_X12_gives_0 ck
    rw [if_pos (by omega), if_pos (by omega), nx_eq, bind_eq]
  | succ d ih =>
    intro f j g e hf
    obtain ⟨f, rfl⟩ : ∃ g, f = g + 1 := ⟨f - 1, by omega⟩
    obtain ⟨g', a1, a2, a3⟩ := ih f (j + 1) (hup g 142 j (g 142 (1760 + j))) (by omega) (by omega)
    refine ⟨g', ?_, fun k h1 h2 => ?_, fun c k z => by rw [a3 c k (by omega), hup_n _ _ _ _ _ _ (by omega)]⟩
    · rw [F_X12_line_176]
      unfold ck
      rw [if_pos (by omega), if_neg (by omega), if_pos (by omega), if_pos (by omega), nx_eq, show ((j : Int)).toNat = j by omega, show ((1760 : Int) + (j : Int)).toNat = 1760 + j by omega, show (j : Int) + 1 = ((j + 1 : Nat) : Int) by omega, a1]
    · by_cases z : k = j
      · subst z
        rw [a3 _ _ (by omega), hup_s]
      · rw [a2 k (by omega) h2, hup_n _ _ _ _ _ _ (by omega)]
/-! the class's plan, cleared -/
def FF (h : MH) : Prop := (h 12 5 = 0 ∧ h 12 6 = 0 ∧ h 12 7 = 0) ∧ (∀ m, m < 6 → h 17 m = 0 ∧ h 18 m = -1 ∧ h 19 m = 0 ∧ h 20 m = 0) ∧ (∀ k, k < 24 → h 21 k = 0) ∧ ∀ k, k < 36 → h 22 k = 0
theorem FF_f {h h' : MH} (p : FF h) (a : ∀ c k, (c = 12 ∧ k ≠ 0) ∨ (17 ≤ c ∧ c ≤ 22) → h' c k = h c k) : FF h' := by
  obtain ⟨⟨p1, p2, p3⟩, q, r, t⟩ := p
  refine ⟨⟨by rw [a _ _ (by omega)]; exact p1, by rw [a _ _ (by omega)]; exact p2, by rw [a _ _ (by omega)]; exact p3⟩, fun m hm => ?_, fun k hk => by rw [a _ _ (by omega)]; exact r k hk, fun k hk => by rw [a _ _ (by omega)]; exact t k hk⟩
  rw [a 17 m (by omega), a 18 m (by omega), a 19 m (by omega), a 20 m (by omega)]
  exact q m hm
theorem clear_l {h : MH} : ∃ h', F_X5_clear 11 h = some h' ∧ FF h' ∧ (h' 12 0 = 0 ∧ h' 11 4 = 0) ∧ (∀ k, k < 49 → h' 25 k = -1) ∧ ∀ c k, ¬ (11 ≤ c ∧ c ≤ 25) → h' c k = h c k := by
  have e : F_X5_clear 11 h = some (hfl (hup (hfl (hfl (hfl (hfl (hfl (hfl (hup (hup (hup (hup h 12 0 0) 12 5 0) 12 6 0) 12 7 0) 17 6 0) 18 6 (-1)) 19 6 0) 20 6 0) 21 24 0) 22 36 0) 11 4 0) 25 49 (-1)) := by
    unfold F_X5_clear F_X5_clear_0
    rw [nx_eq, start_eq, bind_eq, nx_eq, fillI (by omega), bind_eq] <;> rfl
  refine ⟨_, e, ⟨⟨?_, ?_, ?_⟩, fun m hm => ⟨?_, ?_, ?_, ?_⟩, fun k hk => ?_, fun k hk => ?_⟩, ⟨?_, ?_⟩, fun k hk => hfl_y _ _ _ _ _ _ (by omega), fun c k z => ?_⟩
  all_goals simp (disch := omega) only [hfl_n, hup_n, hup_s, hfl_y]
/-- what the class and the other have read is a plan -/
theorem LI_PR {M T B : Nat} {h g gU : MH} (p : LI M T h g) (ff : FF h) (u0 : gU 142 1760 = g 142 1760) (u1 : gU 142 1761 = g 142 1761) (u2 : gU 142 1762 = 0) (u3 : gU 142 1763 = 0) (u4 : gU 142 1764 = 0)
    (uN : ∀ m e, m < 6 → e < 16 → ¬ mW e → gU 142 (1760 + 8 + 16 * m + e) = g 142 (1768 + 16 * m + e)) (uW : ∀ m e, m < 6 → e < 16 → mW e → gU 142 (1760 + 8 + 16 * m + e) = if e = 5 then -1 else 0)
    (uB : ∀ k, k < 36 → gU 142 (1760 + 104 + k) = 0) (uS : ∀ k, k < 49 → gU 142 (1760 + 140 + k) = g 142 (1900 + k)) : PR 11 1760 B (mg h gU) := by
  obtain ⟨⟨p1, p2, p3⟩, ⟨q1, q2, q3⟩, r, s0, t0, u, v⟩ := p
  obtain ⟨⟨f1, f2, f3⟩, f4, f5, f6⟩ := ff
  have G : ∀ k, mg h gU 142 k = gU 142 k := fun k => mg_r (by omega)
  have H : ∀ d k, d ≤ 14 → mg h gU (11 + d) k = h (11 + d) k := fun d k hd => mg_l (by omega)
  have H0 : ∀ k, mg h gU 11 k = h 11 k := fun k => mg_l (by omega)
  unfold PR
  rw [H 1 0 (by omega), H 1 7 (by omega), H 1 5 (by omega), H 1 6 (by omega), H0 4, G 1760, G (1760 + 1), G (1760 + 2), G (1760 + 3), G (1760 + 4), show 11 + 1 = 12 from rfl, show 1760 + 1 = 1761 from rfl, show 1760 + 2 = 1762 from rfl, show 1760 + 3 = 1763 from rfl, show 1760 + 4 = 1764 from rfl, u0, u1, u2, u3, u4, f1, f2, f3, p1, p2, q1, q2]
  refine ⟨⟨by omega, by omega, rfl⟩, ⟨by omega, by omega, rfl⟩, ⟨by omega, by omega, rfl⟩, ⟨by omega, by omega, rfl⟩, ⟨by omega, by omega, rfl⟩, fun m hm => ?_, fun k hk => ?_, fun k hk => ?_⟩
  · have hm' : m < M := by omega
    have hm6 : m < 6 := by omega
    obtain ⟨m1, m2, m3, m4, m5, m6⟩ := r m hm'
    obtain ⟨w1, w2, w3, w4⟩ := f4 m hm6
    have n0 : gU 142 (1760 + 8 + 16 * m) = g 142 (1768 + 16 * m) := uN m 0 hm6 (by omega) (by unfold mW; omega)
    unfold MR
    rw [H 2 m (by omega), H 13 m (by omega), H 3 m (by omega), H 4 m (by omega), H 6 m (by omega), H 7 m (by omega), H 1 7 (by omega), H 8 m (by omega), H 5 m (by omega), H 9 m (by omega), H 12 m (by omega), G _, G (1760 + 8 + 16 * m + 1), G (1760 + 8 + 16 * m + 2), G (1760 + 8 + 16 * m + 3), G (1760 + 8 + 16 * m + 4), G (1760 + 8 + 16 * m + 5), G (1760 + 8 + 16 * m + 6), G (1760 + 8 + 16 * m + 11), G (1760 + 8 + 16 * m + 12), G (1760 + 8 + 16 * m + 13), n0, uN m 1 hm6 (by omega) (by unfold mW; omega), uN m 2 hm6 (by omega) (by unfold mW; omega), uN m 3 hm6 (by omega) (by unfold mW; omega), uN m 11 hm6 (by omega) (by unfold mW; omega), uN m 13 hm6 (by omega) (by unfold mW; omega), uW m 4 hm6 (by omega) (by unfold mW; omega), uW m 5 hm6 (by omega) (by unfold mW; omega), uW m 6 hm6 (by omega) (by unfold mW; omega), uW m 12 hm6 (by omega) (by unfold mW; omega)]
    rw [show 11 + 2 = 13 from rfl, show 11 + 13 = 24 from rfl, show 11 + 3 = 14 from rfl, show 11 + 4 = 15 from rfl, show 11 + 6 = 17 from rfl, show 11 + 7 = 18 from rfl, show 11 + 1 = 12 from rfl, show 11 + 8 = 19 from rfl, show 11 + 5 = 16 from rfl, show 11 + 9 = 20 from rfl, show 11 + 12 = 23 from rfl, w1, w2, w3, w4, f3]
    refine ⟨m1, m2, m3, m4, ⟨by omega, by omega, rfl⟩, ⟨by omega, by omega, rfl, by omega⟩, ⟨by omega, by omega, rfl⟩, fun s hs => ?_, m5, ⟨by omega, by omega, rfl⟩, m6⟩
    have q := uW m (7 + s) hm6 (by omega) (by unfold mW; omega)
    rw [← Nat.add_assoc, if_neg (by omega)] at q
    rw [H 10 _ (by omega), G, q, show 11 + 10 = 21 from rfl, f5 _ (by omega)]
    exact ⟨by omega, by omega, rfl⟩
  · rw [H 11 _ (by omega), G, uB k hk, show 11 + 11 = 22 from rfl, f6 k hk]
    exact ⟨by omega, by omega, rfl⟩
  · rw [H 14 _ (by omega), G, uS k hk, show 11 + 14 = 25 from rfl]
    rcases v k hk with ⟨v1, v2, v3⟩ | ⟨v1, v2, v3, v4⟩
    · rw [v1, v2, if_pos rfl]; exact ⟨by omega, by omega, rfl⟩
    · rw [v3, if_neg (by omega)]; exact ⟨by omega, v2, rfl⟩
