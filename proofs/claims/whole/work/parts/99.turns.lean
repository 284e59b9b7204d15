/-! ===== a text is begun, and a shift's turns ===== -/
theorem beg_c {L : Nat} (hL : L ≤ 700) : ∀ (d f j : Nat) (g : MH), j + d = L → d < f → (∀ k, k < L → -128 ≤ g 146 k ∧ g 146 k ≤ 127) → (∀ k, k < j → g 147 k = g 146 k) →
    ∃ g', F_X12_begins_7 f (L : Int) (j : Int) g = (F_X12_ahead (hup (hup (hup (hup g' 141 9 0) 141 17 0) 141 16 (-1)) 141 13 0)).bind (fun q8 => some q8) ∧ (∀ k, k < L → g' 147 k = g 146 k) ∧ ∀ c k, c ≠ 147 → g' c k = g c k := by
  intro d
  induction d with
  | zero =>
    intro f j g e hf hb hj
    obtain ⟨f, rfl⟩ : ∃ g, f = g + 1 := ⟨f - 1, by omega⟩
    refine ⟨g, ?_, fun k hk => hj k (by omega), fun _ _ _ => rfl⟩
    rw [F_X12_begins_7]
    unfold ck
    rw [if_pos (by omega), if_pos (by omega), if_pos (by omega), nx_eq, nx_eq, nx_eq, nx_eq]
  | succ d ih =>
    intro f j g e hf hb hj
    obtain ⟨f, rfl⟩ : ∃ g, f = g + 1 := ⟨f - 1, by omega⟩
    have b := hb j (by omega)
    have w : w8 (g 146 j) = g 146 j := by unfold w8; omega
    obtain ⟨g', a1, a2, a3⟩ := ih f (j + 1) (hup g 147 j (g 146 j)) (by omega) (by omega) (fun k hk => by rw [hup_n _ _ _ _ _ _ (by omega)]; exact hb k hk) (fun k hk => by
      by_cases z : k = j
      · subst z; rw [hup_s, hup_n _ _ _ _ _ _ (by omega)]
      · rw [hup_n _ _ _ _ _ _ (by omega), hup_n _ _ _ _ _ _ (by omega)]; exact hj k (by omega))
    refine ⟨g', ?_, fun k hk => by rw [a2 k hk, hup_n _ _ _ _ _ _ (by omega)], fun c k z => by rw [a3 c k z, hup_n _ _ _ _ _ _ (by omega)]⟩
    rw [F_X12_begins_7]
    unfold ck
    rw [if_pos (by omega), if_pos (by omega), if_neg (by omega), if_pos (by omega), nx_eq, show ((j : Int)).toNat = j by omega, w, show (j : Int) + 1 = ((j + 1 : Nat) : Int) by omega, a1]
theorem beg_l {L : Nat} {h g : MH} (hL : L ≤ 700) (h1 : (L : Int) ≤ h 8 1 ∧ h 8 1 ≤ 700) (hb : ∀ k, k < L → (-128 ≤ h 9 k ∧ h 9 k ≤ 127) ∧ g 146 k = h 9 k) :
    ∃ h' g', F_X8_open (L : Int) h = some h' ∧ F_X12_begins (L : Int) g = some g' ∧ S0 L h' g' ∧ (h' 8 1 = 0 ∧ g' 141 9 = 0) ∧ (∀ c k, c ≠ 8 → h' c k = h c k) ∧ ∀ c k, ¬ (c = 141 ∧ 9 ≤ k ∧ k ≤ 17) → c ≠ 147 → g' c k = g c k := by
  obtain ⟨gC, a1, a2, a3⟩ := beg_c hL L 20000 0 (hup g 141 10 (L : Int)) (by omega) (by omega) (fun k hk => by rw [hup_n _ _ _ _ _ _ (by omega), (hb k hk).2]; exact (hb k hk).1) (fun k hk => absurd hk (by omega))
  rw [show ((0 : Nat) : Int) = 0 from rfl] at a1
  generalize eG : hup (hup (hup (hup gC 141 9 0) 141 17 0) 141 16 (-1)) 141 13 0 = gO at a1
  have nG : ∀ c k, ¬ (c = 141 ∧ (k = 9 ∨ k = 10 ∨ k = 13 ∨ k = 16 ∨ k = 17)) → c ≠ 147 → gO c k = g c k := fun c k z1 z2 => by
    rw [← eG, hup_n _ _ _ _ _ _ (by omega), hup_n _ _ _ _ _ _ (by omega), hup_n _ _ _ _ _ _ (by omega), hup_n _ _ _ _ _ _ (by omega), a3 c k z2, hup_n _ _ _ _ _ _ (by omega)]
  have G10 : gO 141 10 = (L : Int) := by
    rw [← eG, hup_n _ _ _ _ _ _ (by omega), hup_n _ _ _ _ _ _ (by omega), hup_n _ _ _ _ _ _ (by omega), hup_n _ _ _ _ _ _ (by omega), a3 _ _ (by omega), hup_s]
  have G13 : gO 141 13 = ((0 : Nat) : Int) := by rw [← eG, hup_s] <;> rfl
  have G16 : gO 141 16 = -1 := by rw [← eG, hup_n _ _ _ _ _ _ (by omega), hup_s]
  have G17 : gO 141 17 = 0 := by rw [← eG, hup_n _ _ _ _ _ _ (by omega), hup_n _ _ _ _ _ _ (by omega), hup_s]
  have G9 : gO 141 9 = 0 := by rw [← eG, hup_n _ _ _ _ _ _ (by omega), hup_n _ _ _ _ _ _ (by omega), hup_n _ _ _ _ _ _ (by omega), hup_s]
  have G147 : ∀ k, k < L → gO 147 k = h 9 k := fun k hk => by
    rw [← eG, hup_n _ _ _ _ _ _ (by omega), hup_n _ _ _ _ _ _ (by omega), hup_n _ _ _ _ _ _ (by omega), hup_n _ _ _ _ _ _ (by omega), a2 k hk, hup_n _ _ _ _ _ _ (by omega), (hb k hk).2]
  generalize eH : hup (hup (hup (hup (hup h 8 2 (L : Int)) 8 1 0) 8 3 0) 8 9 0) 8 10 (-1) = hO
  have nH : ∀ c k, c ≠ 8 → hO c k = h c k := fun c k z => by
    rw [← eH, hup_n _ _ _ _ _ _ (by omega), hup_n _ _ _ _ _ _ (by omega), hup_n _ _ _ _ _ _ (by omega), hup_n _ _ _ _ _ _ (by omega), hup_n _ _ _ _ _ _ (by omega)]
  have H2 : hO 8 2 = (L : Int) := by rw [← eH, hup_n _ _ _ _ _ _ (by omega), hup_n _ _ _ _ _ _ (by omega), hup_n _ _ _ _ _ _ (by omega), hup_n _ _ _ _ _ _ (by omega), hup_s]
  have H1 : hO 8 1 = 0 := by rw [← eH, hup_n _ _ _ _ _ _ (by omega), hup_n _ _ _ _ _ _ (by omega), hup_n _ _ _ _ _ _ (by omega), hup_s]
  have H3 : hO 8 3 = ((0 : Nat) : Int) := by rw [← eH, hup_n _ _ _ _ _ _ (by omega), hup_n _ _ _ _ _ _ (by omega), hup_s] <;> rfl
  have H9 : hO 8 9 = 0 := by rw [← eH, hup_n _ _ _ _ _ _ (by omega), hup_s]
  have H10 : hO 8 10 = -1 := by rw [← eH, hup_s]
  obtain ⟨p', q', h', g', b1, b2, b3, b4, b5, b6, b7⟩ := adv0 (L := L) (p := 0) (h := hO) (g := gO) ⟨H2, hL, fun k hk => by rw [nH _ _ (by omega)]; exact (hb k hk).1⟩ ⟨G10, fun k hk => by rw [G147 k hk, nH _ _ (by omega)]⟩ H3 G13 (by omega)
  refine ⟨h', g', ?_, ?_, ⟨⟨p', q', b3⟩, b4, ⟨by rw [b6 _ _ (by omega)]; exact H9, by rw [b6 _ _ (by omega)]; exact H10⟩, by rw [b7 _ _ (by omega)]; exact G17, by rw [b7 _ _ (by omega)]; exact G16⟩, ⟨by rw [b6 _ _ (by omega)]; exact H1, by rw [b7 _ _ (by omega)]; exact G9⟩, fun c k z => by rw [b6 _ _ (by omega), nH _ _ z], fun c k z1 z2 => by rw [b7 _ _ (by omega), nG _ _ (by omega) z2]⟩
  · unfold F_X8_open F_X8_open_0 ck
    rw [if_pos (by omega), if_pos (by omega), nx_eq, nx_eq, nx_eq, nx_eq, nx_eq, show min (L : Int) (h 8 1) = (L : Int) by omega, eH, b1, bind_eq]
  · unfold F_X12_begins F_X12_begins_0
    rw [nx_eq, a1, b2, bind_eq]
theorem turns_l {L : Nat} (hL : L ≤ 300) : ∀ (d f f' t : Nat) (h g : MH), t + d = 301 → d < f → d + 1 < f' → S0 L h g → (∃ E n dp : Nat, PI E n dp h g) → (t : Int) ≤ h 8 5 →
    ∃ b h' g', F_X7_takesAll_23 f (t : Int) h = some (b, h') ∧ F_X12_shift_62 f' (if h 8 4 = 0 then 0 else 1) g = F_X12_shift_109 g' ∧ ((b = 1 ∧ S0 L h' g' ∧ ∃ E n : Nat, PI E n 0 h' g') ∨ (b = 0 ∧ FT h' g')) ∧ HS h h' ∧ GS g g' := by
  intro d
  induction d with
  | zero =>
    intro f f' t h g e hf hf' s p ht
    have k := s.k.2.2.1
    omega
  | succ d ih =>
    intro f f' t h g e hf hf' s p ht
    obtain ⟨f, rfl⟩ : ∃ g, f = g + 1 := ⟨f - 1, by omega⟩
    obtain ⟨f', rfl⟩ : ∃ g, f' = g + 1 + 1 := ⟨f' - 2, by omega⟩
    obtain ⟨E, n, dp, p⟩ := p
    have bb := p.b
    obtain ⟨⟨p1, p2, p3, p4, p5⟩, -⟩ := id p
    obtain ⟨k1, k2, k3, k4, k5, k6⟩ := s.k
    obtain ⟨-, -, -, y1, y2⟩ := id s
    by_cases z : h 8 4 = 0
    · rw [if_pos z]
      by_cases d0 : dp = 0
      · subst d0
        refine ⟨1, h, g, ?_, ?_, Or.inl ⟨rfl, s, E, n, p⟩, fun _ _ _ _ => rfl, fun _ _ _ _ _ => rfl⟩
        · rw [F_X7_takesAll_23]
          unfold ck
          rw [if_pos (by omega), if_neg (by omega), if_pos (by omega), if_neg (by omega), p4, if_pos (by omega), if_pos (by omega)]
        · rw [F_X12_shift_62]
          unfold ck
          rw [if_pos (by omega), if_pos rfl, y1, if_pos (by omega), if_neg (by omega), p5, if_pos (by omega), if_pos (by omega)]
      · obtain ⟨h', g', a1, a2, a3, a4, a5⟩ := fl_m s
        refine ⟨0, h', g', ?_, ?_, Or.inr ⟨rfl, a3⟩, fun c k z1 z2 => a4 c k z1, fun c k z1 z2 z3 => a5 c k (by omega)⟩
        · rw [F_X7_takesAll_23]
          unfold ck
          rw [if_pos (by omega), if_neg (by omega), if_pos (by omega), if_neg (by omega), p4, if_pos (by omega), if_neg (by omega), a1, bind_eq]
          dsimp only
          rw [if_pos (by omega), if_pos rfl]
        · rw [F_X12_shift_62]
          unfold ck
          rw [if_pos (by omega), if_pos rfl, y1, if_pos (by omega), if_neg (by omega), p5, if_pos (by omega), if_neg (by omega), a2, bind_eq]
    · have k6' := k6 z
      rw [if_neg z]
      have go : ∀ b h' g', F_X12_step g = some (b, g') → TN L h b h' g' → HS h h' → GS g g' →
          (F_X7_takesAll_23 (f + 1) (t : Int) h = if b = 0 then some (0, h') else F_X7_takesAll_23 f ((t + 1 : Nat) : Int) h') →
          ∃ b h' g', F_X7_takesAll_23 (f + 1) (t : Int) h = some (b, h') ∧ F_X12_shift_62 (f' + 1 + 1) 1 g = F_X12_shift_109 g' ∧ ((b = 1 ∧ S0 L h' g' ∧ ∃ E n : Nat, PI E n 0 h' g') ∨ (b = 0 ∧ FT h' g')) ∧ HS h h' ∧ GS g g' := by
        intro b h' g' a2 a3 a4 a5 a1
        rcases a3 with ⟨b1, b2, b3, b4⟩ | ⟨b1, b2⟩
        · rw [b1, if_neg (by omega)] at a1
          rw [b1] at a2
          obtain ⟨b', h5, g5, c1, c2, c3, c4, c5⟩ := ih f (f' + 1) (t + 1) h' g' (by omega) (by omega) (by omega) b2 b3 (by omega)
          obtain ⟨j1, j2, -⟩ := b2.k
          obtain ⟨m1, m2, m3, m4, m5, m6⟩ := kmp_1 j1
          refine ⟨b', h5, g5, by rw [a1, c1], ?_, c3, fun c k z1 z2 => by rw [c4 c k z1 z2, a4 c k z1 z2], fun c k z1 z2 z3 => by rw [c5 c k z1 z2 z3, a5 c k z1 z2 z3]⟩
          rw [← c2, F_X12_shift_62]
          unfold F_X12_shift_84 F_X12_shift_85 ck
          rw [if_pos (by omega), if_neg (by omega), a2, bind_eq]
          dsimp only
          rw [if_pos (by omega), if_neg (by omega), if_pos (by rw [j2]; exact m1)]
          by_cases w : h' 8 4 = 0
          · rw [if_pos (by rw [j2]; exact m6.mpr w), if_pos w]
          · rw [if_neg (by rw [j2]; exact fun v => w (m6.mp v)), if_neg w]
        · rw [b1, if_pos rfl] at a1
          rw [b1] at a2
          obtain ⟨f1, f2, f3, f4⟩ := id b2
          refine ⟨0, h', g', a1, ?_, Or.inr ⟨rfl, b2⟩, a4, a5⟩
          rw [F_X12_shift_62]
          unfold F_X12_shift_84 F_X12_shift_85 ck
          rw [if_pos (by omega), if_neg (by omega), a2, bind_eq]
          dsimp only
          rw [if_pos (by omega), if_pos rfl, F_X12_shift_62]
          unfold ck
          rw [if_pos (by omega), if_pos rfl, if_pos (by omega), if_pos (by omega)]
      by_cases w : tWd h = zsB.getD 8 []
      · obtain ⟨b, h', g', a1, a2, a3, a4, a5⟩ := end_l s p w
        have hb : b = 0 ∨ b = 1 := by rcases a3 with ⟨z, _⟩ | ⟨z, _⟩ <;> omega
        refine go b h' g' a2 a3 a4 a5 ?_
        rw [F_X7_takesAll_23]
        unfold F_X7_takesAll_94 ck
        rw [if_pos (by omega), if_neg (by omega), if_pos (by omega), if_pos z, is_t s (by omega) w, bind_eq]
        dsimp only
        rw [if_pos (by omega), if_neg (by omega), a1, bind_eq]
        dsimp only
        rw [if_pos (by omega), show (t : Int) + 1 = ((t + 1 : Nat) : Int) by omega]
      · obtain ⟨b, h', g', a1, a2, a3, a4, a5⟩ := step_l s p w
        have hb : b = 0 ∨ b = 1 := by rcases a3 with ⟨z, _⟩ | ⟨z, _⟩ <;> omega
        refine go b h' g' a2 a3 a4 a5 ?_
        rw [F_X7_takesAll_23]
        unfold F_X7_takesAll_94 ck
        rw [if_pos (by omega), if_neg (by omega), if_pos (by omega), if_pos z, is_f s (by omega) w, bind_eq]
        dsimp only
        rw [if_pos (by omega), if_pos rfl, a1, bind_eq]
        dsimp only
        rw [if_pos (by omega), show (t : Int) + 1 = ((t + 1 : Nat) : Int) by omega]
        by_cases v : b = 0
        · rw [if_neg (fun u => u v), if_pos v]
        · rw [if_pos v, if_neg v]
theorem cp149 : ∀ (d f j : Nat) (g : MH), j + d = 440 → d < f → in32 (g 141 22) → ∃ g', F_X12_shift_149 f (j : Int) g = some (g 141 22, hup g' 141 1 0) ∧ (∀ k, j ≤ k → k < 440 → g' 142 k = g 142 (1760 + k)) ∧ ∀ c k, ¬ (c = 142 ∧ j ≤ k ∧ k < 440) → g' c k = g c k := by
  intro d
  induction d with
  | zero =>
    intro f j g e hf hi
    obtain ⟨f, rfl⟩ : ∃ g, f = g + 1 := ⟨f - 1, by omega⟩
    refine ⟨g, ?_, fun k h1 h2 => absurd h1 (by omega), fun _ _ _ => rfl⟩
    rw [F_X12_shift_149]
    unfold F_X12_gives F_X12_gives_0 ck
    rw [if_pos (by omega), if_pos (by omega), if_pos hi, nx_eq, bind_eq]
  | succ d ih =>
    intro f j g e hf hi
    obtain ⟨f, rfl⟩ : ∃ g, f = g + 1 := ⟨f - 1, by omega⟩
    obtain ⟨g', a1, a2, a3⟩ := ih f (j + 1) (hup g 142 j (g 142 (1760 + j))) (by omega) (by omega) (by rw [hup_n _ _ _ _ _ _ (by omega)]; exact hi)
    refine ⟨g', ?_, fun k h1 h2 => ?_, fun c k z => by rw [a3 c k (by omega), hup_n _ _ _ _ _ _ (by omega)]⟩
    · rw [hup_n _ _ _ _ _ _ (by omega)] at a1
      rw [F_X12_shift_149]
      unfold ck
      rw [if_pos (by omega), if_neg (by omega), if_pos (by omega), if_pos (by omega), nx_eq, show ((j : Int)).toNat = j by omega, show ((1760 : Int) + (j : Int)).toNat = 1760 + j by omega, show (j : Int) + 1 = ((j + 1 : Nat) : Int) by omega, a1]
    · by_cases z : k = j
      · subst z
        rw [a3 _ _ (by omega), hup_s]
      · rw [a2 k (by omega) h2, hup_n _ _ _ _ _ _ (by omega)]
