/-! ===== a machine is read, on both sides ===== -/
theorem wd1k {L : Nat} {h g : MH} (s : S0 L h g) {x : Nat} (hx : x < 21) (e : tWd h = zsB.getD x []) : h 8 4 = 1 := by
  by_cases z : h 8 4 = 1
  · exact z
  · have w : tWd h = [] := by unfold tWd; rw [if_neg z]
    have q := (s32 x hx).2.1
    rw [← e, w] at q
    exact absurd q (by decide)
theorem p182 {k145 : Int → Int → Int → Int → MH → Option (Int × MH)} {x x4 : Int} {g : MH} (h4 : x4 = 0 ∨ x4 = 1) : F_X12_aMachine_182 k145 x 0 x4 5 g = F_X12_aMachine_215 k145 x 1 5 x4 g := by
  unfold F_X12_aMachine_182 F_X12_aMachine_192 F_X12_aMachine_197 F_X12_aMachine_210 ck
  rw [if_pos (by omega), if_neg (by omega), if_pos (by omega), if_neg (by omega), if_pos (by omega)]
  rcases h4 with z | z
  · rw [z, if_neg (by omega), if_pos (by omega), if_pos (by omega)]
  · rw [z, if_pos (by omega)]
theorem q182 {k145 : Int → Int → Int → Int → MH → Option (Int × MH)} {x x3 : Int} {g : MH} (h3 : x3 = 0 ∨ x3 = 1) : F_X12_aMachine_182 k145 x x3 0 6 g = F_X12_aMachine_215 k145 x x3 6 1 g := by
  have e : ∀ s0, F_X12_aMachine_197 k145 x 0 6 s0 g = F_X12_aMachine_215 k145 x s0 6 1 g := fun s0 => by
    unfold F_X12_aMachine_197 F_X12_aMachine_210 ck
    rw [if_pos (by omega), if_neg (by omega), if_pos (by omega), if_neg (by omega)]
  unfold F_X12_aMachine_182 F_X12_aMachine_192 ck
  rw [e, e, if_pos (by omega)]
  rcases h3 with z | z
  · rw [z, if_neg (by omega), if_pos (by omega), if_pos (by omega)]
  · rw [z, if_pos (by omega)]
theorem mloop {L M T : Nat} (hM : M < 6) : ∀ (d f f' t : Nat) (x3 x4 : Int) (h g : MH), (x3 = 0 ∨ x3 = 1) → (x4 = 0 ∨ x4 = 1) → (t : Int) = x3 + x4 → t + d = 3 → d < f → d < f' → S0 L h g → g 142 1760 = (M : Int) → LI (M + 1) T h (hup g 142 1760 ((M + 1 : Nat) : Int)) → h 10 3 = x3 → h 10 4 = x4 →
    ∃ b h' g', F_X3_takeMachine_143 f (M : Int) (t : Int) h = some (b, h') ∧ ((F_X12_aMachine_145 f' ((1768 + 16 * M : Nat) : Int) x3 x4 (ix w19 0 (tWd h)) g).bind fun q => F_X12_part_59 q.1 q.2) = some (b, g') ∧ LN L h b h' g' ∧ HL h h' ∧ GL g g' ∧ (b = 0 ∨ b = 1) := by
  intro d
  induction d with
  | zero =>
    intro f f' t x3 x4 h g h3 h4 ht e
    omega
  | succ d ih =>
    intro f f' t x3 x4 h g h3 h4 ht e hf hf' s g0 p c3 c4
    obtain ⟨f, rfl⟩ : ∃ g, f = g + 1 := ⟨f - 1, by omega⟩
    obtain ⟨f', rfl⟩ : ∃ g, f' = g + 1 := ⟨f' - 1, by omega⟩
    obtain ⟨⟨p1, p2, p3⟩, ⟨q1, q2, q3⟩, r, s0, t0, u, v⟩ := id p
    obtain ⟨m1, m2, m3, m4, m5, m6⟩ := r M (by omega)
    have fl := t0 M rfl
    have G : ∀ k, k ≠ 1760 → hup g 142 1760 ((M + 1 : Nat) : Int) 142 k = g 142 k := fun k z => hup_n _ _ _ _ _ _ (by omega)
    rw [G _ (by omega)] at m1 m2 m3 m4 m5 m6
    unfold FL at fl
    rw [G _ (by omega)] at fl
    have ib := ix_b (tWd h) w19 0 (by omega)
    have il : w19.length = 8 := rfl
    rw [il] at ib
    by_cases wH : tWd h = zsB.getD 2 []
    · have k1 := wd1k s (by omega) wH
      rw [(w19_5 _).mpr wH]
      have c172 : F_X3_takeMachine_143 (f + 1) (M : Int) (t : Int) h = (F_X3_takeHeads (M : Int) h).bind fun q7 => ck (in32 q7.1) <| if q7.1 = 0 then some (0, q7.2) else F_X3_takeMachine_205 (F_X3_takeMachine_143 f) (M : Int) (t : Int) q7.2 := by
        rw [F_X3_takeMachine_143]
        unfold F_X3_takeMachine_172 ck
        rw [if_pos (by omega), if_neg (by omega), is_t s (by omega) wH, bind_eq]
        dsimp only
        rw [if_pos (by omega), if_pos (by omega), is_t s (by omega) wH, bind_eq]
        dsimp only
        rw [if_pos (by omega), if_neg (by omega)]
      by_cases y : x3 = 0
      · generalize eA : hup h 10 3 1 = hA
        have nA : ∀ c k, ¬ (c = 10 ∧ k = 3) → hA c k = h c k := fun c k z => by rw [← eA, hup_n _ _ _ _ _ _ z]
        obtain ⟨h1, g1, a1, a2, a3, a4, a5, a6, a7⟩ := adv (h := hA) (g := g) (s.f (fun c k z => nA _ _ (by omega)) (fun _ _ _ => rfl))
        obtain ⟨b, h2, g2, b1, b2, b3, b4, b5⟩ := num_l (x := 1768 + 16 * M + 1) (lo := 1) (hi := 24) a3 (by omega) (by omega) (by omega)
        have mo : F_X12_aMachine_145 (f' + 1) ((1768 + 16 * M : Nat) : Int) x3 x4 5 g = if b = 0 then some (0, g2) else F_X12_aMachine_286 (F_X12_aMachine_145 f') ((1768 + 16 * M : Nat) : Int) 1 x4 g2 := by
          rw [F_X12_aMachine_145]
          unfold F_X12_aMachine_158 ck
          rw [if_pos (by omega), if_pos rfl, if_pos (by omega), if_neg (by omega), if_pos (by omega), if_pos y, y, p182 h4]
          unfold F_X12_aMachine_215 F_X12_aMachine_242 ck
          have hb : b = 0 ∨ b = 1 := by rcases b3 with ⟨z, _⟩ | ⟨z, _⟩ <;> omega
          rw [a2, bind_eq, if_pos (by omega), if_neg (by omega), show ((1768 + 16 * M : Nat) : Int) + 1 = ((1768 + 16 * M + 1 : Nat) : Int) by omega, b2, bind_eq]
          dsimp only
          rw [if_pos (by omega)]
          by_cases w : b = 0
          · rw [if_neg (fun z => z w), if_pos w]
          · rw [if_pos w, if_pos (by omega), if_pos (by omega), if_neg w]
        have A83 : hA 8 3 = h 8 3 := nA _ _ (by omega)
        have k3 := a3.k.2.2.1
        rcases b3 with ⟨e1, e2, e3, e4, e5⟩ | ⟨e1, e2⟩
        · rw [e1, if_neg (by omega)] at mo
          generalize eC : hup h2 24 M (h2 8 8) = hC
          have nC : ∀ c k, ¬ (c = 24 ∧ k = M) → hC c k = h2 c k := fun c k z => by rw [← eC, hup_n _ _ _ _ _ _ z]
          have C24 : hC 24 M = h2 8 8 := by rw [← eC, hup_s]
          have sC : S0 L hC g2 := e2.f (fun c k z => nC _ _ (by omega)) (fun _ _ _ => rfl)
          have HN : ∀ c k, ¬ (c = 8 ∧ 3 ≤ k ∧ k ≤ 10) → ¬ (c = 10 ∧ k = 3) → ¬ (c = 24 ∧ k = M) → hC c k = h c k := fun c k w1 w2 w3 => by rw [nC _ _ w3, b4 _ _ w1, a6 _ _ w1, nA _ _ w2]
          have GN : ∀ c k, ¬ (c = 141 ∧ 11 ≤ k ∧ k ≤ 17) → ¬ (c = 142 ∧ k = 1768 + 16 * M + 1) → g2 c k = g c k := fun c k w1 w2 => by rw [b5 _ _ w1 w2, a7 _ _ w1]
          have G2 : ∀ k, k ≠ 1760 → hup g2 142 1760 ((M + 1 : Nat) : Int) 142 k = g2 142 k := fun k z => hup_n _ _ _ _ _ _ (by omega)
          have li : LI (M + 1) T hC (hup g2 142 1760 ((M + 1 : Nat) : Int)) := by
            refine LI_set (M0 := M + 1) p (by omega) (fun c k w1 w2 w3 w4 => HN c k (by omega) (by omega) (by omega)) (fun c k w1 w2 w3 w4 w5 => by rw [hup_n _ _ _ _ _ _ w4, hup_n _ _ _ _ _ _ w4]; exact GN c k (by omega) (by omega)) (by rw [HN _ _ (by omega) (by omega) (by omega)]; exact p1) (hup_s _ _ _ _) ?_ ?_
            · unfold MA
              rw [C24, G2 _ (by omega), G2 (1768 + 16 * M + 1) (by omega), G2 (1768 + 16 * M + 2) (by omega), G2 (1768 + 16 * M + 3) (by omega), G2 (1768 + 16 * M + 11) (by omega), G2 (1768 + 16 * M + 13) (by omega), e5, HN 13 M (by omega) (by omega) (by omega), HN 14 M (by omega) (by omega) (by omega), HN 15 M (by omega) (by omega) (by omega), HN 16 M (by omega) (by omega) (by omega), HN 23 M (by omega) (by omega) (by omega), GN _ _ (by omega) (by omega), GN 142 (1768 + 16 * M + 2) (by omega) (by omega), GN 142 (1768 + 16 * M + 3) (by omega) (by omega), GN 142 (1768 + 16 * M + 11) (by omega) (by omega), GN 142 (1768 + 16 * M + 13) (by omega) (by omega)]
              exact ⟨m1, ⟨e4.1, e4.2, rfl⟩, m3, m4, m5, m6⟩
            · unfold FL
              rw [G2 _ (by omega), HN 10 5 (by omega) (by omega) (by omega), GN _ _ (by omega) (by omega)]
              exact fl
          obtain ⟨b', h5, g5, f1, f2, f3, f4, f5, f6⟩ := ih f f' (t + 1) 1 x4 hC g2 (by omega) h4 (by omega) (by omega) (by omega) (by omega) sC (by rw [GN _ _ (by omega) (by omega)]; exact g0) li (by rw [nC _ _ (by omega), b4 _ _ (by omega), a6 _ _ (by omega), ← eA, hup_s]) (by rw [HN _ _ (by omega) (by omega) (by omega)]; exact c4)
          have C83 : hC 8 3 = h2 8 3 := nC _ _ (by omega)
          have k5 := e2.k.2.2.1
          refine ⟨b', h5, g5, ?_, ?_, ?_, fun c k w1 w2 w3 w4 w5 w6 => by rw [f4 _ _ w1 w2 w3 w4 w5 w6, HN _ _ w1 (by omega) (by omega)], fun c k w1 w2 w3 w4 => by rw [f5 _ _ w1 w2 w3 w4, GN _ _ w1 (by omega)], f6⟩
          · rw [c172]
            unfold F_X3_takeHeads F_X3_takeHeads_0 F_X3_takeMachine_205 ck
            rw [c3, y, if_pos (by omega), if_pos rfl, nx_eq, eA, a1, bind_eq, b1, e1, bind_eq]
            dsimp only
            rw [if_pos (by omega), if_pos (by omega), if_pos (by omega), nx_eq, show ((M : Int)).toNat = M by omega, eC, bind_eq]
            dsimp only
            rw [if_pos (by omega), if_neg (by omega), show (t : Int) + 1 = ((t + 1 : Nat) : Int) by omega, f1]
          · rw [mo]
            unfold F_X12_aMachine_286
            rw [iw19 sC, bind_eq]
            exact f2
          · rcases f3 with ⟨w1, w2, w3, w4⟩ | w
            · exact Or.inl ⟨w1, w2, w3, by omega⟩
            · exact Or.inr w
        · rw [e1, if_pos rfl] at mo
          refine ⟨0, h2, g2, ?_, fin0 mo, Or.inr ⟨rfl, e2⟩, fun c k w1 w2 w3 w4 w5 w6 => by rw [b4 _ _ w1, a6 _ _ w1, nA _ _ (by omega)], fun c k w1 w2 w3 w4 => by rw [b5 _ _ w1 (by omega), a7 _ _ w1], Or.inl rfl⟩
          rw [c172]
          unfold F_X3_takeHeads F_X3_takeHeads_0 ck
          rw [c3, y, if_pos (by omega), if_pos rfl, nx_eq, eA, a1, bind_eq, b1, e1, bind_eq]
          dsimp only
          rw [if_pos (by omega), if_neg (by omega), bind_eq]
          dsimp only
          rw [if_pos (by omega), if_pos rfl]
      · obtain ⟨h', g', a1, a2, a3, a4, a5⟩ := fl_w s (by omega) (c := 5) (by omega)
        refine ⟨0, h', g', ?_, fin0 ?_, Or.inr ⟨rfl, a3⟩, fun c k z1 _ _ _ _ _ => a4 c k z1, fun c k z1 _ _ _ => a5 c k z1, Or.inl rfl⟩
        · rw [c172]
          unfold F_X3_takeHeads F_X3_takeHeads_0 ck
          rw [c3, if_pos (by omega), if_neg y, a1, bind_eq]
          dsimp only
          rw [if_pos (by omega), bind_eq]
          dsimp only
          rw [if_pos (by omega), if_pos rfl]
        · rw [F_X12_aMachine_145]
          unfold F_X12_aMachine_158 F_X12_aMachine_176 ck
          rw [if_pos (by omega), if_pos rfl, if_pos (by omega), if_neg (by omega), if_pos (by omega), if_neg y, a2, bind_eq]
          dsimp only
          rw [if_pos (by omega)]
    · by_cases wS : tWd h = zsB.getD 3 []
      · have k1 := wd1k s (by omega) wS
        rw [(w19_6 _).mpr wS]
        have c172 : F_X3_takeMachine_143 (f + 1) (M : Int) (t : Int) h = (F_X3_takeStops (M : Int) h).bind fun q4 => ck (in32 q4.1) <| if q4.1 ≠ 0 then F_X3_takeMachine_205 (F_X3_takeMachine_143 f) (M : Int) (t : Int) q4.2 else some (0, q4.2) := by
          rw [F_X3_takeMachine_143]
          unfold F_X3_takeMachine_172 ck
          rw [if_pos (by omega), if_neg (by omega), is_f s (by omega) wH, bind_eq]
          dsimp only
          rw [if_pos (by omega), if_neg (by omega), is_t s (by omega) wS, bind_eq]
          dsimp only
          rw [if_pos (by omega), if_neg (by omega), is_f s (by omega) wH, bind_eq]
          dsimp only
          rw [if_pos (by omega), if_pos rfl]
        by_cases y : x4 = 0
        · generalize eA : hup h 10 4 1 = hA
          have nA : ∀ c k, ¬ (c = 10 ∧ k = 4) → hA c k = h c k := fun c k z => by rw [← eA, hup_n _ _ _ _ _ _ z]
          obtain ⟨h1, g1, a1, a2, a3, a4, a5, a6, a7⟩ := adv (h := hA) (g := g) (s.f (fun c k z => nA _ _ (by omega)) (fun _ _ _ => rfl))
          have A83 : hA 8 3 = h 8 3 := nA _ _ (by omega)
          have k3 := a3.k.2.2.1
          have m145 : F_X12_aMachine_145 (f' + 1) ((1768 + 16 * M : Nat) : Int) x3 x4 6 g = F_X12_aMachine_242 (F_X12_aMachine_145 f') ((1768 + 16 * M : Nat) : Int) x3 1 6 g1 := by
            rw [F_X12_aMachine_145]
            unfold F_X12_aMachine_158 ck
            rw [if_pos (by omega), if_neg (by omega), if_neg (by omega), if_pos (by omega), if_pos (by omega), if_pos (by omega), if_pos y, y, q182 h3]
            unfold F_X12_aMachine_215 ck
            rw [a2, bind_eq, if_pos (by omega), if_pos (by omega)]
          obtain ⟨b, h2, g2, b1, b2, b3, b4, b5⟩ := num_l (x := 1768 + 16 * M + 2) (lo := 0) (hi := 64) a3 (by omega) (by omega) (by omega)
          rcases b3 with ⟨e1, e2, e3, e4, e5⟩ | ⟨e1, e2⟩
          rotate_left
          · refine ⟨0, h2, g2, ?_, fin0 ?_, Or.inr ⟨rfl, e2⟩, fun c k w1 w2 w3 w4 w5 w6 => by rw [b4 _ _ w1, a6 _ _ w1, nA _ _ (by omega)], fun c k w1 w2 w3 w4 => by rw [b5 _ _ w1 (by omega), a7 _ _ w1], Or.inl rfl⟩
            · rw [c172]
              unfold F_X3_takeStops F_X3_takeStops_0 ck
              rw [c4, y, if_pos (by omega), if_pos rfl, nx_eq, eA, a1, bind_eq, b1, e1, bind_eq]
              dsimp only
              rw [if_pos (by omega), if_neg (by omega), bind_eq]
              dsimp only
              rw [if_pos (by omega), if_neg (by omega)]
            · rw [m145]
              unfold F_X12_aMachine_242 ck
              rw [if_pos (by omega), if_neg (by omega), show ((1768 + 16 * M : Nat) : Int) + 2 = ((1768 + 16 * M + 2 : Nat) : Int) by omega, b2, e1, bind_eq]
              dsimp only
              rw [if_pos (by omega), if_pos rfl]
          generalize eC : hup h2 14 M (h2 8 8) = hC
          have nC : ∀ c k, ¬ (c = 14 ∧ k = M) → hC c k = h2 c k := fun c k z => by rw [← eC, hup_n _ _ _ _ _ _ z]
          have C14 : hC 14 M = h2 8 8 := by rw [← eC, hup_s]
          have C83 : hC 8 3 = h2 8 3 := nC _ _ (by omega)
          have k5 := e2.k.2.2.1
          obtain ⟨b', h3', g3', f1, f2, f3, f4, f5⟩ := word_l (x := 4) (j := 7) (h := hC) (g := g2) (e2.f (fun c k z => nC _ _ (by omega)) (fun _ _ _ => rfl)) (by omega) (by omega) w19_7
          rcases f3 with ⟨l1, l2, l3⟩ | ⟨l1, l2⟩
          rotate_left
          · refine ⟨0, h3', g3', ?_, fin0 ?_, Or.inr ⟨rfl, l2⟩, fun c k w1 w2 w3 w4 w5 w6 => by rw [f4 _ _ w1, nC _ _ (by omega), b4 _ _ w1, a6 _ _ w1, nA _ _ (by omega)], fun c k w1 w2 w3 w4 => by rw [f5 _ _ w1, b5 _ _ w1 (by omega), a7 _ _ w1], Or.inl rfl⟩
            · rw [c172]
              unfold F_X3_takeStops F_X3_takeStops_0 ck
              rw [c4, y, if_pos (by omega), if_pos rfl, nx_eq, eA, a1, bind_eq, b1, e1, bind_eq]
              dsimp only
              rw [if_pos (by omega), if_pos (by omega), if_pos (by omega), nx_eq, show ((M : Int)).toNat = M by omega, eC, f1, l1, bind_eq]
              dsimp only
              rw [if_pos (by omega), if_pos rfl, bind_eq]
              dsimp only
              rw [if_pos (by omega), if_neg (by omega)]
            · rw [m145]
              unfold F_X12_aMachine_242 ck
              rw [if_pos (by omega), if_neg (by omega), show ((1768 + 16 * M : Nat) : Int) + 2 = ((1768 + 16 * M + 2 : Nat) : Int) by omega, b2, e1, bind_eq]
              dsimp only
              rw [if_pos (by omega), if_neg (by omega), f2, l1, bind_eq]
              dsimp only
              rw [if_pos (by omega), if_pos rfl]
          have k6 := l2.k.2.2.1
          obtain ⟨b'', h4', g4', n1, n2, n3, n4, n5⟩ := num_l (x := 1768 + 16 * M + 3) (lo := 1) (hi := 99) l2 (by omega) (by omega) (by omega)
          rcases n3 with ⟨u1, u2, u3, u4, u5⟩ | ⟨u1, u2⟩
          rotate_left
          · refine ⟨0, h4', g4', ?_, fin0 ?_, Or.inr ⟨rfl, u2⟩, fun c k w1 w2 w3 w4 w5 w6 => by rw [n4 _ _ w1, f4 _ _ w1, nC _ _ (by omega), b4 _ _ w1, a6 _ _ w1, nA _ _ (by omega)], fun c k w1 w2 w3 w4 => by rw [n5 _ _ w1 (by omega), f5 _ _ w1, b5 _ _ w1 (by omega), a7 _ _ w1], Or.inl rfl⟩
            · rw [c172]
              unfold F_X3_takeStops F_X3_takeStops_0 ck
              rw [c4, y, if_pos (by omega), if_pos rfl, nx_eq, eA, a1, bind_eq, b1, e1, bind_eq]
              dsimp only
              rw [if_pos (by omega), if_pos (by omega), if_pos (by omega), nx_eq, show ((M : Int)).toNat = M by omega, eC, f1, l1, bind_eq]
              dsimp only
              rw [if_pos (by omega), if_neg (by omega), n1, u1, bind_eq]
              dsimp only
              rw [if_pos (by omega), if_neg (by omega), bind_eq]
              dsimp only
              rw [if_pos (by omega), if_neg (by omega)]
            · rw [m145]
              unfold F_X12_aMachine_242 ck
              rw [if_pos (by omega), if_neg (by omega), show ((1768 + 16 * M : Nat) : Int) + 2 = ((1768 + 16 * M + 2 : Nat) : Int) by omega, b2, e1, bind_eq]
              dsimp only
              rw [if_pos (by omega), if_neg (by omega), f2, l1, bind_eq]
              dsimp only
              rw [if_pos (by omega), if_neg (by omega), show ((1768 + 16 * M : Nat) : Int) + 3 = ((1768 + 16 * M + 3 : Nat) : Int) by omega, n2, u1, bind_eq]
              dsimp only
              rw [if_pos (by omega), if_neg (by omega)]
          generalize eD : hup h4' 15 M (h4' 8 8) = hD
          have nD : ∀ c k, ¬ (c = 15 ∧ k = M) → hD c k = h4' c k := fun c k z => by rw [← eD, hup_n _ _ _ _ _ _ z]
          have D15 : hD 15 M = h4' 8 8 := by rw [← eD, hup_s]
          have D14 : hD 14 M = h2 8 8 := by rw [nD _ _ (by omega), n4 _ _ (by omega), f4 _ _ (by omega), C14]
          have sD : S0 L hD g4' := u2.f (fun c k z => nD _ _ (by omega)) (fun _ _ _ => rfl)
          have HN : ∀ c k, ¬ (c = 8 ∧ 3 ≤ k ∧ k ≤ 10) → ¬ (c = 10 ∧ k = 4) → ¬ ((c = 14 ∨ c = 15) ∧ k = M) → hD c k = h c k := fun c k w1 w2 w3 => by rw [nD _ _ (by omega), n4 _ _ w1, f4 _ _ w1, nC _ _ (by omega), b4 _ _ w1, a6 _ _ w1, nA _ _ w2]
          have GN : ∀ c k, ¬ (c = 141 ∧ 11 ≤ k ∧ k ≤ 17) → ¬ (c = 142 ∧ (k = 1768 + 16 * M + 2 ∨ k = 1768 + 16 * M + 3)) → g4' c k = g c k := fun c k w1 w2 => by rw [n5 _ _ w1 (by omega), f5 _ _ w1, b5 _ _ w1 (by omega), a7 _ _ w1]
          have G42 : g4' 142 (1768 + 16 * M + 2) = h2 8 8 := by rw [n5 _ _ (by omega) (by omega), f5 _ _ (by omega), e5]
          have G2 : ∀ k, k ≠ 1760 → hup g4' 142 1760 ((M + 1 : Nat) : Int) 142 k = g4' 142 k := fun k z => hup_n _ _ _ _ _ _ (by omega)
          have li : LI (M + 1) T hD (hup g4' 142 1760 ((M + 1 : Nat) : Int)) := by
            refine LI_set (M0 := M + 1) p (by omega) (fun c k w1 w2 w3 w4 => HN c k (by omega) (by omega) (by omega)) (fun c k w1 w2 w3 w4 w5 => by rw [hup_n _ _ _ _ _ _ w4, hup_n _ _ _ _ _ _ w4]; exact GN c k (by omega) (by omega)) (by rw [HN _ _ (by omega) (by omega) (by omega)]; exact p1) (hup_s _ _ _ _) ?_ ?_
            · unfold MA
              rw [D15, D14, G2 _ (by omega), G2 (1768 + 16 * M + 1) (by omega), G2 (1768 + 16 * M + 2) (by omega), G2 (1768 + 16 * M + 3) (by omega), G2 (1768 + 16 * M + 11) (by omega), G2 (1768 + 16 * M + 13) (by omega), G42, u5, HN 13 M (by omega) (by omega) (by omega), HN 24 M (by omega) (by omega) (by omega), HN 16 M (by omega) (by omega) (by omega), HN 23 M (by omega) (by omega) (by omega), GN _ _ (by omega) (by omega), GN 142 (1768 + 16 * M + 1) (by omega) (by omega), GN 142 (1768 + 16 * M + 11) (by omega) (by omega), GN 142 (1768 + 16 * M + 13) (by omega) (by omega)]
              exact ⟨m1, m2, ⟨e4.1, e4.2, rfl⟩, ⟨by omega, u4.2, rfl, fun _ => u4.1⟩, m5, m6⟩
            · unfold FL
              rw [G2 _ (by omega), HN 10 5 (by omega) (by omega) (by omega), GN _ _ (by omega) (by omega)]
              exact fl
          obtain ⟨bz, h5, g5, z1, z2, z3, z4, z5, z6⟩ := ih f f' (t + 1) x3 1 hD g4' h3 (by omega) (by omega) (by omega) (by omega) (by omega) sD (by rw [GN _ _ (by omega) (by omega)]; exact g0) li (by rw [HN _ _ (by omega) (by omega) (by omega)]; exact c3) (by rw [nD _ _ (by omega), n4 _ _ (by omega), f4 _ _ (by omega), nC _ _ (by omega), b4 _ _ (by omega), a6 _ _ (by omega), ← eA, hup_s])
          have D83 : hD 8 3 = h4' 8 3 := nD _ _ (by omega)
          have k7 := u2.k.2.2.1
          refine ⟨bz, h5, g5, ?_, ?_, ?_, fun c k w1 w2 w3 w4 w5 w6 => by rw [z4 _ _ w1 w2 w3 w4 w5 w6, HN _ _ w1 (by omega) (by omega)], fun c k w1 w2 w3 w4 => by rw [z5 _ _ w1 w2 w3 w4, GN _ _ w1 (by omega)], z6⟩
          · rw [c172]
            unfold F_X3_takeStops F_X3_takeStops_0 F_X3_takeMachine_205 ck
            rw [c4, y, if_pos (by omega), if_pos rfl, nx_eq, eA, a1, bind_eq, b1, e1, bind_eq]
            dsimp only
            rw [if_pos (by omega), if_pos (by omega), if_pos (by omega), nx_eq, show ((M : Int)).toNat = M by omega, eC, f1, l1, bind_eq]
            dsimp only
            rw [if_pos (by omega), if_neg (by omega), n1, u1, bind_eq]
            dsimp only
            rw [if_pos (by omega), if_pos (by omega), nx_eq, eD, bind_eq]
            dsimp only
            rw [if_pos (by omega), if_pos (by omega), show (t : Int) + 1 = ((t + 1 : Nat) : Int) by omega, z1]
          · rw [m145]
            unfold F_X12_aMachine_242 F_X12_aMachine_286 ck
            rw [if_pos (by omega), if_neg (by omega), show ((1768 + 16 * M : Nat) : Int) + 2 = ((1768 + 16 * M + 2 : Nat) : Int) by omega, b2, e1, bind_eq]
            dsimp only
            rw [if_pos (by omega), if_neg (by omega), f2, l1, bind_eq]
            dsimp only
            rw [if_pos (by omega), if_neg (by omega), show ((1768 + 16 * M : Nat) : Int) + 3 = ((1768 + 16 * M + 3 : Nat) : Int) by omega, n2, u1, bind_eq]
            dsimp only
            rw [if_pos (by omega), if_pos (by omega), iw19 sD, bind_eq]
            exact z2
          · rcases z3 with ⟨w1, w2, w3, w4⟩ | w
            · exact Or.inl ⟨w1, w2, w3, by omega⟩
            · exact Or.inr w
        · obtain ⟨h', g', a1, a2, a3, a4, a5⟩ := fl_w s (by omega) (c := 5) (by omega)
          refine ⟨0, h', g', ?_, fin0 ?_, Or.inr ⟨rfl, a3⟩, fun c k z1 _ _ _ _ _ => a4 c k z1, fun c k z1 _ _ _ => a5 c k z1, Or.inl rfl⟩
          · rw [c172]
            unfold F_X3_takeStops F_X3_takeStops_0 ck
            rw [c4, if_pos (by omega), if_neg y, a1, bind_eq]
            dsimp only
            rw [if_pos (by omega), bind_eq]
            dsimp only
            rw [if_pos (by omega), if_neg (by omega)]
          · rw [F_X12_aMachine_145]
            unfold F_X12_aMachine_158 F_X12_aMachine_176 ck
            rw [if_pos (by omega), if_neg (by omega), if_neg (by omega), if_pos (by omega), if_pos (by omega), if_pos (by omega), if_neg y, a2, bind_eq]
            dsimp only
            rw [if_pos (by omega)]
      · have n5 : ix w19 0 (tWd h) ≠ 5 := fun z => wH ((w19_5 _).mp z)
        have n6 : ix w19 0 (tWd h) ≠ 6 := fun z => wS ((w19_6 _).mp z)
        obtain ⟨gB, eB⟩ : ∃ x, x = hup g 142 1760 ((M + 1 : Nat) : Int) := ⟨_, rfl⟩
        rw [← eB] at p
        have nB : ∀ c k, ¬ (c = 142 ∧ k = 1760) → gB c k = g c k := fun c k z => by rw [eB, hup_n _ _ _ _ _ _ z]
        obtain ⟨b, h', g', f1, f2, f3, f4, f5, f6⟩ := tail_l (h := h) (g := gB) (s.f (fun _ _ _ => rfl) (fun c k z => nB _ _ (by omega))) p
        refine ⟨b, h', g', ?_, fin1 (g2 := gB) ?_ f2, f3, fun c k z1 _ _ _ _ _ => f4 c k z1, fun c k z1 z2 _ _ => by rw [f5 c k z1, nB _ _ (by omega)], f6⟩
        · rw [F_X3_takeMachine_143]
          unfold F_X3_takeMachine_211 ck
          rw [if_pos (by omega), if_neg (by omega), is_f s (by omega) wH, bind_eq]
          dsimp only
          rw [if_pos (by omega), if_neg (by omega), is_f s (by omega) wS, bind_eq]
          dsimp only
          rw [if_pos (by omega), if_pos rfl, f1, bind_eq]
          dsimp only
          rw [if_pos f6]
        · rw [F_X12_aMachine_145]
          unfold ck
          rw [if_pos (by omega), if_neg n5, if_pos n6, nx_eq, g0, show (M : Int) + 1 = ((M + 1 : Nat) : Int) by omega, ← eB]
theorem mach_l {L M T : Nat} {h g : MH} (s : S0 L h g) (p : LI M T h g) (k1 : h 8 4 = 1) :
    ∃ b h' g', F_X3_takeMachine h = some (b, h') ∧ ((F_X12_aMachine g).bind fun q => F_X12_part_59 q.1 q.2) = some (b, g') ∧ LN L h b h' g' ∧ HL h h' ∧ GL g g' ∧ (b = 0 ∨ b = 1) := by
  obtain ⟨⟨p1, p2, p3⟩, ⟨q1, q2, q3⟩, r, s0, t0, u, v⟩ := id p
  by_cases z : M = 6
  · obtain ⟨h', g', a1, a2, a3, a4, a5⟩ := fl_w s (by omega) (c := 6) (by omega)
    refine ⟨0, h', g', ?_, fin0 ?_, Or.inr ⟨rfl, a3⟩, fun c k z1 _ _ _ _ _ => a4 c k z1, fun c k z1 _ _ _ => a5 c k z1, Or.inl rfl⟩
    · unfold F_X3_takeMachine F_X3_takeMachine_0 ck
      rw [nx_eq, p1, if_pos (by omega), if_neg (by omega), a1, bind_eq]
      dsimp only
      rw [if_pos (by omega)]
    · unfold F_X12_aMachine F_X12_aMachine_0 ck
      rw [nx_eq, p2, if_pos (by omega), if_neg (by omega), a2, bind_eq]
      dsimp only
      rw [if_pos (by omega)]
  have hM : M < 6 := by omega
  obtain ⟨h1, g1, b1, b2, b3, b4, b5, b6, b7⟩ := adv s
  obtain ⟨b, n1, n2, n3⟩ := isn_l b3
  rcases n3 with ⟨e, ok⟩ | ⟨e, no⟩
  rotate_left
  · obtain ⟨h', g', a1, a2, a3, a4, a5⟩ := fl_m b3
    refine ⟨0, h', g', ?_, fin0 ?_, Or.inr ⟨rfl, a3⟩, fun c k z1 _ _ _ _ _ => by rw [a4 c k z1, b6 c k z1], fun c k z1 _ _ _ => by rw [a5 c k z1, b7 c k z1], Or.inl rfl⟩
    · unfold F_X3_takeMachine F_X3_takeMachine_0 ck
      rw [nx_eq, p1, if_pos (by omega), if_pos (by omega), b1, bind_eq, n1, e, bind_eq]
      dsimp only
      rw [if_pos (by omega), if_neg (by omega), a1, bind_eq]
      dsimp only
      rw [if_pos (by omega)]
    · unfold F_X12_aMachine F_X12_aMachine_0 ck
      rw [nx_eq, p2, if_pos (by omega), if_pos (by omega), b2, bind_eq, n2, e, bind_eq]
      dsimp only
      rw [if_pos (by omega), if_neg (by omega), a2, bind_eq]
      dsimp only
      rw [if_pos (by omega)]
  obtain ⟨y, y1, y2⟩ := nh_g b3 ok
  have P1 : h1 12 0 = (M : Int) := by rw [b6 _ _ (by omega)]; exact p1
  have P2 : g1 142 1760 = (M : Int) := by rw [b7 _ _ (by omega)]; exact p2
  obtain ⟨k, k2, k3, k4⟩ := named_p (x := h1 8 6) (y := y) (M := M) (h := h1) (g := g1) ⟨P1, p3⟩ (fun m hm => by rw [b6 _ _ (by omega), b7 _ _ (by omega)]; exact (r m hm).2.2.2.2.2) P2 y2 M 20000 20000 0 (by omega) (by omega) (by omega)
  rw [show ((0 : Nat) : Int) = 0 from rfl] at k2 k3
  have kc : F_X5_machineNamed 11 (h1 8 6) h1 = some (k, h1) := k2
  have km : F_X12_machineNamed 1760 y g1 = some (k, g1) := k3
  by_cases w : k = -1
  rotate_left
  · obtain ⟨h', g', a1, a2, a3, a4, a5⟩ := fl_w b3 (by have := ok.1; omega) (c := 3) (by omega)
    refine ⟨0, h', g', ?_, fin0 ?_, Or.inr ⟨rfl, a3⟩, fun c k z1 _ _ _ _ _ => by rw [a4 c k z1, b6 c k z1], fun c k z1 _ _ _ => by rw [a5 c k z1, b7 c k z1], Or.inl rfl⟩
    · unfold F_X3_takeMachine F_X3_takeMachine_0 ck
      rw [nx_eq, p1, if_pos (by omega), if_pos (by omega), b1, bind_eq, n1, e, bind_eq]
      dsimp only
      rw [if_pos (by omega), if_pos (by omega), kc, bind_eq]
      dsimp only
      rw [if_pos (by omega), if_neg w, a1, bind_eq]
      dsimp only
      rw [if_pos (by omega)]
    · unfold F_X12_aMachine F_X12_aMachine_0 ck
      rw [nx_eq, p2, if_pos (by omega), if_pos (by omega), b2, bind_eq, n2, e, bind_eq]
      dsimp only
      rw [if_pos (by omega), if_pos (by omega), y1, bind_eq]
      dsimp only
      rw [km, bind_eq]
      dsimp only
      rw [if_pos (by omega), if_neg w, a2, bind_eq]
      dsimp only
      rw [if_pos (by omega)]
  generalize eA : hup (hup (hup (hup (hup (hup (hup (hup (hup h1 23 M (h1 8 6)) 24 M 1) 14 M 0) 15 M 0) 16 M 20) 12 0 ((M : Int) + 1)) 10 3 0) 10 4 0) 10 5 0 = hA
  have nA : ∀ c k, ¬ ((c = 23 ∨ c = 24 ∨ c = 14 ∨ c = 15 ∨ c = 16) ∧ k = M) → ¬ (c = 12 ∧ k = 0) → ¬ (c = 10 ∧ 3 ≤ k ∧ k ≤ 5) → hA c k = h1 c k := fun c k w1 w2 w3 => by
    rw [← eA, hup_n _ _ _ _ _ _ (by omega), hup_n _ _ _ _ _ _ (by omega), hup_n _ _ _ _ _ _ (by omega), hup_n _ _ _ _ _ _ (by omega), hup_n _ _ _ _ _ _ (by omega), hup_n _ _ _ _ _ _ (by omega), hup_n _ _ _ _ _ _ (by omega), hup_n _ _ _ _ _ _ (by omega), hup_n _ _ _ _ _ _ (by omega)]
  have A23 : hA 23 M = h1 8 6 := by rw [← eA]; simp (disch := omega) only [hup_n, hup_s]
  have A24 : hA 24 M = 1 := by rw [← eA]; simp (disch := omega) only [hup_n, hup_s]
  have A14 : hA 14 M = 0 := by rw [← eA]; simp (disch := omega) only [hup_n, hup_s]
  have A15 : hA 15 M = 0 := by rw [← eA]; simp (disch := omega) only [hup_n, hup_s]
  have A16 : hA 16 M = 20 := by rw [← eA]; simp (disch := omega) only [hup_n, hup_s]
  have A12 : hA 12 0 = (M : Int) + 1 := by rw [← eA]; simp (disch := omega) only [hup_n, hup_s]
  have A3 : hA 10 3 = 0 := by rw [← eA]; simp (disch := omega) only [hup_n, hup_s]
  have A4 : hA 10 4 = 0 := by rw [← eA]; simp (disch := omega) only [hup_n, hup_s]
  have A5 : hA 10 5 = 0 := by rw [← eA, hup_s]
  generalize eB : hup (hup (hup g1 142 (1768 + 16 * M + 13) y) 142 (1768 + 16 * M + 1) 1) 142 (1768 + 16 * M + 11) 20 = gA
  have nB : ∀ c k, ¬ (c = 142 ∧ (k = 1768 + 16 * M + 13 ∨ k = 1768 + 16 * M + 1 ∨ k = 1768 + 16 * M + 11)) → gA c k = g1 c k := fun c k w1 => by rw [← eB, hup_n _ _ _ _ _ _ (by omega), hup_n _ _ _ _ _ _ (by omega), hup_n _ _ _ _ _ _ (by omega)]
  have B13 : gA 142 (1768 + 16 * M + 13) = y := by rw [← eB, hup_n _ _ _ _ _ _ (by omega), hup_n _ _ _ _ _ _ (by omega), hup_s]
  have B1 : gA 142 (1768 + 16 * M + 1) = 1 := by rw [← eB, hup_n _ _ _ _ _ _ (by omega), hup_s]
  have B11 : gA 142 (1768 + 16 * M + 11) = 20 := by rw [← eB, hup_s]
  obtain ⟨h2, g2, c1, c2, c3, c4, c5, c6, c7⟩ := adv (h := hA) (g := gA) (b3.f (fun c k w => nA _ _ (by omega) (by omega) (by omega)) (fun c k w => nB _ _ (by omega)))
  have A83 : hA 8 3 = h1 8 3 := nA _ _ (by omega) (by omega) (by omega)
  have ex : (1760 : Int) + 8 + 16 * (M : Int) = ((1768 + 16 * M : Nat) : Int) := by omega
  have et13 : (((1768 + 16 * M : Nat) : Int) + 13).toNat = 1768 + 16 * M + 13 := by omega
  have et1 : (((1768 + 16 * M : Nat) : Int) + 1).toNat = 1768 + 16 * M + 1 := by omega
  have et11 : (((1768 + 16 * M : Nat) : Int) + 11).toNat = 1768 + 16 * M + 11 := by omega
  have cm : F_X3_takeMachine h = (F_X8_takeWord 1 h2).bind fun q13 => ck (in32 q13.1) <| if q13.1 = 0 then some (0, q13.2) else (F_X8_takeNumber 1 99 q13.2).bind fun q16 => ck (in32 q16.1) <| if q16.1 ≠ 0 then ck (0 ≤ (M : Int) ∧ (M : Int) < 6) <| nx (hup q16.2 13 ((M : Int)).toNat (q16.2 8 8)) fun h20 => F_X3_takeMachine_143 20000 (M : Int) 0 h20 else some (0, q16.2) := by
    unfold F_X3_takeMachine F_X3_takeMachine_0 F_X3_addMachine F_X3_addMachine_0 ck
    rw [nx_eq, p1, if_pos (by omega), if_pos (by omega), b1, bind_eq, n1, e, bind_eq]
    dsimp only
    rw [if_pos (by omega), if_pos (by omega), kc, w, bind_eq]
    dsimp only
    rw [if_pos (by omega), if_pos rfl, if_pos (by omega), nx_eq, nx_eq, nx_eq, nx_eq, nx_eq, nx_eq, nx_eq, nx_eq, nx_eq, bind_eq, show ((M : Int)).toNat = M by omega, eA, c1, bind_eq]
  have mm : F_X12_aMachine g = (F_X12_wantWord 4 g2).bind fun q21 => ck (in32 q21.1) <| if q21.1 = 0 then some (0, q21.2) else (F_X12_number (((1768 + 16 * M : Nat) : Int) + 0) 1 99 q21.2).bind fun q24 => ck (in32 q24.1) <| if q24.1 ≠ 0 then (F_X12_inWords 19 q24.2).bind fun q27 => F_X12_aMachine_145 20000 ((1768 + 16 * M : Nat) : Int) 0 0 q27.1 q27.2 else some (0, q24.2) := by
    unfold F_X12_aMachine F_X12_aMachine_0 F_X12_machineAt F_X12_machineAt_0 ck
    rw [nx_eq, p2, if_pos (by omega), if_pos (by omega), b2, bind_eq, n2, e, bind_eq]
    dsimp only
    rw [if_pos (by omega), if_pos (by omega), y1, bind_eq]
    dsimp only
    rw [km, w, bind_eq]
    dsimp only
    rw [if_pos (by omega), if_pos rfl, bind_eq]
    dsimp only
    rw [y1, bind_eq, ex]
    dsimp only
    rw [if_pos (by omega), nx_eq, if_pos (by omega), nx_eq, if_pos (by omega), nx_eq, et13, et1, et11, eB, c2, bind_eq]
  obtain ⟨bw, h3, g3, d1, d2, d3, d4, d5⟩ := word_l (x := 1) (j := 4) c3 (by omega) (by omega) w19_4
  have k5 := b3.k.2.2.1
  have k6 := c3.k.2.2.1
  rcases d3 with ⟨e1, e2, e3⟩ | ⟨e1, e2⟩
  rotate_left
  · refine ⟨0, h3, g3, ?_, fin0 ?_, Or.inr ⟨rfl, e2⟩, fun c k w1 w2 w3 w4 w5 w6 => by rw [d4 _ _ w1, c6 _ _ w1, nA _ _ (by omega) (by omega) (by omega), b6 _ _ w1], fun c k w1 w2 w3 w4 => by rw [d5 _ _ w1, c7 _ _ w1, nB _ _ (by omega), b7 _ _ w1], Or.inl rfl⟩
    · rw [cm, d1, e1, bind_eq]
      unfold ck
      dsimp only
      rw [if_pos (by omega), if_pos rfl]
    · rw [mm, d2, e1, bind_eq]
      unfold ck
      dsimp only
      rw [if_pos (by omega), if_pos rfl]
  have k7 := e2.k.2.2.1
  obtain ⟨bn, h4, g4, l1, l2, l3, l4, l5⟩ := num_l (x := 1768 + 16 * M) (lo := 1) (hi := 99) e2 (by omega) (by omega) (by omega)
  have HN4 : ∀ c k, ¬ (c = 8 ∧ 3 ≤ k ∧ k ≤ 10) → h4 c k = hA c k := fun c k w1 => by rw [l4 _ _ w1, d4 _ _ w1, c6 _ _ w1]
  have GN4 : ∀ c k, ¬ (c = 141 ∧ 11 ≤ k ∧ k ≤ 17) → ¬ (c = 142 ∧ k = 1768 + 16 * M) → g4 c k = gA c k := fun c k w1 w2 => by rw [l5 _ _ w1 w2, d5 _ _ w1, c7 _ _ w1]
  rcases l3 with ⟨f1, f2, f3, f4, f5⟩ | ⟨f1, f2⟩
  rotate_left
  · refine ⟨0, h4, g4, ?_, fin0 ?_, Or.inr ⟨rfl, f2⟩, fun c k w1 w2 w3 w4 w5 w6 => by rw [HN4 _ _ w1, nA _ _ (by omega) (by omega) (by omega), b6 _ _ w1], fun c k w1 w2 w3 w4 => by rw [GN4 _ _ w1 (by omega), nB _ _ (by omega), b7 _ _ w1], Or.inl rfl⟩
    · rw [cm, d1, e1, bind_eq]
      unfold ck
      dsimp only
      rw [if_pos (by omega), if_neg (by omega), l1, f1, bind_eq]
      dsimp only
      rw [if_pos (by omega), if_neg (by omega)]
    · rw [mm, d2, e1, bind_eq]
      unfold ck
      dsimp only
      rw [if_pos (by omega), if_neg (by omega), show ((1768 + 16 * M : Nat) : Int) + 0 = ((1768 + 16 * M : Nat) : Int) by omega, l2, f1, bind_eq]
      dsimp only
      rw [if_pos (by omega), if_neg (by omega)]
  generalize eC : hup h4 13 M (h4 8 8) = hC
  have nC : ∀ c k, ¬ (c = 13 ∧ k = M) → hC c k = h4 c k := fun c k w => by rw [← eC, hup_n _ _ _ _ _ _ w]
  have C13 : hC 13 M = h4 8 8 := by rw [← eC, hup_s]
  have sC : S0 L hC g4 := f2.f (fun c k w => nC _ _ (by omega)) (fun _ _ _ => rfl)
  have G2 : ∀ k, k ≠ 1760 → hup g4 142 1760 ((M + 1 : Nat) : Int) 142 k = g4 142 k := fun k z => hup_n _ _ _ _ _ _ (by omega)
  have g40 : ∀ d, d < 16 → d ≠ 0 → d ≠ 1 → d ≠ 11 → d ≠ 13 → g4 142 (1768 + 16 * M + d) = 0 := fun d hd d0 d1 d11 d13 => by
    rw [GN4 _ _ (by omega) (by omega), nB _ _ (by omega), b7 _ _ (by omega)]
    exact s0 M d (by omega) hM hd
  have li : LI (M + 1) T hC (hup g4 142 1760 ((M + 1 : Nat) : Int)) := by
    refine LI_set (M0 := M) p (by omega) (fun c k w1 w2 w3 w4 => by rw [nC _ _ (by omega), HN4 _ _ (by omega), nA _ _ (by omega) (by omega) (by omega), b6 _ _ (by omega)]) (fun c k w1 w2 w3 w4 w5 => by rw [hup_n _ _ _ _ _ _ w4, GN4 _ _ (by omega) (by omega), nB _ _ (by omega), b7 _ _ (by omega)]) (by rw [nC _ _ (by omega), HN4 _ _ (by omega), A12] <;> omega) (hup_s _ _ _ _) ?_ ?_
    · unfold MA
      rw [C13, nC 24 M (by omega), nC 14 M (by omega), nC 15 M (by omega), nC 16 M (by omega), nC 23 M (by omega), HN4 24 M (by omega), HN4 14 M (by omega), HN4 15 M (by omega), HN4 16 M (by omega), HN4 23 M (by omega), A24, A14, A15, A16, A23, G2 _ (by omega), G2 (1768 + 16 * M + 1) (by omega), G2 (1768 + 16 * M + 2) (by omega), G2 (1768 + 16 * M + 3) (by omega), G2 (1768 + 16 * M + 11) (by omega), G2 (1768 + 16 * M + 13) (by omega), f5, GN4 142 (1768 + 16 * M + 1) (by omega) (by omega), GN4 142 (1768 + 16 * M + 11) (by omega) (by omega), GN4 142 (1768 + 16 * M + 13) (by omega) (by omega), B1, B11, B13, g40 2 (by omega) (by omega) (by omega) (by omega) (by omega), g40 3 (by omega) (by omega) (by omega) (by omega) (by omega)]
      exact ⟨⟨f4.1, f4.2, rfl⟩, ⟨by omega, by omega, rfl⟩, ⟨by omega, by omega, rfl⟩, ⟨by omega, by omega, rfl, by omega⟩, ⟨by omega, by omega, rfl⟩, y2⟩
    · unfold FL
      rw [G2 _ (by omega), g40 14 (by omega) (by omega) (by omega) (by omega) (by omega), nC _ _ (by omega), HN4 _ _ (by omega), A5]
      exact ⟨Or.inl rfl, rfl⟩
  obtain ⟨bz, h5, g5, z1, z2, z3, z4, z5, z6⟩ := mloop (L := L) (T := T) hM 3 20000 20000 0 0 0 hC g4 (by omega) (by omega) (by omega) (by omega) (by omega) (by omega) sC (by rw [GN4 _ _ (by omega) (by omega), nB _ _ (by omega)]; exact P2) li (by rw [nC _ _ (by omega), HN4 _ _ (by omega)]; exact A3) (by rw [nC _ _ (by omega), HN4 _ _ (by omega)]; exact A4)
  rw [show ((0 : Nat) : Int) = 0 from rfl] at z1
  have C83 : hC 8 3 = h4 8 3 := nC _ _ (by omega)
  have k8 := f2.k.2.2.1
  refine ⟨bz, h5, g5, ?_, ?_, ?_, fun c k w1 w2 w3 w4 w5 w6 => by rw [z4 _ _ w1 w2 w3 w4 w5 w6, nC _ _ (by omega), HN4 _ _ w1, nA _ _ (by omega) (by omega) (by omega), b6 _ _ w1], fun c k w1 w2 w3 w4 => by rw [z5 _ _ w1 w2 w3 w4, GN4 _ _ w1 (by omega), nB _ _ (by omega), b7 _ _ w1], z6⟩
  · rw [cm, d1, e1, bind_eq]
    unfold ck
    dsimp only
    rw [if_pos (by omega), if_neg (by omega), l1, f1, bind_eq]
    dsimp only
    rw [if_pos (by omega), if_pos (by omega), if_pos (by omega), nx_eq, show ((M : Int)).toNat = M by omega, eC, z1]
  · rw [mm, d2, e1, bind_eq]
    unfold ck
    dsimp only
    rw [if_pos (by omega), if_neg (by omega), show ((1768 + 16 * M : Nat) : Int) + 0 = ((1768 + 16 * M : Nat) : Int) by omega, l2, f1, bind_eq]
    dsimp only
    rw [if_pos (by omega), if_pos (by omega), iw19 sC, bind_eq]
    exact z2
  · rcases z3 with ⟨w1, w2, w3, w4⟩ | w
    · exact Or.inl ⟨w1, w2, w3, by omega⟩
    · exact Or.inr w
