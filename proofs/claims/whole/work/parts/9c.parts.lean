/-! ===== a table, a sort, a washing are read, on both sides ===== -/
def HL (h h' : MH) : Prop := ∀ c k, ¬ (c = 8 ∧ 3 ≤ k ∧ k ≤ 10) → c ≠ 10 → ¬ (c = 11 ∧ k = 4) → ¬ (c = 12 ∧ k = 0) → ¬ (13 ≤ c ∧ c ≤ 16) → ¬ (23 ≤ c ∧ c ≤ 26) → h' c k = h c k
def GL (g g' : MH) : Prop := ∀ c k, ¬ (c = 141 ∧ 11 ≤ k ∧ k ≤ 17) → ¬ (c = 142 ∧ 1760 ≤ k) → c ≠ 148 → c ≠ 149 → g' c k = g c k
def LN (L : Nat) (h : MH) (b : Int) (h' g' : MH) : Prop := (b = 1 ∧ S0 L h' g' ∧ (∃ M T : Nat, LI M T h' g') ∧ h 8 3 ≤ h' 8 5) ∨ (b = 0 ∧ FT h' g')
theorem p59_0 {g : MH} : F_X12_part_59 0 g = some (0, g) := by
  unfold F_X12_part_59 ck
  rw [if_pos (by omega), if_pos rfl]
theorem p59_1 {g g' : MH} {b : Int} (hb : b = 0 ∨ b = 1) (e : F_X12_ends g = some (b, g')) : F_X12_part_59 1 g = some (b, g') := by
  unfold F_X12_part_59 ck
  rw [if_pos (by omega), if_neg (by omega), e, bind_eq]
  dsimp only
  rw [if_pos (by omega)]
  rcases hb with z | z
  · rw [z, if_pos rfl]
  · rw [z, if_neg (by omega)]
theorem fin0 {o : Option (Int × MH)} {g' : MH} (e : o = some (0, g')) : (o.bind fun q => F_X12_part_59 q.1 q.2) = some (0, g') := by
  rw [e, bind_eq]
  exact p59_0
theorem fin1 {o : Option (Int × MH)} {g2 g' : MH} {b : Int} (e : o = some (1, g2)) (w : F_X12_part_59 1 g2 = some (b, g')) : (o.bind fun q => F_X12_part_59 q.1 q.2) = some (b, g') := by
  rw [e, bind_eq]
  exact w
theorem tail_l {L M T : Nat} {h g : MH} (s : S0 L h g) (p : LI M T h g) : ∃ b h' g', F_X8_takeSign h = some (b, h') ∧ F_X12_part_59 1 g = some (b, g') ∧ LN L h b h' g' ∧ HX h h' ∧ GX g g' ∧ (b = 0 ∨ b = 1) := by
  obtain ⟨b, h', g', a1, a2, a3, a4, a5⟩ := sign_l s
  have hb : b = 0 ∨ b = 1 := by rcases a3 with ⟨z, _⟩ | ⟨z, _⟩ <;> omega
  refine ⟨b, h', g', a1, p59_1 hb a2, ?_, a4, a5, hb⟩
  rcases a3 with ⟨b1, b2, b3⟩ | ⟨b1, b2⟩
  · exact Or.inl ⟨b1, b2, ⟨M, T, LI_f p (fun c k z1 z2 _ => a4 c k (by omega)) (fun c k z1 z2 _ => a5 c k (by omega))⟩, b3⟩
  · exact Or.inr ⟨b1, b2⟩
theorem table_l {L M T : Nat} {h g : MH} (s : S0 L h g) (p : LI M T h g) (k1 : h 8 4 = 1) :
    ∃ b h' g', F_X3_takeTable h = some (b, h') ∧ ((F_X12_aTable g).bind fun q => F_X12_part_59 q.1 q.2) = some (b, g') ∧ LN L h b h' g' ∧ HL h h' ∧ GL g g' ∧ (b = 0 ∨ b = 1) := by
  obtain ⟨⟨p1, p2, p3⟩, ⟨q1, q2, q3⟩, r, s0, t, u, v⟩ := id p
  obtain ⟨h', g', a1, a2, a3, a4, a5⟩ := fl_w s (by omega) (c := 5) (by omega)
  have c24 : F_X3_takeTable_24 h = some (0, h') := by
    unfold F_X3_takeTable_24 ck
    rw [a1, bind_eq]
    dsimp only
    rw [if_pos (by omega)]
  have m45 : F_X12_aTable_45 g = some (0, g') := by
    unfold F_X12_aTable_45 ck
    rw [a2, bind_eq]
    dsimp only
    rw [if_pos (by omega)]
  by_cases z : M = 0
  · refine ⟨0, h', g', ?_, fin0 ?_, Or.inr ⟨rfl, a3⟩, fun c k z1 _ _ _ _ _ => a4 c k z1, fun c k z1 _ _ _ => a5 c k z1, Or.inl rfl⟩
    · unfold F_X3_takeTable F_X3_takeTable_0 ck
      rw [nx_eq, p1, if_pos (by omega), if_pos (by omega), c24]
    · unfold F_X12_aTable F_X12_aTable_0 F_X12_machineAt F_X12_machineAt_0 ck
      rw [bind_eq]
      dsimp only
      rw [if_pos (by omega), if_pos (by omega), m45]
  · obtain ⟨m, rfl⟩ : ∃ m, M = m + 1 := ⟨M - 1, by omega⟩
    have fl := t m rfl
    unfold FL at fl
    have e11 : (1760 : Int) + 8 + 16 * (g 142 1760 - 1) + 11 = ((1768 + 16 * m + 11 : Nat) : Int) := by omega
    have et : ((1760 : Int) + 8 + 16 * (g 142 1760 - 1) + 14).toNat = 1768 + 16 * m + 14 := by omega
    by_cases y : h 10 5 = 0
    · generalize eA : hup h 10 5 1 = hA
      have nA : ∀ c k, ¬ (c = 10 ∧ k = 5) → hA c k = h c k := fun c k w => by rw [← eA, hup_n _ _ _ _ _ _ w]
      generalize eB : hup g 142 (1768 + 16 * m + 14) 1 = gA
      have nB : ∀ c k, ¬ (c = 142 ∧ k = 1768 + 16 * m + 14) → gA c k = g c k := fun c k w => by rw [← eB, hup_n _ _ _ _ _ _ w]
      obtain ⟨h2, g2, b1, b2, b3, b4, b5, b6, b7⟩ := adv (h := hA) (g := gA) (s.f (fun c k w => nA _ _ (by omega)) (fun c k w => nB _ _ (by omega)))
      have A83 : hA 8 3 = h 8 3 := nA _ _ (by omega)
      obtain ⟨b, h3, g3, d1, d2, d3, d4, d5⟩ := num_l (x := 1768 + 16 * m + 11) (lo := 0) (hi := 999) b3 (by omega) (by omega) (by omega)
      have hb : b = 0 ∨ b = 1 := by rcases d3 with ⟨w, _⟩ | ⟨w, _⟩ <;> omega
      have mo : F_X12_aTable g = some (b, g3) := by
        unfold F_X12_aTable F_X12_aTable_0 F_X12_machineAt F_X12_machineAt_0 ck
        rw [bind_eq]
        dsimp only
        rw [if_pos (by omega), if_neg (by omega), if_pos (by omega), if_pos (by rw [et, fl.2, y]; omega), if_pos (by rw [et, fl.2, y]; omega), nx_eq, et, eB, b2, bind_eq, e11, d2, bind_eq]
        dsimp only
        rw [if_pos hb]
      have k3 := b3.k.2.2.1
      rcases d3 with ⟨e1, e2, e3, e4, e5⟩ | ⟨e1, e2⟩
      · generalize eC : hup h3 16 m (h3 8 8) = hC
        have nC : ∀ c k, ¬ (c = 16 ∧ k = m) → hC c k = h3 c k := fun c k w => by rw [← eC, hup_n _ _ _ _ _ _ w]
        have C16 : hC 16 m = h3 8 8 := by rw [← eC, hup_s]
        have HN : ∀ c k, ¬ (c = 8 ∧ 3 ≤ k ∧ k ≤ 10) → ¬ (c = 10 ∧ k = 5) → ¬ (c = 16 ∧ k = m) → hC c k = h c k := fun c k w1 w2 w3 => by rw [nC _ _ w3, d4 _ _ w1, b6 _ _ w1, nA _ _ w2]
        have GN : ∀ c k, ¬ (c = 141 ∧ 11 ≤ k ∧ k ≤ 17) → ¬ (c = 142 ∧ k = 1768 + 16 * m + 11) → ¬ (c = 142 ∧ k = 1768 + 16 * m + 14) → g3 c k = g c k := fun c k w1 w2 w3 => by rw [d5 _ _ w1 w2, b7 _ _ w1, nB _ _ w3]
        have li : LI (m + 1) T hC g3 := by
          refine LI_set (M0 := m + 1) p (by omega) (fun c k w1 w2 w3 w4 => HN c k (by omega) (by omega) (by omega)) (fun c k w1 w2 w3 w4 w5 => GN c k (by omega) (by omega) (by omega)) (by rw [HN _ _ (by omega) (by omega) (by omega)]; exact p1) (by rw [GN _ _ (by omega) (by omega) (by omega)]; exact p2) ?_ ?_
          · obtain ⟨m1, m2, m3, m4, m5, m6⟩ := r m (by omega)
            unfold MA
            rw [C16, e5, HN 13 m (by omega) (by omega) (by omega), HN 24 m (by omega) (by omega) (by omega), HN 14 m (by omega) (by omega) (by omega), HN 15 m (by omega) (by omega) (by omega), HN 23 m (by omega) (by omega) (by omega), GN _ _ (by omega) (by omega) (by omega), GN 142 (1768 + 16 * m + 1) (by omega) (by omega) (by omega), GN 142 (1768 + 16 * m + 2) (by omega) (by omega) (by omega), GN 142 (1768 + 16 * m + 3) (by omega) (by omega) (by omega), GN 142 (1768 + 16 * m + 13) (by omega) (by omega) (by omega)]
            exact ⟨m1, m2, m3, m4, ⟨e4.1, e4.2, rfl⟩, m6⟩
          · unfold FL
            rw [nC _ _ (by omega), d4 _ _ (by omega), b6 _ _ (by omega), ← eA, hup_s, d5 _ _ (by omega) (by omega), b7 _ _ (by omega), ← eB, hup_s]
            exact ⟨Or.inr rfl, rfl⟩
        obtain ⟨b', h5, g5, f1, f2, f3, f4, f5, f6⟩ := tail_l (h := hC) (g := g3) (e2.f (fun c k w => nC _ _ (by omega)) (fun _ _ _ => rfl)) li
        have C83 : hC 8 3 = h3 8 3 := nC _ _ (by omega)
        have k5 := e2.k.2.2.1
        refine ⟨b', h5, g5, ?_, fin1 (by rw [mo, e1]) f2, ?_, fun c k w1 w2 w3 w4 w5 w6 => by rw [f4 _ _ w1, HN _ _ w1 (by omega) (by omega)], fun c k w1 w2 w3 w4 => by rw [f5 _ _ w1, GN _ _ w1 (by omega) (by omega)], f6⟩
        · unfold F_X3_takeTable F_X3_takeTable_0 ck
          rw [nx_eq, p1, if_pos (by omega), if_neg (by omega), if_pos (by omega), if_pos y, nx_eq, eA, b1, bind_eq, d1, e1, bind_eq]
          dsimp only
          rw [if_pos (by omega), if_pos (by omega), if_pos (by omega), nx_eq, show (((m + 1 : Nat) : Int) - 1).toNat = m by omega, eC, f1, bind_eq]
          dsimp only
          rw [if_pos f6]
        · rcases f3 with ⟨w1, w2, w3, w4⟩ | w
          · exact Or.inl ⟨w1, w2, w3, by omega⟩
          · exact Or.inr w
      · refine ⟨0, h3, g3, ?_, fin0 (by rw [mo, e1]), Or.inr ⟨rfl, e2⟩, fun c k w1 w2 w3 w4 w5 w6 => by rw [d4 _ _ w1, b6 _ _ w1, nA _ _ (by omega)], fun c k w1 w2 w3 w4 => by rw [d5 _ _ w1 (by omega), b7 _ _ w1, nB _ _ (by omega)], Or.inl rfl⟩
        unfold F_X3_takeTable F_X3_takeTable_0 ck
        rw [nx_eq, p1, if_pos (by omega), if_neg (by omega), if_pos (by omega), if_pos y, nx_eq, eA, b1, bind_eq, d1, e1, bind_eq]
        dsimp only
        rw [if_pos (by omega), if_neg (by omega)]
    · refine ⟨0, h', g', ?_, fin0 ?_, Or.inr ⟨rfl, a3⟩, fun c k z1 _ _ _ _ _ => a4 c k z1, fun c k z1 _ _ _ => a5 c k z1, Or.inl rfl⟩
      · unfold F_X3_takeTable F_X3_takeTable_0 ck
        rw [nx_eq, p1, if_pos (by omega), if_neg (by omega), if_pos (by omega), if_neg y, c24]
      · unfold F_X12_aTable F_X12_aTable_0 F_X12_machineAt F_X12_machineAt_0 ck
        rw [bind_eq]
        dsimp only
        rw [if_pos (by omega), if_neg (by omega), if_pos (by omega), if_pos (by rw [et, fl.2]; omega), if_neg (by rw [et, fl.2]; omega), m45]
theorem sort_l {L M T : Nat} {h g : MH} (s : S0 L h g) (p : LI M T h g) (k1 : h 8 4 = 1) :
    ∃ b h' g', F_X3_takeSort h = some (b, h') ∧ ((F_X12_aSort g).bind fun q => F_X12_part_59 q.1 q.2) = some (b, g') ∧ LN L h b h' g' ∧ HL h h' ∧ GL g g' ∧ (b = 0 ∨ b = 1) := by
  obtain ⟨⟨p1, p2, p3⟩, ⟨q1, q2, q3⟩, r, s0, t, u, v⟩ := id p
  by_cases z : T = 7
  · obtain ⟨h', g', a1, a2, a3, a4, a5⟩ := fl_w s (by omega) (c := 6) (by omega)
    refine ⟨0, h', g', ?_, fin0 ?_, Or.inr ⟨rfl, a3⟩, fun c k z1 _ _ _ _ _ => a4 c k z1, fun c k z1 _ _ _ => a5 c k z1, Or.inl rfl⟩
    · unfold F_X3_takeSort F_X3_takeSort_0 ck
      rw [q1, if_pos (by omega), if_neg (by omega), a1, bind_eq]
      dsimp only
      rw [if_pos (by omega)]
    · unfold F_X12_aSort F_X12_aSort_0 ck
      rw [nx_eq, q2, if_pos (by omega), if_neg (by omega), a2, bind_eq]
      dsimp only
      rw [if_pos (by omega)]
  · obtain ⟨h1, g1, b1, b2, b3, b4, b5, b6, b7⟩ := adv s
    obtain ⟨b, n1, n2, n3⟩ := isn_l b3
    rcases n3 with ⟨e, ok⟩ | ⟨e, no⟩
    · obtain ⟨y, y1, y2⟩ := nh_g b3 ok
      have T1 : h1 11 4 = (T : Int) := by rw [b6 _ _ (by omega)]; exact q1
      have T2 : g1 142 1761 = (T : Int) := by rw [b7 _ _ (by omega)]; exact q2
      obtain ⟨k, k2, k3, k4⟩ := sort_p (x := h1 8 6) (y := y) (T := T) (h := h1) (g := g1) ⟨T1, q3⟩ (fun m hm => by rw [b6 _ _ (by omega), b7 _ _ (by omega)]; exact u m hm) T2 y2 y1 T 20000 20000 0 (by omega) (by omega) (by omega)
      rw [show ((0 : Nat) : Int) = 0 from rfl] at k2 k3
      have kc : F_X3_sortNamed (h1 8 6) h1 = some (k, h1) := k2
      have km : F_X12_sortHere g1 = some (k, g1) := k3
      by_cases w : k = -1
      · generalize eA : hup (hup h1 26 T (h1 8 6)) 11 4 ((T : Int) + 1) = hA
        have nA : ∀ c k, ¬ (c = 26 ∧ k = T) → ¬ (c = 11 ∧ k = 4) → hA c k = h1 c k := fun c k w1 w2 => by rw [← eA, hup_n _ _ _ _ _ _ w2, hup_n _ _ _ _ _ _ w1]
        generalize eB : hup (hup g1 148 T y) 142 1761 ((T : Int) + 1) = gA
        have nB : ∀ c k, ¬ (c = 148 ∧ k = T) → ¬ (c = 142 ∧ k = 1761) → gA c k = g1 c k := fun c k w1 w2 => by rw [← eB, hup_n _ _ _ _ _ _ w2, hup_n _ _ _ _ _ _ w1]
        obtain ⟨h2, g2, c1, c2, c3, c4, c5, c6, c7⟩ := adv (h := hA) (g := gA) (b3.f (fun c k w => nA _ _ (by omega) (by omega)) (fun c k w => nB _ _ (by omega) (by omega)))
        have A83 : hA 8 3 = h1 8 3 := nA _ _ (by omega) (by omega)
        have HN : ∀ c k, ¬ (c = 8 ∧ 3 ≤ k ∧ k ≤ 10) → ¬ (c = 26 ∧ k = T) → ¬ (c = 11 ∧ k = 4) → h2 c k = h c k := fun c k w1 w2 w3 => by rw [c6 _ _ w1, nA _ _ w2 w3, b6 _ _ w1]
        have GN : ∀ c k, ¬ (c = 141 ∧ 11 ≤ k ∧ k ≤ 17) → ¬ (c = 148 ∧ k = T) → ¬ (c = 142 ∧ k = 1761) → g2 c k = g c k := fun c k w1 w2 w3 => by rw [c7 _ _ w1, nB _ _ w2 w3, b7 _ _ w1]
        have li : LI M (T + 1) h2 g2 := by
          refine LI_sort p (by omega) (fun c k w1 w2 w3 w4 w5 => HN c k (by omega) w5 w4) (fun c k w1 w2 w3 w4 w5 => GN c k (by omega) w5 w4) ?_ ?_ ?_
          · rw [c6 _ _ (by omega), ← eA, hup_s] <;> omega
          · rw [c7 _ _ (by omega), ← eB, hup_s] <;> omega
          · rw [c6 _ _ (by omega), ← eA, hup_n _ _ _ _ _ _ (by omega), hup_s, c7 _ _ (by omega), ← eB, hup_n _ _ _ _ _ _ (by omega), hup_s]; exact y2
        obtain ⟨b', h5, g5, f1, f2, f3, f4, f5, f6⟩ := tail_l c3 li
        have k5 := c3.k.2.2.1
        have k6 := b3.k.2.2.1
        refine ⟨b', h5, g5, ?_, fin1 (g2 := g2) ?_ f2, ?_, fun c k w1 w2 w3 w4 w5 w6 => by rw [f4 _ _ w1, HN _ _ w1 (by omega) (by omega)], fun c k w1 w2 w3 w4 => by rw [f5 _ _ w1, GN _ _ w1 (by omega) (by omega)], f6⟩
        · unfold F_X3_takeSort F_X3_takeSort_0 ck
          rw [q1, if_pos (by omega), if_pos (by omega), b1, bind_eq, n1, e, bind_eq]
          dsimp only
          rw [if_pos (by omega), if_pos (by omega), kc, w, bind_eq]
          dsimp only
          rw [if_pos (by omega), if_pos rfl, if_pos (by omega), nx_eq, nx_eq, T1, show ((T : Int)).toNat = T by omega, hup_n _ _ _ _ 11 4 (by omega), T1, eA, c1, bind_eq, f1, bind_eq]
          dsimp only
          rw [if_pos f6]
        · unfold F_X12_aSort F_X12_aSort_0 ck
          rw [nx_eq, q2, if_pos (by omega), if_pos (by omega), b2, bind_eq, n2, e, bind_eq]
          dsimp only
          rw [if_pos (by omega), if_pos (by omega), km, w, bind_eq]
          dsimp only
          rw [if_pos (by omega), if_pos rfl, y1, bind_eq]
          dsimp only
          rw [if_pos (by omega), nx_eq, nx_eq, show ((T : Int)).toNat = T by omega, hup_n _ _ _ _ 142 1761 (by omega), T2, eB, c2, bind_eq]
        · rcases f3 with ⟨w1, w2, w3, w4⟩ | w
          · exact Or.inl ⟨w1, w2, w3, by omega⟩
          · exact Or.inr w
      · obtain ⟨h', g', a1, a2, a3, a4, a5⟩ := fl_w b3 (by have := ok.1; omega) (c := 3) (by omega)
        refine ⟨0, h', g', ?_, fin0 ?_, Or.inr ⟨rfl, a3⟩, fun c k z1 _ _ _ _ _ => by rw [a4 c k z1, b6 c k z1], fun c k z1 _ _ _ => by rw [a5 c k z1, b7 c k z1], Or.inl rfl⟩
        · unfold F_X3_takeSort F_X3_takeSort_0 ck
          rw [q1, if_pos (by omega), if_pos (by omega), b1, bind_eq, n1, e, bind_eq]
          dsimp only
          rw [if_pos (by omega), if_pos (by omega), kc, bind_eq]
          dsimp only
          rw [if_pos (by omega), if_neg w, a1, bind_eq]
          dsimp only
          rw [if_pos (by omega)]
        · unfold F_X12_aSort F_X12_aSort_0 ck
          rw [nx_eq, q2, if_pos (by omega), if_pos (by omega), b2, bind_eq, n2, e, bind_eq]
          dsimp only
          rw [if_pos (by omega), if_pos (by omega), km, bind_eq]
          dsimp only
          rw [if_pos (by omega), if_neg w, a2, bind_eq]
          dsimp only
          rw [if_pos (by omega)]
    · obtain ⟨h', g', a1, a2, a3, a4, a5⟩ := fl_m b3
      refine ⟨0, h', g', ?_, fin0 ?_, Or.inr ⟨rfl, a3⟩, fun c k z1 _ _ _ _ _ => by rw [a4 c k z1, b6 c k z1], fun c k z1 _ _ _ => by rw [a5 c k z1, b7 c k z1], Or.inl rfl⟩
      · unfold F_X3_takeSort F_X3_takeSort_0 ck
        rw [q1, if_pos (by omega), if_pos (by omega), b1, bind_eq, n1, e, bind_eq]
        dsimp only
        rw [if_pos (by omega), if_neg (by omega), a1, bind_eq]
        dsimp only
        rw [if_pos (by omega)]
      · unfold F_X12_aSort F_X12_aSort_0 ck
        rw [nx_eq, q2, if_pos (by omega), if_pos (by omega), b2, bind_eq, n2, e, bind_eq]
        dsimp only
        rw [if_pos (by omega), if_neg (by omega), a2, bind_eq]
        dsimp only
        rw [if_pos (by omega)]
/-- the sort that is named here -/
theorem shere_l {L M T : Nat} {h g : MH} (s : S0 L h g) (p : LI M T h g) : ∃ k h' g', F_X3_sortHere h = some (k, h') ∧
    (((0 ≤ k ∧ k < 7) ∧ h' = h ∧ h 8 4 = 1 ∧ F_X12_isName 19 g = some (1, g) ∧ F_X12_sortHere g = some (k, g)) ∨
     (k = -1 ∧ FT h' g' ∧ HX h h' ∧ GX g g' ∧ ∀ (f : Nat) (x1 x2 x3 : Int), 0 ≤ x3 ∧ x3 ≤ 1 → F_X12_aWash_10 (f + 1) x1 x2 x3 g = some (0, g'))) := by
  obtain ⟨⟨p1, p2, p3⟩, ⟨q1, q2, q3⟩, r, s0, t, u, v⟩ := id p
  obtain ⟨b, n1, n2, n3⟩ := isn_l s
  rcases n3 with ⟨e, ok⟩ | ⟨e, no⟩
  · obtain ⟨y, y1, y2⟩ := nh_g s ok
    obtain ⟨k, k2, k3, k4⟩ := sort_p (x := h 8 6) (y := y) (T := T) (h := h) (g := g) ⟨q1, q3⟩ u q2 y2 y1 T 20000 20000 0 (by omega) (by omega) (by omega)
    rw [show ((0 : Nat) : Int) = 0 from rfl] at k2 k3
    have kc : F_X3_sortNamed (h 8 6) h = some (k, h) := k2
    have km : F_X12_sortHere g = some (k, g) := k3
    by_cases w : k = -1
    · obtain ⟨h', g', a1, a2, a3, a4, a5⟩ := fl_w s (by have := ok.1; omega) (c := 3) (by omega)
      refine ⟨-1, h', g', ?_, Or.inr ⟨rfl, a3, a4, a5, fun f x1 x2 x3 hx => ?_⟩⟩
      · unfold F_X3_sortHere F_X3_sortHere_0 ck
        rw [n1, e, bind_eq]
        dsimp only
        rw [if_pos (by omega), if_pos (by omega), kc, w, bind_eq]
        dsimp only
        rw [if_pos (by omega), if_neg (by omega), a1, bind_eq]
      · rw [F_X12_aWash_10]
        unfold ck
        rw [if_pos (by omega), if_neg (by omega), n2, e, bind_eq]
        dsimp only
        rw [if_pos (by omega), if_pos (by omega), km, w, bind_eq]
        dsimp only
        rw [if_pos (by omega), if_neg (by omega), a2, bind_eq]
        dsimp only
        rw [if_pos (by omega)]
    · refine ⟨k, h, g, ?_, Or.inl ⟨by omega, rfl, ok.1, by rw [n2, e], km⟩⟩
      unfold F_X3_sortHere F_X3_sortHere_0 ck
      rw [n1, e, bind_eq]
      dsimp only
      rw [if_pos (by omega), if_pos (by omega), kc, bind_eq]
      dsimp only
      rw [if_pos (by omega), if_pos w]
  · obtain ⟨h', g', a1, a2, a3, a4, a5⟩ := fl_m s
    refine ⟨-1, h', g', ?_, Or.inr ⟨rfl, a3, a4, a5, fun f x1 x2 x3 hx => ?_⟩⟩
    · unfold F_X3_sortHere F_X3_sortHere_0 ck
      rw [n1, e, bind_eq]
      dsimp only
      rw [if_pos (by omega), if_neg (by omega), a1, bind_eq]
    · rw [F_X12_aWash_10]
      unfold ck
      rw [if_pos (by omega), if_neg (by omega), n2, e, bind_eq]
      dsimp only
      rw [if_pos (by omega), if_neg (by omega), a2, bind_eq]
      dsimp only
      rw [if_pos (by omega)]
theorem wash_l {L M T : Nat} {h g : MH} (s : S0 L h g) (p : LI M T h g) :
    ∃ b h' g', F_X3_takeWash h = some (b, h') ∧ ((F_X12_aWash g).bind fun q => F_X12_part_59 q.1 q.2) = some (b, g') ∧ LN L h b h' g' ∧ HL h h' ∧ GL g g' ∧ (b = 0 ∨ b = 1) := by
  obtain ⟨h1, g1, b1, b2, b3, b4, b5, b6, b7⟩ := adv s
  have p1 : LI M T h1 g1 := LI_f p (fun c k z1 z2 _ => b6 c k (by omega)) (fun c k z1 z2 _ => b7 c k (by omega))
  obtain ⟨k, hk, gk, c1, c2⟩ := shere_l b3 p1
  rcases c2 with ⟨c2, c3, c4, c5, c6⟩ | ⟨c2, c3, c4, c5, c6⟩
  rotate_left
  · refine ⟨0, hk, gk, ?_, fin0 ?_, Or.inr ⟨rfl, c3⟩, fun c k z1 _ _ _ _ _ => by rw [c4 c k z1, b6 c k z1], fun c k z1 _ _ _ => by rw [c5 c k z1, b7 c k z1], Or.inl rfl⟩
    · unfold F_X3_takeWash F_X3_takeWash_0 ck
      rw [b1, bind_eq, c1, c2, bind_eq]
      dsimp only
      rw [if_pos (by omega), if_neg (by omega)]
    · unfold F_X12_aWash F_X12_aWash_0
      rw [b2, bind_eq]
      exact c6 19999 (-1) 0 0 (by omega)
  rw [c3] at c1
  obtain ⟨h2, g2, d1, d2, d3, d4, d5, d6, d7⟩ := adv b3
  have p2 : LI M T h2 g2 := LI_f p1 (fun c k z1 z2 _ => d6 c k (by omega)) (fun c k z1 z2 _ => d7 c k (by omega))
  have m1 : F_X12_aWash g = F_X12_aWash_10 19999 k (7 * (-1) + k) 1 g2 := by
    unfold F_X12_aWash F_X12_aWash_0
    rw [b2, bind_eq, show (20000 : Nat) = 19999 + 1 from rfl, F_X12_aWash_10]
    unfold ck
    rw [if_pos (by omega), if_neg (by omega), c5, bind_eq]
    dsimp only
    rw [if_pos (by omega), if_pos (by omega), c6, bind_eq]
    dsimp only
    rw [if_pos (by omega), if_pos (by omega), nx_eq, if_pos (by omega)]
    unfold F_X12_aWash_82
    rw [d2, bind_eq, show (0 : Int) + 1 = 1 from rfl]
  obtain ⟨j, hj, gj, e1, e2⟩ := shere_l d3 p2
  rcases e2 with ⟨e2, e3, e4, e5, e6⟩ | ⟨e2, e3, e4, e5, e6⟩
  rotate_left
  · refine ⟨0, hj, gj, ?_, fin0 ?_, Or.inr ⟨rfl, e3⟩, fun c k z1 _ _ _ _ _ => by rw [e4 c k z1, d6 c k z1, b6 c k z1], fun c k z1 _ _ _ => by rw [e5 c k z1, d7 c k z1, b7 c k z1], Or.inl rfl⟩
    · unfold F_X3_takeWash F_X3_takeWash_0 ck
      rw [b1, bind_eq, c1, bind_eq]
      dsimp only
      rw [if_pos (by omega), if_pos (by omega), d1, bind_eq, e1, e2, bind_eq]
      dsimp only
      rw [if_pos (by omega), if_neg (by omega)]
    · rw [m1]
      exact e6 19998 _ _ 1 (by omega)
  rw [e3] at e1
  obtain ⟨h', g', a1, a2, a3, a4, a5⟩ := fl_w d3 (by omega) (c := 5) (by omega)
  have c55 : F_X3_takeWash_55 h2 = some (0, h') := by
    unfold F_X3_takeWash_55 ck
    rw [a1, bind_eq]
    dsimp only
    rw [if_pos (by omega)]
  have m76 : F_X12_aWash_76 g2 = some (0, g') := by
    unfold F_X12_aWash_76 ck
    rw [a2, bind_eq]
    dsimp only
    rw [if_pos (by omega)]
  by_cases q : k = j
  · refine ⟨0, h', g', ?_, fin0 ?_, Or.inr ⟨rfl, a3⟩, fun c k z1 _ _ _ _ _ => by rw [a4 c k z1, d6 c k z1, b6 c k z1], fun c k z1 _ _ _ => by rw [a5 c k z1, d7 c k z1, b7 c k z1], Or.inl rfl⟩
    · unfold F_X3_takeWash F_X3_takeWash_0 ck
      rw [b1, bind_eq, c1, bind_eq]
      dsimp only
      rw [if_pos (by omega), if_pos (by omega), d1, bind_eq, e1, bind_eq]
      dsimp only
      rw [if_pos (by omega), if_pos (by omega), if_pos q, c55]
    · rw [m1, show (19999 : Nat) = 19998 + 1 from rfl, F_X12_aWash_10]
      unfold ck
      rw [if_pos (by omega), if_neg (by omega), e5, bind_eq]
      dsimp only
      rw [if_pos (by omega), if_pos (by omega), e6, bind_eq]
      dsimp only
      rw [if_pos (by omega), if_pos (by omega), nx_eq, if_neg (by omega), if_pos (by omega), if_pos q.symm, m76]
  obtain ⟨w, hw⟩ : ∃ w : Nat, 7 * k + j = (w : Int) := ⟨(7 * k + j).toNat, by omega⟩
  have hw49 : w < 49 := by omega
  have wa := p2.2.2.2.2.2.2 w hw49
  have m2 : F_X12_aWash g = if g2 149 w = 0 then F_X12_aWash_82 (F_X12_aWash_10 19998) (w : Int) 1 j g2 else F_X12_aWash_76 g2 := by
    have i149 : in32 (g2 149 w) := by
      rcases wa with ⟨_, _, z⟩ | ⟨_, _, _, z⟩ <;> rw [z] <;> omega
    rw [m1, show (19999 : Nat) = 19998 + 1 from rfl, F_X12_aWash_10]
    unfold ck
    rw [if_pos (by omega), if_neg (by omega), e5, bind_eq]
    dsimp only
    rw [if_pos (by omega), if_pos (by omega), e6, bind_eq]
    dsimp only
    rw [if_pos (by omega), if_pos (by omega), nx_eq, hw, if_neg (by omega), if_pos (by omega), if_neg (fun z => q z.symm), if_pos (by omega), show ((w : Int)).toNat = w by omega, if_pos i149]
  have cw : F_X5_washTold 11 k j h2 = some (if h2 25 w = -1 then 0 else 1, h2) := by
    have i25 : in32 (h2 25 w) := by
      rcases wa with ⟨z, _⟩ | ⟨z, z2, _⟩ <;> omega
    unfold F_X5_washTold F_X5_washTold_0 ck
    rw [show 11 + 14 = 25 from rfl, show k * 7 + j = (w : Int) by omega, if_pos (by omega), show ((w : Int)).toNat = w by omega, if_pos i25]
    by_cases z : h2 25 w = -1
    · rw [if_pos z, if_pos z]
    · rw [if_neg z, if_neg z]
  rcases wa with ⟨wa1, wa2, wa3⟩ | ⟨wa1, wa2, wa3, wa4⟩
  · obtain ⟨h3, g3, l1, l2, l3, l4, l5, l6, l7⟩ := adv d3
    generalize eB : hup g3 149 w 1 = gB
    have nB : ∀ c k, ¬ (c = 149 ∧ k = w) → gB c k = g3 c k := fun c k z => by rw [← eB, hup_n _ _ _ _ _ _ z]
    obtain ⟨b, h4, g4, n1, n2, n3, n4, n5⟩ := num_l (x := 1900 + w) (lo := 0) (hi := 999) (h := h3) (g := gB) (l3.f (fun _ _ _ => rfl) (fun c k z => nB _ _ (by omega))) (by omega) (by omega) (by omega)
    have hb : b = 0 ∨ b = 1 := by rcases n3 with ⟨z, _⟩ | ⟨z, _⟩ <;> omega
    have mo : F_X12_aWash g = some (b, g4) := by
      rw [m2, if_pos wa3]
      unfold F_X12_aWash_82
      rw [l2, bind_eq, show (19998 : Nat) = 19997 + 1 from rfl, F_X12_aWash_10]
      unfold ck
      rw [if_pos (by omega), if_pos (by omega), if_pos (by omega), nx_eq, show ((w : Int)).toNat = w by omega, eB, show (1900 : Int) + (w : Int) = ((1900 + w : Nat) : Int) by omega, n2, bind_eq]
      dsimp only
      rw [if_pos hb]
    have k1 := b3.k.2.2.1
    have k2 := d3.k.2.2.1
    have k3 := l3.k.2.2.1
    have HN4 : ∀ c k, ¬ (c = 8 ∧ 3 ≤ k ∧ k ≤ 10) → h4 c k = h2 c k := fun c k z1 => by rw [n4 _ _ z1, l6 _ _ z1]
    have GN4 : ∀ c k, ¬ (c = 141 ∧ 11 ≤ k ∧ k ≤ 17) → ¬ (c = 142 ∧ k = 1900 + w) → ¬ (c = 149 ∧ k = w) → g4 c k = g2 c k := fun c k z1 z2 z3 => by rw [n5 _ _ z1 z2, nB _ _ z3, l7 _ _ z1]
    rcases n3 with ⟨u1, u2, u3, u4, u5⟩ | ⟨u1, u2⟩
    · generalize eC : hup h4 25 w (h4 8 8) = hC
      have nC : ∀ c k, ¬ (c = 25 ∧ k = w) → hC c k = h4 c k := fun c k z => by rw [← eC, hup_n _ _ _ _ _ _ z]
      have C25 : hC 25 w = h4 8 8 := by rw [← eC, hup_s]
      have li : LI M T hC g4 := by
        refine LI_wash (w := w) p2 hw49 (fun c k w1 w2 w3 w4 => by rw [nC _ _ w4, HN4 _ _ (by omega)]) (fun c k w1 w2 w3 w4 w5 => GN4 _ _ (by omega) w4 w5) (Or.inr ?_)
        rw [C25, u5, n5 149 w (by omega) (by omega), ← eB, hup_s]
        exact ⟨u4.1, u4.2, rfl, rfl⟩
      obtain ⟨b', h5, g5, f1, f2, f3, f4, f5, f6⟩ := tail_l (h := hC) (g := g4) (u2.f (fun c k z => nC _ _ (by omega)) (fun _ _ _ => rfl)) li
      have C83 : hC 8 3 = h4 8 3 := nC _ _ (by omega)
      have k4 := u2.k.2.2.1
      refine ⟨b', h5, g5, ?_, fin1 (by rw [mo, u1]) f2, ?_, fun c k w1 w2 w3 w4 w5 w6 => by rw [f4 _ _ w1, nC _ _ (by omega), HN4 _ _ w1, d6 _ _ w1, b6 _ _ w1], fun c k w1 w2 w3 w4 => by rw [f5 _ _ w1, GN4 _ _ w1 (by omega) (by omega), d7 _ _ w1, b7 _ _ w1], f6⟩
      · unfold F_X3_takeWash F_X3_takeWash_0 ck
        rw [b1, bind_eq, c1, bind_eq]
        dsimp only
        rw [if_pos (by omega), if_pos (by omega), d1, bind_eq, e1, bind_eq]
        dsimp only
        rw [if_pos (by omega), if_pos (by omega), if_neg q, cw, if_pos wa1, bind_eq]
        dsimp only
        rw [if_pos (by omega), if_pos rfl, l1, bind_eq, n1, u1, bind_eq]
        dsimp only
        rw [if_pos (by omega), if_pos (by omega), if_pos (by omega), nx_eq, show k * 7 + j = (w : Int) by omega, show ((w : Int)).toNat = w by omega, eC, f1, bind_eq]
        dsimp only
        rw [if_pos f6]
      · rcases f3 with ⟨w1, w2, w3, w4⟩ | w
        · exact Or.inl ⟨w1, w2, w3, by omega⟩
        · exact Or.inr w
    · refine ⟨0, h4, g4, ?_, fin0 (by rw [mo, u1]), Or.inr ⟨rfl, u2⟩, fun c k w1 w2 w3 w4 w5 w6 => by rw [HN4 _ _ w1, d6 _ _ w1, b6 _ _ w1], fun c k w1 w2 w3 w4 => by rw [GN4 _ _ w1 (by omega) (by omega), d7 _ _ w1, b7 _ _ w1], Or.inl rfl⟩
      unfold F_X3_takeWash F_X3_takeWash_0 ck
      rw [b1, bind_eq, c1, bind_eq]
      dsimp only
      rw [if_pos (by omega), if_pos (by omega), d1, bind_eq, e1, bind_eq]
      dsimp only
      rw [if_pos (by omega), if_pos (by omega), if_neg q, cw, if_pos wa1, bind_eq]
      dsimp only
      rw [if_pos (by omega), if_pos rfl, l1, bind_eq, n1, u1, bind_eq]
      dsimp only
      rw [if_pos (by omega), if_neg (by omega)]
  · refine ⟨0, h', g', ?_, fin0 ?_, Or.inr ⟨rfl, a3⟩, fun c k z1 _ _ _ _ _ => by rw [a4 c k z1, d6 c k z1, b6 c k z1], fun c k z1 _ _ _ => by rw [a5 c k z1, d7 c k z1, b7 c k z1], Or.inl rfl⟩
    · unfold F_X3_takeWash F_X3_takeWash_0 ck
      rw [b1, bind_eq, c1, bind_eq]
      dsimp only
      rw [if_pos (by omega), if_pos (by omega), d1, bind_eq, e1, bind_eq]
      dsimp only
      rw [if_pos (by omega), if_pos (by omega), if_neg q, cw, if_neg (by omega), bind_eq]
      dsimp only
      rw [if_pos (by omega), if_neg (by omega), c55]
    · rw [m2, if_neg (by omega), m76]
