theorem o_begin : Ob_begin RR := by
  intro n h a1 hn r i1
  refine ob_ev ?_
  by_cases c : 0 ≤ a1 ∧ a1 ≤ 9999
  · have st := start_eq (f := 35) (x := a1) (h := h)
    generalize hh : hfl (hfl (hfl (hfl (hfl (hfl (hup (hup (hup h 35 5 a1) 35 6 a1) 35 7 0) (35 + 5) 6 0) (35 + 6) 6 (-1)) (35 + 7) 6 0) (35 + 8) 6 0) (35 + 9) 24 0) (35 + 10) 36 0 = h1 at st
    have fe := fresh_eq (B := 0) (x := a1) (g := hup h1 0 0 0) (by omega) (by omega)
    rw [show ((0 : Nat) : Int) = 0 from rfl] at fe
    have K : ∀ c k, ¬ (35 ≤ c ∧ c ≤ 45) → h1 c k = h c k := fun c k hc => by
      rw [← hh, hfl_n _ _ _ _ _ _ (by omega), hfl_n _ _ _ _ _ _ (by omega), hfl_n _ _ _ _ _ _ (by omega), hfl_n _ _ _ _ _ _ (by omega), hfl_n _ _ _ _ _ _ (by omega), hfl_n _ _ _ _ _ _ (by omega), hup_n _ _ _ _ _ _ (by omega), hup_n _ _ _ _ _ _ (by omega), hup_n _ _ _ _ _ _ (by omega)]
    simp only [F_X11_begin, F_X11_begin_0, F_X11_outside, F_X11_outside_0, F_X11_granted, F_X11_granted_0, F_X11_refused, F_X11_refused_0]
    ((try simp only [hup_s, hup_c, hup_k, ne_eq, Nat.reduceEqDiff, not_false_eq_true]); repeat' (first | (with_reducible refine ev_ck ?_ ?_; first | omega | trivial) | with_reducible refine ev_bind ?_ | (with_reducible refine ev_nx ?_; first | simp only [hup_s, hup_c, hup_k, ne_eq, Nat.reduceEqDiff, not_false_eq_true] | dsimp only | skip) | (with_reducible refine ev_some ?_; first | simp only [hup_s, hup_c, hup_k, ne_eq, Nat.reduceEqDiff, not_false_eq_true] | dsimp only | skip) | (with_reducible refine ev_it ?_ ?_; first | omega | trivial) | (with_reducible refine ev_ie ?_ ?_; first | omega | trivial) | with_reducible refine ev_if (fun _ => ?_) (fun _ => ?_) | rw [st]))
    simp only [F_X12_begin, F_X12_begin_0, F_X12_isFrom, F_X12_isFrom_0, F_X12_is, F_X12_is_0]
    ((try simp only [hup_s, hup_c, hup_k, ne_eq, Nat.reduceEqDiff, not_false_eq_true]); repeat' (first | (with_reducible refine ev_ck ?_ ?_; first | omega | trivial) | with_reducible refine ev_bind ?_ | (with_reducible refine ev_nx ?_; first | simp only [hup_s, hup_c, hup_k, ne_eq, Nat.reduceEqDiff, not_false_eq_true] | dsimp only | skip) | (with_reducible refine ev_some ?_; first | simp only [hup_s, hup_c, hup_k, ne_eq, Nat.reduceEqDiff, not_false_eq_true] | dsimp only | skip) | (with_reducible refine ev_it ?_ ?_; first | omega | trivial) | (with_reducible refine ev_ie ?_ ?_; first | omega | trivial) | with_reducible refine ev_if (fun _ => ?_) (fun _ => ?_) | rw [fe]))
    have G : ∀ c k, c ≠ 142 → ¬ (c = 0 ∧ k = 0) → ¬ (c = 141 ∧ k = 1) → hup (hfr (mI 0 6 0 (hup (hup (hup (hup h1 0 0 0) 142 (0 + 2) 0) 142 (0 + 3) a1) 142 (0 + 4) a1)) 142 (0 + 104) 36 0) 141 1 0 c k = h1 c k := by
      intro c k c1 c2 c3
      rw [hup_n _ _ _ _ _ _ (by omega), hfr_n _ _ _ _ _ _ _ (by omega), mI_n _ _ _ _ _ (Or.inl c1), hup_n _ _ _ _ _ _ (by omega), hup_n _ _ _ _ _ _ (by omega), hup_n _ _ _ _ _ _ (by omega), hup_n _ _ _ _ _ _ (by omega)]
    have G5 : ∀ k, k = 1 ∨ k = 5 ∨ 140 ≤ k → hup (hfr (mI 0 6 0 (hup (hup (hup (hup h1 0 0 0) 142 (0 + 2) 0) 142 (0 + 3) a1) 142 (0 + 4) a1)) 142 (0 + 104) 36 0) 141 1 0 142 k = h 142 k := by
      intro k hk
      rw [hup_n _ _ _ _ _ _ (by omega), hfr_n _ _ _ _ _ _ _ (by omega), mI_n _ _ _ _ _ (by by_cases q : k < 8; exact Or.inr (Or.inl (by omega)); exact Or.inr (Or.inr (Or.inl (by omega)))), hup_n _ _ _ _ _ _ (by omega), hup_n _ _ _ _ _ _ (by omega), hup_n _ _ _ _ _ _ (by omega), hup_n _ _ _ _ _ _ (by omega), K _ _ (by omega)]
    have GN : ∀ m e, m < 6 → e < 16 → ¬ mW e → hup (hfr (mI 0 6 0 (hup (hup (hup (hup h1 0 0 0) 142 (0 + 2) 0) 142 (0 + 3) a1) 142 (0 + 4) a1)) 142 (0 + 104) 36 0) 141 1 0 142 (0 + 8 + 16 * m + e) = h 142 (0 + 8 + 16 * m + e) := by
      intro m e hm he hw
      rw [hup_n _ _ _ _ _ _ (by omega), hfr_n _ _ _ _ _ _ _ (by omega), mI_n _ _ _ _ _ (Or.inr (Or.inr (Or.inr ⟨m, e, rfl, he, hw⟩))), hup_n _ _ _ _ _ _ (by omega), hup_n _ _ _ _ _ _ (by omega), hup_n _ _ _ _ _ _ (by omega), hup_n _ _ _ _ _ _ (by omega), K _ _ (by omega)]
    have A1 : hup (hfr (mI 0 6 0 (hup (hup (hup (hup h1 0 0 0) 142 (0 + 2) 0) 142 (0 + 3) a1) 142 (0 + 4) a1)) 142 (0 + 104) 36 0) 141 1 0 0 0 = 0 := by
      rw [hup_n _ _ _ _ _ _ (by omega), hfr_n _ _ _ _ _ _ _ (by omega), mI_n _ _ _ _ _ (Or.inl (by omega)), hup_n _ _ _ _ _ _ (by omega), hup_n _ _ _ _ _ _ (by omega), hup_n _ _ _ _ _ _ (by omega), hup_s]
    have A4 : hup (hfr (mI 0 6 0 (hup (hup (hup (hup h1 0 0 0) 142 (0 + 2) 0) 142 (0 + 3) a1) 142 (0 + 4) a1)) 142 (0 + 104) 36 0) 141 1 0 141 1 = 0 := hup_s _ _ _ _
    have O : ∀ k, hup (hfr (mI 0 6 0 (hup (hup (hup (hup h1 0 0 0) 142 (0 + 2) 0) 142 (0 + 3) a1) 142 (0 + 4) a1)) 142 (0 + 104) 36 0) 141 1 0 142 k = hfr (mI 0 6 0 (hup (hup (hup (hup h1 0 0 0) 142 (0 + 2) 0) 142 (0 + 3) a1) 142 (0 + 4) a1)) 142 (0 + 104) 36 0 142 k := fun k => hup_n _ _ _ _ _ _ (by omega)
    generalize hup (hfr (mI 0 6 0 (hup (hup (hup (hup h1 0 0 0) 142 (0 + 2) 0) 142 (0 + 3) a1) 142 (0 + 4) a1)) 142 (0 + 104) 36 0) 141 1 0 = g at *
    obtain ⟨F, X⟩ := PR_FR.mp r.2.2.2.1
    refine ⟨by first | trivial | omega, by omega, RR_mono _ _ (RR_4 (h := h) ?_ ?_ ?_ r)⟩
    · intro c k q
      obtain ⟨q1, q2⟩ := q
      have q3 : ¬ (c = 0 ∧ k = 0) ∧ ¬ (c = 141 ∧ k = 1) := by
        unfold Zall Z2 Z3 Zp Zs Z6 Z7 Z8 Z9 Z10 Z11 Z12 at q1
        omega
      unfold Zp at q2
      by_cases e : c = 142
      · subst e; exact G5 k (by omega)
      · rw [G c k e (by omega) (by omega), K c k (by omega)]
    · obtain ⟨⟨-, s2, s3⟩, -⟩ := r
      unfold R1
      rw [A1, A4, G 0 1 (by omega) (by omega) (by omega), G 0 2 (by omega) (by omega) (by omega), G 141 2 (by omega) (by omega) (by omega), G 141 3 (by omega) (by omega) (by omega), K _ _ (by omega), K _ _ (by omega), K _ _ (by omega), K _ _ (by omega)]
      exact ⟨⟨by omega, by omega, rfl⟩, s2, s3⟩
    · refine PR_FR.mpr ⟨FR_start (f := 34 + 1) (h := h) (g0 := hup h1 0 0 0) F c ?_ ?_ ?_ ?_ ?_ ?_ ?_ ?_ ?_ ?_ ?_ O (fun k => by rw [hup_n _ _ _ _ _ _ (by omega), K _ _ (by omega)]), ?_⟩
      · intro k k5 k6 k7
        rw [G _ _ (by omega) (by omega) (by omega), ← hh]
        simp (disch := omega) only [hfl_n, hup_n]
      · rw [G _ _ (by omega) (by omega) (by omega), ← hh]
        simp (disch := omega) only [hfl_n, hup_n, hup_s]
      · rw [G _ _ (by omega) (by omega) (by omega), ← hh]
        simp (disch := omega) only [hfl_n, hup_n, hup_s]
      · rw [G _ _ (by omega) (by omega) (by omega), ← hh]
        simp (disch := omega) only [hfl_n, hup_n, hup_s]
      · intro d m d1 d2
        rw [G _ _ (by omega) (by omega) (by omega), ← hh]
        simp (disch := omega) only [hfl_n, hup_n]
      all_goals try (intro m hm; rw [G _ _ (by omega) (by omega) (by omega), ← hh]; simp (disch := omega) only [hfl_n, hup_n, hfl_y]; done)
      obtain ⟨x1, x2, x3⟩ := X
      refine ⟨?_, fun m hm => ?_, fun k hk => ?_⟩
      · rw [G _ _ (by omega) (by omega) (by omega), K _ _ (by omega), G5 _ (by omega)]; exact x1
      · rw [G _ _ (by omega) (by omega) (by omega)] at hm
        have hm' : (m : Int) < h (34 + 1) 0 := by
          rw [← hh] at hm
          simp (disch := omega) only [hfl_n, hup_n] at hm
          exact hm
        have hm6 : m < 6 := by have := F.1.2.1; omega
        rw [G (34 + 13) m (by omega) (by omega) (by omega), K (34 + 13) m (by omega), G (34 + 12) m (by omega) (by omega) (by omega), K (34 + 12) m (by omega), GN m 1 hm6 (by omega) (by unfold mW; omega), GN m 13 hm6 (by omega) (by unfold mW; omega)]
        exact x2 m hm'
      · rw [G _ _ (by omega) (by omega) (by omega), K _ _ (by omega), G5 _ (by omega)]
        exact x3 k hk
  · simp only [F_X11_begin, F_X11_begin_0, F_X11_outside, F_X11_outside_0, F_X11_granted, F_X11_granted_0, F_X11_refused, F_X11_refused_0]
    ((try simp only [hup_s, hup_c, hup_k, ne_eq, Nat.reduceEqDiff, not_false_eq_true]); repeat' (first | (with_reducible refine ev_ck ?_ ?_; first | omega | trivial) | with_reducible refine ev_bind ?_ | (with_reducible refine ev_nx ?_; first | simp only [hup_s, hup_c, hup_k, ne_eq, Nat.reduceEqDiff, not_false_eq_true] | dsimp only | skip) | (with_reducible refine ev_some ?_; first | simp only [hup_s, hup_c, hup_k, ne_eq, Nat.reduceEqDiff, not_false_eq_true] | dsimp only | skip) | (with_reducible refine ev_it ?_ ?_; first | omega | trivial) | (with_reducible refine ev_ie ?_ ?_; first | omega | trivial) | with_reducible refine ev_if (fun _ => ?_) (fun _ => ?_)))
    all_goals simp only [F_X12_begin, F_X12_begin_0, F_X12_isFrom, F_X12_isFrom_0, F_X12_is, F_X12_is_0]
    all_goals (((try simp only [hup_s, hup_c, hup_k, ne_eq, Nat.reduceEqDiff, not_false_eq_true]); repeat' (first | (with_reducible refine ev_ck ?_ ?_; first | omega | trivial) | with_reducible refine ev_bind ?_ | (with_reducible refine ev_nx ?_; first | simp only [hup_s, hup_c, hup_k, ne_eq, Nat.reduceEqDiff, not_false_eq_true] | dsimp only | skip) | (with_reducible refine ev_some ?_; first | simp only [hup_s, hup_c, hup_k, ne_eq, Nat.reduceEqDiff, not_false_eq_true] | dsimp only | skip) | (with_reducible refine ev_it ?_ ?_; first | omega | trivial) | (with_reducible refine ev_ie ?_ ?_; first | omega | trivial) | with_reducible refine ev_if (fun _ => ?_) (fun _ => ?_))))
    all_goals (first | (exfalso; omega) | (refine ⟨?_, ?_, RR_st (by omega) r⟩ <;> first | trivial | omega))
