theorem o_back : Ob_back RR := by
  intro n h hn r
  refine ob_ev ?_
  have r6 := r.2.2.2.2.2.1
  obtain ⟨p1, p2⟩ := r6
  by_cases c : 0 < h 0 13
  · obtain ⟨j, ej⟩ : ∃ j : Nat, h 0 13 = (j : Int) + 1 := ⟨(h 0 13 - 1).toNat, by omega⟩
    have et : (j : Int) + 1 - 1 = j := by omega
    obtain ⟨g1, x1, x2, x3⟩ := plan_copy (p := 81 + 20 * j) (p' := 34) (h := hup h 0 13 (j : Int)) (by omega)
    obtain ⟨g2, y1, y2, y3, y4⟩ := script_copy (q := 96 + 20 * j) (q' := 49) (h := g1) (by omega)
    have z1 : g1 0 13 = j := by rw [x3 _ _ (by omega), hup_s]
    have z2 : g2 0 13 = j := by rw [y4 _ _ (by omega)]; exact z1
    have z3 : g2 141 50 = (j : Int) + 1 := by rw [y4 _ _ (by omega), x3 _ _ (by omega), hup_c _ _ _ _ _ _ (by decide)]; omega
    have cp := copies_eq (a := 440 * (j + 1)) (b := 0) (g := hup g2 0 0 0) (by omega) (by omega) (by omega)
    rw [show ((0 : Nat) : Int) = 0 from rfl, show ((440 * (j + 1) : Nat) : Int) = 440 * ((j : Int) + 1) by omega] at cp
    have cq : hcp (hup g2 0 0 0) 142 (440 * (j + 1)) 142 0 440 141 50 = (j : Int) + 1 := by
      rw [hcp_c _ _ _ _ _ _ _ _ (by decide), hup_c _ _ _ _ _ _ (by decide)]; exact z3
    simp only [F_X11_back, F_X11_back_0, F_X11_answer, F_X11_answer_0, F_X11_none, F_X11_none_0]
    simp only [ej, et]
    ((try simp only [hup_s, hup_c, hup_k, ne_eq, Nat.reduceEqDiff, not_false_eq_true, z1, z2, Int.toNat_natCast]); repeat' (first | (with_reducible refine ev_ck ?_ ?_; first | omega | trivial) | with_reducible refine ev_bind ?_ | (with_reducible refine ev_nx ?_; first | simp only [hup_s, hup_c, hup_k, ne_eq, Nat.reduceEqDiff, not_false_eq_true, z1, z2, Int.toNat_natCast] | dsimp only | skip) | (with_reducible refine ev_some ?_; first | simp only [hup_s, hup_c, hup_k, ne_eq, Nat.reduceEqDiff, not_false_eq_true, z1, z2, Int.toNat_natCast] | dsimp only | skip) | (with_reducible refine ev_it ?_ ?_; first | omega | trivial) | (with_reducible refine ev_ie ?_ ?_; first | omega | trivial) | with_reducible refine ev_if (fun _ => ?_) (fun _ => ?_) | rw [x1] | rw [y1]))
    simp only [F_X12_back, F_X12_back_0, F_X12_gives, F_X12_gives_0, F_X12_refuse, F_X12_refuse_0]
    ((try simp only [hup_s, hup_c, hup_k, ne_eq, Nat.reduceEqDiff, not_false_eq_true, z3, cq, et]); repeat' (first | (with_reducible refine ev_ck ?_ ?_; first | omega | trivial) | with_reducible refine ev_bind ?_ | (with_reducible refine ev_nx ?_; first | simp only [hup_s, hup_c, hup_k, ne_eq, Nat.reduceEqDiff, not_false_eq_true, z3, cq, et] | dsimp only | skip) | (with_reducible refine ev_some ?_; first | simp only [hup_s, hup_c, hup_k, ne_eq, Nat.reduceEqDiff, not_false_eq_true, z3, cq, et] | dsimp only | skip) | (with_reducible refine ev_it ?_ ?_; first | omega | trivial) | (with_reducible refine ev_ie ?_ ?_; first | omega | trivial) | with_reducible refine ev_if (fun _ => ?_) (fun _ => ?_) | rw [cp]))
    have G : ∀ c k, ¬ (34 ≤ c ∧ c ≤ 53) → ¬ (c = 0 ∧ (k = 0 ∨ k = 13)) → ¬ (c = 141 ∧ (k = 1 ∨ k = 50)) → ¬ (c = 142 ∧ k < 440) → hup (hup (hcp (hup g2 0 0 0) 142 (440 * (j + 1)) 142 0 440) 141 50 (j : Int)) 141 1 0 c k = h c k := by
      intro c k c1 c2 c3 c4
      rw [hup_n _ _ _ _ _ _ (by omega), hup_n _ _ _ _ _ _ (by omega), hcp_n _ _ _ _ _ _ _ _ (by omega), hup_n _ _ _ _ _ _ (by omega), y4 _ _ (by omega), x3 _ _ (by omega), hup_n _ _ _ _ _ _ (by omega)]
    have G1 : ∀ c k, 34 ≤ c → c ≤ 53 → hup (hup (hcp (hup g2 0 0 0) 142 (440 * (j + 1)) 142 0 440) 141 50 (j : Int)) 141 1 0 c k = g2 c k := by
      intro c k c1 c2
      rw [hup_n _ _ _ _ _ _ (by omega), hup_n _ _ _ _ _ _ (by omega), hcp_n _ _ _ _ _ _ _ _ (by omega), hup_n _ _ _ _ _ _ (by omega)]
    have G2 : ∀ k, k < 440 → hup (hup (hcp (hup g2 0 0 0) 142 (440 * (j + 1)) 142 0 440) 141 50 (j : Int)) 141 1 0 142 (0 + k) = h 142 (440 * (j + 1) + k) := by
      intro k hk
      rw [hup_n _ _ _ _ _ _ (by omega), hup_n _ _ _ _ _ _ (by omega), hcp_y _ _ _ _ _ _ _ _ (by omega), hup_n _ _ _ _ _ _ (by omega), y4 _ _ (by omega), x3 _ _ (by omega), hup_n _ _ _ _ _ _ (by omega), show 0 + k - 0 = k by omega]
    have A1 : hup (hup (hcp (hup g2 0 0 0) 142 (440 * (j + 1)) 142 0 440) 141 50 (j : Int)) 141 1 0 0 0 = 0 := by
      rw [hup_n _ _ _ _ _ _ (by omega), hup_n _ _ _ _ _ _ (by omega), hcp_n _ _ _ _ _ _ _ _ (by omega), hup_s]
    have A2 : hup (hup (hcp (hup g2 0 0 0) 142 (440 * (j + 1)) 142 0 440) 141 50 (j : Int)) 141 1 0 0 13 = (j : Int) := by
      rw [hup_n _ _ _ _ _ _ (by omega), hup_n _ _ _ _ _ _ (by omega), hcp_n _ _ _ _ _ _ _ _ (by omega), hup_n _ _ _ _ _ _ (by omega)]; exact z2
    have A3 : hup (hup (hcp (hup g2 0 0 0) 142 (440 * (j + 1)) 142 0 440) 141 50 (j : Int)) 141 1 0 141 50 = (j : Int) := by
      rw [hup_n _ _ _ _ _ _ (by omega), hup_s]
    have A4 : hup (hup (hcp (hup g2 0 0 0) 142 (440 * (j + 1)) 142 0 440) 141 50 (j : Int)) 141 1 0 141 1 = 0 := by
      rw [hup_s]
    generalize hup (hup (hcp (hup g2 0 0 0) 142 (440 * (j + 1)) 142 0 440) 141 50 (j : Int)) 141 1 0 = g at *
    obtain ⟨s1, s2⟩ := p2 j (by omega)
    have hz : ∀ c k, c ≠ 0 → hup h 0 13 (j : Int) c k = h c k := fun c k hc => hup_c _ _ _ _ _ _ hc
    refine ⟨by first | trivial | omega, by omega, RR_mono _ _ (RR_456 (h := h) ?_ ?_ ?_ ?_ ?_ r)⟩
    · intro c k q
      obtain ⟨q1, q2, q3, q4⟩ := q
      have q5 : ¬ (c = 0 ∧ k = 0) ∧ ¬ (c = 141 ∧ k = 1) := by
        unfold Zall Z2 Z3 Zp Zs Z6 Z7 Z8 Z9 Z10 Z11 Z12 at q1
        omega
      unfold Zp at q2
      unfold Zs at q3
      unfold Z6 at q4
      exact G c k (by omega) (by omega) (by omega) (by omega)
    · obtain ⟨⟨-, t2, t3⟩, -⟩ := r
      unfold R1
      rw [A1, A4, G 0 1 (by omega) (by omega) (by omega) (by omega), G 0 2 (by omega) (by omega) (by omega) (by omega), G 141 2 (by omega) (by omega) (by omega) (by omega), G 141 3 (by omega) (by omega) (by omega) (by omega)]
      exact ⟨⟨by omega, by omega, rfl⟩, t2, t3⟩
    · refine PR_move (p := 81 + 20 * j) (b := 440 * (j + 1)) (h := h) (fun d k hl => ?_) (fun k hk _ => G2 k (by omega)) s1
      have hd : d ≤ 14 := by unfold plim at hl; omega
      rw [G1 _ _ (by omega) (by omega), y4 _ _ (by omega), x2 d k hl, hz _ _ (by omega)]
    · refine SR_move (q := 96 + 20 * j) (b := 440 * (j + 1)) (h := h) ?_ (fun d k d1 d2 hk => ?_) G2 s2
      · rw [G1 _ _ (by omega) (by omega), y2, x3 _ _ (by omega), hz _ _ (by omega)]
      · rw [G1 _ _ (by omega) (by omega), y3 d k d1 d2 hk, x3 _ _ (by omega), hz _ _ (by omega)]
    · unfold R6
      rw [A2, A3]
      refine ⟨⟨by omega, by omega, rfl⟩, fun i hi => ?_⟩
      obtain ⟨s1, s2⟩ := p2 i (by omega)
      refine ⟨PR_f (h := h) (fun c k q => ?_) s1, SR_f (h := h) (fun c k q => ?_) s2⟩
      · unfold Zp at q
        exact G c k (by omega) (by omega) (by omega) (by omega)
      · unfold Zs at q
        exact G c k (by omega) (by omega) (by omega) (by omega)
  · simp only [F_X11_back, F_X11_back_0, F_X11_answer, F_X11_answer_0, F_X11_none, F_X11_none_0]
    ((try simp only [hup_s, hup_c, hup_k, ne_eq, Nat.reduceEqDiff, not_false_eq_true]); repeat' (first | (with_reducible refine ev_ck ?_ ?_; first | omega | trivial) | with_reducible refine ev_bind ?_ | (with_reducible refine ev_nx ?_; first | simp only [hup_s, hup_c, hup_k, ne_eq, Nat.reduceEqDiff, not_false_eq_true] | dsimp only | skip) | (with_reducible refine ev_some ?_; first | simp only [hup_s, hup_c, hup_k, ne_eq, Nat.reduceEqDiff, not_false_eq_true] | dsimp only | skip) | (with_reducible refine ev_it ?_ ?_; first | omega | trivial) | (with_reducible refine ev_ie ?_ ?_; first | omega | trivial) | with_reducible refine ev_if (fun _ => ?_) (fun _ => ?_)))
    simp only [F_X12_back, F_X12_back_0, F_X12_gives, F_X12_gives_0, F_X12_refuse, F_X12_refuse_0]
    ((try simp only [hup_s, hup_c, hup_k, ne_eq, Nat.reduceEqDiff, not_false_eq_true]); repeat' (first | (with_reducible refine ev_ck ?_ ?_; first | omega | trivial) | with_reducible refine ev_bind ?_ | (with_reducible refine ev_nx ?_; first | simp only [hup_s, hup_c, hup_k, ne_eq, Nat.reduceEqDiff, not_false_eq_true] | dsimp only | skip) | (with_reducible refine ev_some ?_; first | simp only [hup_s, hup_c, hup_k, ne_eq, Nat.reduceEqDiff, not_false_eq_true] | dsimp only | skip) | (with_reducible refine ev_it ?_ ?_; first | omega | trivial) | (with_reducible refine ev_ie ?_ ?_; first | omega | trivial) | with_reducible refine ev_if (fun _ => ?_) (fun _ => ?_)))
    (first | (exfalso; omega) | (refine ⟨?_, ?_, RR_st (by omega) r⟩ <;> first | trivial | omega))
