theorem o_shifts : Ob_shifts RR := by
  intro n h a1 a2 a3 hn r i1 i2 i3
  refine ob_ev ?_
  have r2 := r.2.1
  have e1 : ∀ v : Int, ∀ k, hup h 0 0 v 144 k = h 144 k := fun v k => by rw [hup_c _ _ _ _ _ _ (by decide)]
  have e2 : ∀ v : Int, ∀ k, hup h 0 0 v 145 k = h 145 k := fun v k => by rw [hup_c _ _ _ _ _ _ (by decide)]
  by_cases c0 : 1 ≤ a2 ∧ a2 ≤ 8 ∧ 1 ≤ a3 ∧ a3 ≤ 999
  rotate_left
  · simp only [F_X11_shifts, F_X11_shifts_0, F_X11_isTray, F_X11_isTray_0, F_X11_shifts_31, F_X11_none, F_X11_none_0, F_X11_outside, F_X11_outside_0, F_X11_answer, F_X11_answer_0]
    ((try simp only [hup_s, hup_c, hup_k, ne_eq, Nat.reduceEqDiff, not_false_eq_true]); repeat' (first | (with_reducible refine ev_ck ?_ ?_; first | omega | trivial) | with_reducible refine ev_bind ?_ | (with_reducible refine ev_nx ?_; first | simp only [hup_s, hup_c, hup_k, ne_eq, Nat.reduceEqDiff, not_false_eq_true] | dsimp only | skip) | (with_reducible refine ev_some ?_; first | simp only [hup_s, hup_c, hup_k, ne_eq, Nat.reduceEqDiff, not_false_eq_true] | dsimp only | skip) | (with_reducible refine ev_it ?_ ?_; first | omega | trivial) | (with_reducible refine ev_ie ?_ ?_; first | omega | trivial) | with_reducible refine ev_if (fun _ => ?_) (fun _ => ?_)))
    all_goals (try (exfalso; omega))
    all_goals simp only [F_X12_shifts, F_X12_shifts_0, F_X12_isFrom, F_X12_isFrom_0, F_X12_shifts_29, F_X12_shifts_30, F_X12_wrongRow, F_X12_wrongRow_0, F_X12_isTray, F_X12_isTray_0, F_X12_refuse, F_X12_refuse_0]
    all_goals ((try simp only [hup_s, hup_c, hup_k, ne_eq, Nat.reduceEqDiff, not_false_eq_true]); repeat' (first | (with_reducible refine ev_ck ?_ ?_; first | omega | trivial) | with_reducible refine ev_bind ?_ | (with_reducible refine ev_nx ?_; first | simp only [hup_s, hup_c, hup_k, ne_eq, Nat.reduceEqDiff, not_false_eq_true] | dsimp only | skip) | (with_reducible refine ev_some ?_; first | simp only [hup_s, hup_c, hup_k, ne_eq, Nat.reduceEqDiff, not_false_eq_true] | dsimp only | skip) | (with_reducible refine ev_it ?_ ?_; first | omega | trivial) | (with_reducible refine ev_ie ?_ ?_; first | omega | trivial) | with_reducible refine ev_if (fun _ => ?_) (fun _ => ?_)))
    all_goals (try (exfalso; omega))
    all_goals (first | (exfalso; omega) | (refine ⟨?_, ?_, RR_st (by omega) r⟩ <;> first | trivial | omega))
  have wr : ∀ v : Int, _ := fun v => wrR (x1 := a1) (N := a2) (lo := 1) (hi := a3) (h := hup h 0 0 v) i1 i2 (by omega) (by omega) (by omega) (RR_row r v).1 (RR_row r v).2
  by_cases c1 : 0 ≤ a1 ∧ a1 < 4
  rotate_left
  · obtain ⟨b, b0, b1, b2, b3, b4, b5⟩ := wr 1
    have : b = 1 := b1.mpr c1
    subst this
    simp only [F_X11_shifts, F_X11_shifts_0, F_X11_isTray, F_X11_isTray_0, F_X11_shifts_31, F_X11_none, F_X11_none_0, F_X11_outside, F_X11_outside_0, F_X11_answer, F_X11_answer_0]
    ((try simp only [hup_s, hup_c, hup_k, ne_eq, Nat.reduceEqDiff, not_false_eq_true]); repeat' (first | (with_reducible refine ev_ck ?_ ?_; first | omega | trivial) | with_reducible refine ev_bind ?_ | (with_reducible refine ev_nx ?_; first | simp only [hup_s, hup_c, hup_k, ne_eq, Nat.reduceEqDiff, not_false_eq_true] | dsimp only | skip) | (with_reducible refine ev_some ?_; first | simp only [hup_s, hup_c, hup_k, ne_eq, Nat.reduceEqDiff, not_false_eq_true] | dsimp only | skip) | (with_reducible refine ev_it ?_ ?_; first | omega | trivial) | (with_reducible refine ev_ie ?_ ?_; first | omega | trivial) | with_reducible refine ev_if (fun _ => ?_) (fun _ => ?_)))
    all_goals (try (exfalso; omega))
    all_goals simp only [F_X12_shifts, F_X12_shifts_0, F_X12_isFrom, F_X12_isFrom_0, F_X12_shifts_29, F_X12_shifts_30, F_X12_refuse, F_X12_refuse_0]
    all_goals ((try simp only [hup_s, hup_c, hup_k, ne_eq, Nat.reduceEqDiff, not_false_eq_true]); repeat' (first | (with_reducible refine ev_ck ?_ ?_; first | omega | trivial) | with_reducible refine ev_bind ?_ | (with_reducible refine ev_nx ?_; first | simp only [hup_s, hup_c, hup_k, ne_eq, Nat.reduceEqDiff, not_false_eq_true] | dsimp only | skip) | (with_reducible refine ev_some ?_; first | simp only [hup_s, hup_c, hup_k, ne_eq, Nat.reduceEqDiff, not_false_eq_true] | dsimp only | skip) | (with_reducible refine ev_it ?_ ?_; first | omega | trivial) | (with_reducible refine ev_ie ?_ ?_; first | omega | trivial) | with_reducible refine ev_if (fun _ => ?_) (fun _ => ?_) | rw [b0]))
    all_goals (try (exfalso; omega))
    all_goals (first | (exfalso; omega) | (refine ⟨?_, ?_, RR_st (by omega) r⟩ <;> first | trivial | omega))
  obtain ⟨t, e⟩ : ∃ t : Nat, a1 = t := ⟨a1.toNat, by omega⟩
  subst e
  obtain ⟨q1, q2, q3⟩ := r2 t (by omega)
  simp only [Int.toNat_natCast, e1, e2] at wr
  by_cases c2 : h 7 t = -1
  · obtain ⟨b, b0, b1, b2, b3, b4, b5⟩ := wr 2
    have : b = 2 := b2.mpr ⟨c1, by omega⟩
    subst this
    simp only [F_X11_shifts, F_X11_shifts_0, F_X11_isTray, F_X11_isTray_0, F_X11_shifts_31, F_X11_none, F_X11_none_0, F_X11_outside, F_X11_outside_0, F_X11_rowLack, F_X11_rowLack_0, F_X11_answer, F_X11_answer_0]
    simp only [Int.toNat_natCast]
    ((try simp only [hup_s, hup_c, hup_k, ne_eq, Nat.reduceEqDiff, not_false_eq_true]); repeat' (first | (with_reducible refine ev_ck ?_ ?_; first | omega | trivial) | with_reducible refine ev_bind ?_ | (with_reducible refine ev_nx ?_; first | simp only [hup_s, hup_c, hup_k, ne_eq, Nat.reduceEqDiff, not_false_eq_true] | dsimp only | skip) | (with_reducible refine ev_some ?_; first | simp only [hup_s, hup_c, hup_k, ne_eq, Nat.reduceEqDiff, not_false_eq_true] | dsimp only | skip) | (with_reducible refine ev_it ?_ ?_; first | omega | trivial) | (with_reducible refine ev_ie ?_ ?_; first | omega | trivial) | with_reducible refine ev_if (fun _ => ?_) (fun _ => ?_)))
    simp only [F_X12_shifts, F_X12_shifts_0, F_X12_isFrom, F_X12_isFrom_0, F_X12_shifts_29, F_X12_shifts_30, F_X12_refuse, F_X12_refuse_0]
    ((try simp only [hup_s, hup_c, hup_k, ne_eq, Nat.reduceEqDiff, not_false_eq_true]); repeat' (first | (with_reducible refine ev_ck ?_ ?_; first | omega | trivial) | with_reducible refine ev_bind ?_ | (with_reducible refine ev_nx ?_; first | simp only [hup_s, hup_c, hup_k, ne_eq, Nat.reduceEqDiff, not_false_eq_true] | dsimp only | skip) | (with_reducible refine ev_some ?_; first | simp only [hup_s, hup_c, hup_k, ne_eq, Nat.reduceEqDiff, not_false_eq_true] | dsimp only | skip) | (with_reducible refine ev_it ?_ ?_; first | omega | trivial) | (with_reducible refine ev_ie ?_ ?_; first | omega | trivial) | with_reducible refine ev_if (fun _ => ?_) (fun _ => ?_) | rw [b0]))
    (first | (exfalso; omega) | (refine ⟨?_, ?_, RR_st (by omega) r⟩ <;> first | trivial | omega))
  by_cases c3 : a2 ≤ h 7 t
  rotate_left
  · obtain ⟨b, b0, b1, b2, b3, b4, b5⟩ := wr 3
    have : b = 3 := b3.mpr ⟨c1, by omega, by omega⟩
    subst this
    simp only [F_X11_shifts, F_X11_shifts_0, F_X11_isTray, F_X11_isTray_0, F_X11_shifts_31, F_X11_none, F_X11_none_0, F_X11_outside, F_X11_outside_0, F_X11_rowLack, F_X11_rowLack_0, F_X11_answer, F_X11_answer_0]
    simp only [Int.toNat_natCast]
    ((try simp only [hup_s, hup_c, hup_k, ne_eq, Nat.reduceEqDiff, not_false_eq_true]); repeat' (first | (with_reducible refine ev_ck ?_ ?_; first | omega | trivial) | with_reducible refine ev_bind ?_ | (with_reducible refine ev_nx ?_; first | simp only [hup_s, hup_c, hup_k, ne_eq, Nat.reduceEqDiff, not_false_eq_true] | dsimp only | skip) | (with_reducible refine ev_some ?_; first | simp only [hup_s, hup_c, hup_k, ne_eq, Nat.reduceEqDiff, not_false_eq_true] | dsimp only | skip) | (with_reducible refine ev_it ?_ ?_; first | omega | trivial) | (with_reducible refine ev_ie ?_ ?_; first | omega | trivial) | with_reducible refine ev_if (fun _ => ?_) (fun _ => ?_)))
    simp only [F_X12_shifts, F_X12_shifts_0, F_X12_isFrom, F_X12_isFrom_0, F_X12_shifts_29, F_X12_shifts_30, F_X12_refuse, F_X12_refuse_0]
    ((try simp only [hup_s, hup_c, hup_k, ne_eq, Nat.reduceEqDiff, not_false_eq_true]); repeat' (first | (with_reducible refine ev_ck ?_ ?_; first | omega | trivial) | with_reducible refine ev_bind ?_ | (with_reducible refine ev_nx ?_; first | simp only [hup_s, hup_c, hup_k, ne_eq, Nat.reduceEqDiff, not_false_eq_true] | dsimp only | skip) | (with_reducible refine ev_some ?_; first | simp only [hup_s, hup_c, hup_k, ne_eq, Nat.reduceEqDiff, not_false_eq_true] | dsimp only | skip) | (with_reducible refine ev_it ?_ ?_; first | omega | trivial) | (with_reducible refine ev_ie ?_ ?_; first | omega | trivial) | with_reducible refine ev_if (fun _ => ?_) (fun _ => ?_) | rw [b0]))
    (first | (exfalso; omega) | (refine ⟨?_, ?_, RR_st (by omega) r⟩ <;> first | trivial | omega))
  obtain ⟨N, eN⟩ : ∃ N : Nat, a2 = N := ⟨a2.toNat, by omega⟩
  subst eN
  obtain ⟨x, x1, x2, x3⟩ := allW (c := 2 + t) (N := N) (lo := 1) (hi := a3) (h := h) (by omega) (by omega) (by omega) (fun k hk => (q3 k (by omega)).1)
  by_cases c4 : x = 1
  rotate_left
  · have c5 : x = 0 := by omega
    subst c5
    obtain ⟨b, b0, b1, b2, b3, b4, b5⟩ := wr 5
    have : b = 5 := by
      have z : ¬ b = 0 := fun w => c4 (x3.mpr (fun k hk => by have u := (b4.mp w).2.2.2 k (by omega); rw [(q3 k (by omega)).2] at u; exact u))
      omega
    subst this
    simp only [F_X11_shifts, F_X11_shifts_0, F_X11_isTray, F_X11_isTray_0, F_X11_shifts_31, F_X11_none, F_X11_none_0, F_X11_outside, F_X11_outside_0, F_X11_rowLack, F_X11_rowLack_0, F_X11_answer, F_X11_answer_0]
    simp only [Int.toNat_natCast]
    ((try simp only [hup_s, hup_c, hup_k, ne_eq, Nat.reduceEqDiff, not_false_eq_true]); repeat' (first | (with_reducible refine ev_ck ?_ ?_; first | omega | trivial) | with_reducible refine ev_bind ?_ | (with_reducible refine ev_nx ?_; first | simp only [hup_s, hup_c, hup_k, ne_eq, Nat.reduceEqDiff, not_false_eq_true] | dsimp only | skip) | (with_reducible refine ev_some ?_; first | simp only [hup_s, hup_c, hup_k, ne_eq, Nat.reduceEqDiff, not_false_eq_true] | dsimp only | skip) | (with_reducible refine ev_it ?_ ?_; first | omega | trivial) | (with_reducible refine ev_ie ?_ ?_; first | omega | trivial) | with_reducible refine ev_if (fun _ => ?_) (fun _ => ?_) | rw [x2]))
    simp only [F_X12_shifts, F_X12_shifts_0, F_X12_isFrom, F_X12_isFrom_0, F_X12_shifts_29, F_X12_shifts_30, F_X12_refuse, F_X12_refuse_0]
    ((try simp only [hup_s, hup_c, hup_k, ne_eq, Nat.reduceEqDiff, not_false_eq_true]); repeat' (first | (with_reducible refine ev_ck ?_ ?_; first | omega | trivial) | with_reducible refine ev_bind ?_ | (with_reducible refine ev_nx ?_; first | simp only [hup_s, hup_c, hup_k, ne_eq, Nat.reduceEqDiff, not_false_eq_true] | dsimp only | skip) | (with_reducible refine ev_some ?_; first | simp only [hup_s, hup_c, hup_k, ne_eq, Nat.reduceEqDiff, not_false_eq_true] | dsimp only | skip) | (with_reducible refine ev_it ?_ ?_; first | omega | trivial) | (with_reducible refine ev_ie ?_ ?_; first | omega | trivial) | with_reducible refine ev_if (fun _ => ?_) (fun _ => ?_) | rw [b0]))
    (first | (exfalso; omega) | (refine ⟨?_, ?_, RR_st (by omega) r⟩ <;> first | trivial | omega))
  subst c4
  have x3' := x3.mp rfl
  obtain ⟨b, b0, b1, b2, b3, b4, b5⟩ := wr 0
  have : b = 0 := b4.mpr ⟨c1, by omega, by omega, fun k hk => by rw [(q3 k (by omega)).2]; exact x3' k (by omega)⟩
  subst this
  generalize hh : hfl (hup h 78 1 (N : Int)) 80 8 0 = h1
  have f1 : ∀ c k, ¬ (c = 78 ∧ k = 1) → c ≠ 80 → h1 c k = h c k := fun c k w1 w2 => by rw [← hh, hfl_n _ _ _ _ _ _ (by omega), hup_n _ _ _ _ _ _ (by omega)]
  have k78 : h1 78 1 = (N : Int) := by rw [← hh, hfl_n _ _ _ _ _ _ (by omega), hup_s]
  have S : SC (2 + t) N a3 (h (2 + t)) 0 0 h1 := by
    refine ⟨k78, fun k hk => f1 _ _ (by omega) (by omega), fun j hj => ?_, by rw [mxp]; rfl, fun j _ hj => ?_, by omega, fun k hk => absurd hk (by omega)⟩
    · rw [← hh, hfl_y _ _ _ _ _ _ (by omega)]; omega
    · rw [← hh, hfl_y _ _ _ _ _ _ (by omega)]
  obtain ⟨y, h2, p1, p2, p3, p4, p5⟩ := pack_l (c := 2 + t) (t := t) (N := N) (L := a3) (W := h (2 + t)) (by omega) (by omega) (by omega) (by omega) (fun k hk => x3' k hk) (N - 1) 20000 20000 1 h1 (by omega) (by omega) (by omega) (by omega) S
  rw [show ((1 : Nat) : Int) = 1 from rfl] at p1
  have y1 : F_X4_pack (2 + t) (N : Int) a3 h = some ((y : Int), h2) := by
    unfold F_X4_pack F_X4_pack_0
    rw [nx_eq, fillL (show 8 < 10000 by omega), bind_eq, hh]
    exact p1
  have k2 : ∀ c k, ¬ (c = 78 ∧ k = 1) → c ≠ 79 → c ≠ 80 → h2 c k = h c k := fun c k w1 w2 w3 => by rw [p3 c k w2 w3, f1 c k w1 w3]
  obtain ⟨G', g1, g2, g3⟩ := p5 (hup h2 0 0 0) (fun k hk => by rw [hup_n _ _ _ _ _ _ (by omega), k2 _ _ (by omega) (by omega) (by omega)]; exact (q3 k (by omega)).2)
  rw [show ((1 : Nat) : Int) = 1 from rfl] at g1
  have b0' : F_X12_wrongRow 1 (t : Int) (N : Int) 1 a3 (hup h2 0 0 0) = some (0, hup h2 0 0 0) := by
    obtain ⟨b', d0, d1, d2, d3, d4, d5⟩ := wrR (x1 := (t : Int)) (N := (N : Int)) (lo := 1) (hi := a3) (h := hup h2 0 0 0) i1 i2 (by omega) (by omega) (by omega) (fun t ht => by
      rw [hup_n _ _ _ _ _ _ (by omega), k2 _ _ (by omega) (by omega) (by omega)]; have := (r2 t ht).2.1; omega) (fun t k ht hk => by
      rw [hup_n _ _ _ _ _ _ (by omega), k2 _ _ (by omega) (by omega) (by omega)] at hk ⊢
      have z := r2 t ht
      rw [(z.2.2 k (by omega)).2]; exact (z.2.2 k (by omega)).1)
    have : b' = 0 := d4.mpr ⟨c1, by rw [Int.toNat_natCast, hup_n _ _ _ _ _ _ (by omega), k2 _ _ (by omega) (by omega) (by omega)]; omega, by rw [Int.toNat_natCast, hup_n _ _ _ _ _ _ (by omega), k2 _ _ (by omega) (by omega) (by omega)]; omega, fun k hk => by rw [Int.toNat_natCast, hup_n _ _ _ _ _ _ (by omega), k2 _ _ (by omega) (by omega) (by omega), (q3 k (by omega)).2]; exact x3' k (by omega)⟩
    rw [this] at d0
    exact d0
  simp only [F_X11_shifts, F_X11_shifts_0, F_X11_isTray, F_X11_isTray_0, F_X11_shifts_31, F_X11_none, F_X11_none_0, F_X11_outside, F_X11_outside_0, F_X11_rowLack, F_X11_rowLack_0, F_X11_answer, F_X11_answer_0]
  simp only [Int.toNat_natCast]
  ((try simp only [hup_s, hup_c, hup_k, ne_eq, Nat.reduceEqDiff, not_false_eq_true]); repeat' (first | (with_reducible refine ev_ck ?_ ?_; first | omega | trivial) | with_reducible refine ev_bind ?_ | (with_reducible refine ev_nx ?_; first | simp only [hup_s, hup_c, hup_k, ne_eq, Nat.reduceEqDiff, not_false_eq_true] | dsimp only | skip) | (with_reducible refine ev_some ?_; first | simp only [hup_s, hup_c, hup_k, ne_eq, Nat.reduceEqDiff, not_false_eq_true] | dsimp only | skip) | (with_reducible refine ev_it ?_ ?_; first | omega | trivial) | (with_reducible refine ev_ie ?_ ?_; first | omega | trivial) | with_reducible refine ev_if (fun _ => ?_) (fun _ => ?_) | rw [x2] | rw [y1]))
  simp only [F_X12_shifts, F_X12_shifts_0, F_X12_isFrom, F_X12_isFrom_0, F_X12_shifts_29, F_X12_shifts_30, F_X12_refuse, F_X12_refuse_0]
  ((try simp only [hup_s, hup_c, hup_k, ne_eq, Nat.reduceEqDiff, not_false_eq_true]); repeat' (first | (with_reducible refine ev_ck ?_ ?_; first | omega | trivial) | with_reducible refine ev_bind ?_ | (with_reducible refine ev_nx ?_; first | simp only [hup_s, hup_c, hup_k, ne_eq, Nat.reduceEqDiff, not_false_eq_true] | dsimp only | skip) | (with_reducible refine ev_some ?_; first | simp only [hup_s, hup_c, hup_k, ne_eq, Nat.reduceEqDiff, not_false_eq_true] | dsimp only | skip) | (with_reducible refine ev_it ?_ ?_; first | omega | trivial) | (with_reducible refine ev_ie ?_ ?_; first | omega | trivial) | with_reducible refine ev_if (fun _ => ?_) (fun _ => ?_) | rw [b0'] | rw [g1]))
  have V : ∀ c k, ¬ (c = 78 ∧ k = 1) → c ≠ 79 → c ≠ 80 → ¬ (c = 141 ∧ (k = 1 ∨ k = 49)) → ¬ (c = 0 ∧ k = 0) → c ≠ 163 → c ≠ 164 → c ≠ 165 → hup (hup G' 141 49 (N : Int)) 141 1 0 c k = h c k := fun c k w1 w2 w3 w4 w5 w6 w7 w8 => by
    rw [hup_n _ _ _ _ _ _ (by omega), hup_n _ _ _ _ _ _ (by omega), g3 c k w6 w7 w8, hup_n _ _ _ _ _ _ w5, k2 c k w1 w2 w3]
  have U : ∀ c k, c < 100 → ¬ (c = 0 ∧ k = 0) → hup (hup G' 141 49 (N : Int)) 141 1 0 c k = h2 c k := fun c k w1 w2 => by
    rw [hup_n _ _ _ _ _ _ (by omega), hup_n _ _ _ _ _ _ (by omega), g3 c k (by omega) (by omega) (by omega), hup_n _ _ _ _ _ _ w2]
  have u0 : hup (hup G' 141 49 (N : Int)) 141 1 0 0 0 = 0 := by rw [hup_n _ _ _ _ _ _ (by omega), hup_n _ _ _ _ _ _ (by omega), g3 0 0 (by omega) (by omega) (by omega), hup_s]
  have u1 : hup (hup G' 141 49 (N : Int)) 141 1 0 141 1 = 0 := hup_s _ _ _ _
  have u49 : hup (hup G' 141 49 (N : Int)) 141 1 0 141 49 = (N : Int) := by rw [hup_n _ _ _ _ _ _ (by omega), hup_s]
  have u164 : ∀ k, k < N → hup (hup G' 141 49 (N : Int)) 141 1 0 164 k = h2 79 k := fun k hk => by rw [hup_n _ _ _ _ _ _ (by omega), hup_n _ _ _ _ _ _ (by omega), g2 k hk]
  have u78 : hup (hup G' 141 49 (N : Int)) 141 1 0 78 1 = (N : Int) := by rw [U 78 1 (by omega) (by omega), p3 78 1 (by omega) (by omega)]; exact k78
  generalize hup (hup G' 141 49 (N : Int)) 141 1 0 = g at *
  refine ⟨by first | trivial | omega, by omega, RR_11 (h := h) ?_ ?_ ?_ (RR_mono _ _ r)⟩
  · intro c k q
    obtain ⟨q, qq⟩ := q
    unfold Zall Z2 Z3 Zp Zs Z6 Z7 Z8 Z9 Z10 Z11 Z12 at q
    unfold Z11 at qq
    exact V c k (by omega) (by omega) (by omega) (by omega) (by omega) (by omega) (by omega) (by omega)
  · obtain ⟨⟨-, s2, s3⟩, -⟩ := r
    unfold R1
    rw [u0, u1, V 0 1 (by omega) (by omega) (by omega) (by omega) (by omega) (by omega) (by omega) (by omega), V 0 2 (by omega) (by omega) (by omega) (by omega) (by omega) (by omega) (by omega) (by omega), V 141 2 (by omega) (by omega) (by omega) (by omega) (by omega) (by omega) (by omega) (by omega), V 141 3 (by omega) (by omega) (by omega) (by omega) (by omega) (by omega) (by omega) (by omega)]
    exact ⟨⟨by omega, by omega, rfl⟩, s2, s3⟩
  · unfold R11
    rw [u78, u49]
    refine ⟨⟨by omega, by omega, rfl⟩, fun k hk => ?_⟩
    rw [U 79 k (by omega) (by omega), u164 k (by omega)]
    have := p4 k (by omega)
    exact ⟨by omega, by omega, rfl⟩
