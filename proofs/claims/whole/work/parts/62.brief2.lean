theorem RR_marks {n X : Nat} {h g : MH} (hX : X ≤ 10200) (r : RR n h) (w : ∀ i u, ¬ (i = 160 ∧ u < 10200) → g i u = hup h 0 0 0 i u) (z : ∀ u, X ≤ u → u < 10200 → g 160 u = 0) : RR (n + 1) (hup (hfl g 160 X 0) 141 1 0) := by
  have G : ∀ c k, c ≠ 160 → ¬ (c = 141 ∧ k = 1) → ¬ (c = 0 ∧ k = 0) → hup (hfl g 160 X 0) 141 1 0 c k = h c k := fun c k q1 q2 q3 => by
    rw [hup_n _ _ _ _ _ _ q2, hfl_n _ _ _ _ _ _ (by omega), w c k (by omega), hup_n _ _ _ _ _ _ q3]
  have Z : ∀ k, k < 10200 → hup (hfl g 160 X 0) 141 1 0 160 k = 0 := fun k hk => by
    rw [hup_n _ _ _ _ _ _ (by omega)]
    by_cases q : k < X
    · rw [hfl_y _ _ _ _ _ _ (by omega)]
    · rw [hfl_n _ _ _ _ _ _ (by omega)]; exact z k (by omega) hk
  refine RR_mono _ _ (RR_rest (h := h) ?_ ?_ r)
  · intro c k q
    by_cases e : c = 160
    · subst e
      have e12 := r.2.2.2.2.2.2.2.2.2.2.2
      unfold Zall Z2 Z3 Zp Zs Z6 Z7 Z8 Z9 Z10 Z11 Z12 at q
      by_cases q2 : k < 10200
      · rw [Z k q2]; exact (e12 k q2).symm
      · rw [hup_n _ _ _ _ _ _ (by omega), hfl_n _ _ _ _ _ _ (by omega), w 160 k (by omega), hup_n _ _ _ _ _ _ (by omega)]
    · unfold Zall Z2 Z3 Zp Zs Z6 Z7 Z8 Z9 Z10 Z11 Z12 at q
      exact G c k e (by omega) (by omega)
  · obtain ⟨⟨-, s2, s3⟩, -⟩ := r
    unfold R1
    rw [hup_s, hup_n (hfl g 160 X 0) _ _ _ 0 0 (by omega), hfl_n _ _ _ _ _ _ (by omega), w 0 0 (by omega), hup_s, G 0 1 (by omega) (by omega) (by omega), G 0 2 (by omega) (by omega) (by omega), G 141 2 (by omega) (by omega) (by omega), G 141 3 (by omega) (by omega) (by omega)]
    exact ⟨⟨by omega, by omega, rfl⟩, s2, s3⟩
theorem o_brief : Ob_brief RR := by
  intro n h a1 a2 a3 a4 a5 hn r i1 i2 i3 i4 i5
  refine ob_ev ?_
  have r2 := r.2.1
  have e1 : ∀ v : Int, ∀ k, hup h 0 0 v 144 k = h 144 k := fun v k => by rw [hup_c _ _ _ _ _ _ (by decide)]
  have e2 : ∀ v : Int, ∀ k, hup h 0 0 v 145 k = h 145 k := fun v k => by rw [hup_c _ _ _ _ _ _ (by decide)]
  by_cases c0 : 1 ≤ a2 ∧ a2 ≤ 60 ∧ 1 ≤ a3 ∧ a3 ≤ 99 ∧ a4 ≤ a5
  rotate_left
  · simp only [F_X11_brief, F_X11_brief_0, F_X11_isTray, F_X11_isTray_0, F_X11_brief_38, F_X11_none, F_X11_none_0, F_X11_outside, F_X11_outside_0, F_X11_answer, F_X11_answer_0]
    ((try simp only [hup_s, hup_c, hup_k, ne_eq, Nat.reduceEqDiff, not_false_eq_true]); repeat' (first | (with_reducible refine ev_ck ?_ ?_; first | omega | trivial) | with_reducible refine ev_bind ?_ | (with_reducible refine ev_nx ?_; first | simp only [hup_s, hup_c, hup_k, ne_eq, Nat.reduceEqDiff, not_false_eq_true] | dsimp only | skip) | (with_reducible refine ev_some ?_; first | simp only [hup_s, hup_c, hup_k, ne_eq, Nat.reduceEqDiff, not_false_eq_true] | dsimp only | skip) | (with_reducible refine ev_it ?_ ?_; first | omega | trivial) | (with_reducible refine ev_ie ?_ ?_; first | omega | trivial) | with_reducible refine ev_if (fun _ => ?_) (fun _ => ?_)))
    all_goals (try (exfalso; omega))
    all_goals simp only [F_X12_brief, F_X12_brief_0, F_X12_isFrom, F_X12_isFrom_0, F_X12_brief_36, F_X12_brief_37, F_X12_wrongRow, F_X12_wrongRow_0, F_X12_isTray, F_X12_isTray_0, F_X12_refuse, F_X12_refuse_0]
    all_goals ((try simp only [hup_s, hup_c, hup_k, ne_eq, Nat.reduceEqDiff, not_false_eq_true]); repeat' (first | (with_reducible refine ev_ck ?_ ?_; first | omega | trivial) | with_reducible refine ev_bind ?_ | (with_reducible refine ev_nx ?_; first | simp only [hup_s, hup_c, hup_k, ne_eq, Nat.reduceEqDiff, not_false_eq_true] | dsimp only | skip) | (with_reducible refine ev_some ?_; first | simp only [hup_s, hup_c, hup_k, ne_eq, Nat.reduceEqDiff, not_false_eq_true] | dsimp only | skip) | (with_reducible refine ev_it ?_ ?_; first | omega | trivial) | (with_reducible refine ev_ie ?_ ?_; first | omega | trivial) | with_reducible refine ev_if (fun _ => ?_) (fun _ => ?_)))
    all_goals (try (exfalso; omega))
    all_goals (first | (exfalso; omega) | (refine ⟨?_, ?_, RR_st (by omega) r⟩ <;> first | trivial | omega))
  have wr : ∀ v : Int, _ := fun v => wrR (x1 := a1) (N := a2) (lo := -999) (hi := 9999) (h := hup h 0 0 v) i1 i2 (by omega) (by omega) (by omega) (RR_row r v).1 (RR_row r v).2
  by_cases c1 : 0 ≤ a1 ∧ a1 < 4
  rotate_left
  · obtain ⟨b, b0, b1, b2, b3, b4, b5⟩ := wr 1
    have : b = 1 := b1.mpr c1
    subst this
    simp only [F_X11_brief, F_X11_brief_0, F_X11_isTray, F_X11_isTray_0, F_X11_brief_38, F_X11_none, F_X11_none_0, F_X11_outside, F_X11_outside_0, F_X11_answer, F_X11_answer_0]
    ((try simp only [hup_s, hup_c, hup_k, ne_eq, Nat.reduceEqDiff, not_false_eq_true]); repeat' (first | (with_reducible refine ev_ck ?_ ?_; first | omega | trivial) | with_reducible refine ev_bind ?_ | (with_reducible refine ev_nx ?_; first | simp only [hup_s, hup_c, hup_k, ne_eq, Nat.reduceEqDiff, not_false_eq_true] | dsimp only | skip) | (with_reducible refine ev_some ?_; first | simp only [hup_s, hup_c, hup_k, ne_eq, Nat.reduceEqDiff, not_false_eq_true] | dsimp only | skip) | (with_reducible refine ev_it ?_ ?_; first | omega | trivial) | (with_reducible refine ev_ie ?_ ?_; first | omega | trivial) | with_reducible refine ev_if (fun _ => ?_) (fun _ => ?_)))
    all_goals (try (exfalso; omega))
    all_goals simp only [F_X12_brief, F_X12_brief_0, F_X12_isFrom, F_X12_isFrom_0, F_X12_brief_36, F_X12_brief_37, F_X12_refuse, F_X12_refuse_0]
    all_goals ((try simp only [hup_s, hup_c, hup_k, ne_eq, Nat.reduceEqDiff, not_false_eq_true]); repeat' (first | (with_reducible refine ev_ck ?_ ?_; first | omega | trivial) | with_reducible refine ev_bind ?_ | (with_reducible refine ev_nx ?_; first | simp only [hup_s, hup_c, hup_k, ne_eq, Nat.reduceEqDiff, not_false_eq_true] | dsimp only | skip) | (with_reducible refine ev_some ?_; first | simp only [hup_s, hup_c, hup_k, ne_eq, Nat.reduceEqDiff, not_false_eq_true] | dsimp only | skip) | (with_reducible refine ev_it ?_ ?_; first | omega | trivial) | (with_reducible refine ev_ie ?_ ?_; first | omega | trivial) | with_reducible refine ev_if (fun _ => ?_) (fun _ => ?_) | rw [b0]))
    all_goals (try (exfalso; omega))
    all_goals (first | (exfalso; omega) | (refine ⟨?_, ?_, RR_st (by omega) r⟩ <;> first | trivial | omega))
  obtain ⟨t, e⟩ : ∃ t : Nat, a1 = t := ⟨a1.toNat, by omega⟩
  subst e
  obtain ⟨q1, q2, q3⟩ := r2 t (by omega)
  simp only [Int.toNat_natCast, e1, e2] at wr
  by_cases c2 : h 7 t = -1
  · obtain ⟨b, b0, b1, b2, b3, b4, b5⟩ := wr 2
    have : b = 2 := b2.mpr ⟨c1, by omega⟩
    subst this
    simp only [F_X11_brief, F_X11_brief_0, F_X11_isTray, F_X11_isTray_0, F_X11_brief_38, F_X11_none, F_X11_none_0, F_X11_outside, F_X11_outside_0, F_X11_rowLack, F_X11_rowLack_0, F_X11_answer, F_X11_answer_0]
    simp only [Int.toNat_natCast]
    ((try simp only [hup_s, hup_c, hup_k, ne_eq, Nat.reduceEqDiff, not_false_eq_true]); repeat' (first | (with_reducible refine ev_ck ?_ ?_; first | omega | trivial) | with_reducible refine ev_bind ?_ | (with_reducible refine ev_nx ?_; first | simp only [hup_s, hup_c, hup_k, ne_eq, Nat.reduceEqDiff, not_false_eq_true] | dsimp only | skip) | (with_reducible refine ev_some ?_; first | simp only [hup_s, hup_c, hup_k, ne_eq, Nat.reduceEqDiff, not_false_eq_true] | dsimp only | skip) | (with_reducible refine ev_it ?_ ?_; first | omega | trivial) | (with_reducible refine ev_ie ?_ ?_; first | omega | trivial) | with_reducible refine ev_if (fun _ => ?_) (fun _ => ?_)))
    simp only [F_X12_brief, F_X12_brief_0, F_X12_isFrom, F_X12_isFrom_0, F_X12_brief_36, F_X12_brief_37, F_X12_refuse, F_X12_refuse_0]
    ((try simp only [hup_s, hup_c, hup_k, ne_eq, Nat.reduceEqDiff, not_false_eq_true]); repeat' (first | (with_reducible refine ev_ck ?_ ?_; first | omega | trivial) | with_reducible refine ev_bind ?_ | (with_reducible refine ev_nx ?_; first | simp only [hup_s, hup_c, hup_k, ne_eq, Nat.reduceEqDiff, not_false_eq_true] | dsimp only | skip) | (with_reducible refine ev_some ?_; first | simp only [hup_s, hup_c, hup_k, ne_eq, Nat.reduceEqDiff, not_false_eq_true] | dsimp only | skip) | (with_reducible refine ev_it ?_ ?_; first | omega | trivial) | (with_reducible refine ev_ie ?_ ?_; first | omega | trivial) | with_reducible refine ev_if (fun _ => ?_) (fun _ => ?_) | rw [b0]))
    (first | (exfalso; omega) | (refine ⟨?_, ?_, RR_st (by omega) r⟩ <;> first | trivial | omega))
  by_cases c3 : a2 ≤ h 7 t
  rotate_left
  · obtain ⟨b, b0, b1, b2, b3, b4, b5⟩ := wr 3
    have : b = 3 := b3.mpr ⟨c1, by omega, by omega⟩
    subst this
    simp only [F_X11_brief, F_X11_brief_0, F_X11_isTray, F_X11_isTray_0, F_X11_brief_38, F_X11_none, F_X11_none_0, F_X11_outside, F_X11_outside_0, F_X11_rowLack, F_X11_rowLack_0, F_X11_answer, F_X11_answer_0]
    simp only [Int.toNat_natCast]
    ((try simp only [hup_s, hup_c, hup_k, ne_eq, Nat.reduceEqDiff, not_false_eq_true]); repeat' (first | (with_reducible refine ev_ck ?_ ?_; first | omega | trivial) | with_reducible refine ev_bind ?_ | (with_reducible refine ev_nx ?_; first | simp only [hup_s, hup_c, hup_k, ne_eq, Nat.reduceEqDiff, not_false_eq_true] | dsimp only | skip) | (with_reducible refine ev_some ?_; first | simp only [hup_s, hup_c, hup_k, ne_eq, Nat.reduceEqDiff, not_false_eq_true] | dsimp only | skip) | (with_reducible refine ev_it ?_ ?_; first | omega | trivial) | (with_reducible refine ev_ie ?_ ?_; first | omega | trivial) | with_reducible refine ev_if (fun _ => ?_) (fun _ => ?_)))
    simp only [F_X12_brief, F_X12_brief_0, F_X12_isFrom, F_X12_isFrom_0, F_X12_brief_36, F_X12_brief_37, F_X12_refuse, F_X12_refuse_0]
    ((try simp only [hup_s, hup_c, hup_k, ne_eq, Nat.reduceEqDiff, not_false_eq_true]); repeat' (first | (with_reducible refine ev_ck ?_ ?_; first | omega | trivial) | with_reducible refine ev_bind ?_ | (with_reducible refine ev_nx ?_; first | simp only [hup_s, hup_c, hup_k, ne_eq, Nat.reduceEqDiff, not_false_eq_true] | dsimp only | skip) | (with_reducible refine ev_some ?_; first | simp only [hup_s, hup_c, hup_k, ne_eq, Nat.reduceEqDiff, not_false_eq_true] | dsimp only | skip) | (with_reducible refine ev_it ?_ ?_; first | omega | trivial) | (with_reducible refine ev_ie ?_ ?_; first | omega | trivial) | with_reducible refine ev_if (fun _ => ?_) (fun _ => ?_) | rw [b0]))
    (first | (exfalso; omega) | (refine ⟨?_, ?_, RR_st (by omega) r⟩ <;> first | trivial | omega))
  obtain ⟨N, eN⟩ : ∃ N : Nat, a2 = N := ⟨a2.toNat, by omega⟩
  obtain ⟨nn, en⟩ : ∃ nn : Nat, a3 = nn := ⟨a3.toNat, by omega⟩
  subst eN en
  obtain ⟨x, x1, x2, x3⟩ := allW (c := 2 + t) (N := N) (lo := -999) (hi := 9999) (h := h) (by omega) (by omega) (by omega) (fun k hk => (q3 k (by omega)).1)
  by_cases c4 : x = 1
  rotate_left
  · have c5 : x = 0 := by omega
    subst c5
    obtain ⟨b, b0, b1, b2, b3, b4, b5⟩ := wr 5
    have : b = 5 := by
      have z : ¬ b = 0 := fun w => c4 (x3.mpr (fun k hk => by have u := (b4.mp w).2.2.2 k (by omega); rw [(q3 k (by omega)).2] at u; exact u))
      omega
    subst this
    simp only [F_X11_brief, F_X11_brief_0, F_X11_isTray, F_X11_isTray_0, F_X11_brief_38, F_X11_none, F_X11_none_0, F_X11_outside, F_X11_outside_0, F_X11_rowLack, F_X11_rowLack_0, F_X11_answer, F_X11_answer_0]
    simp only [Int.toNat_natCast]
    ((try simp only [hup_s, hup_c, hup_k, ne_eq, Nat.reduceEqDiff, not_false_eq_true]); repeat' (first | (with_reducible refine ev_ck ?_ ?_; first | omega | trivial) | with_reducible refine ev_bind ?_ | (with_reducible refine ev_nx ?_; first | simp only [hup_s, hup_c, hup_k, ne_eq, Nat.reduceEqDiff, not_false_eq_true] | dsimp only | skip) | (with_reducible refine ev_some ?_; first | simp only [hup_s, hup_c, hup_k, ne_eq, Nat.reduceEqDiff, not_false_eq_true] | dsimp only | skip) | (with_reducible refine ev_it ?_ ?_; first | omega | trivial) | (with_reducible refine ev_ie ?_ ?_; first | omega | trivial) | with_reducible refine ev_if (fun _ => ?_) (fun _ => ?_) | rw [x2]))
    simp only [F_X12_brief, F_X12_brief_0, F_X12_isFrom, F_X12_isFrom_0, F_X12_brief_36, F_X12_brief_37, F_X12_refuse, F_X12_refuse_0]
    ((try simp only [hup_s, hup_c, hup_k, ne_eq, Nat.reduceEqDiff, not_false_eq_true]); repeat' (first | (with_reducible refine ev_ck ?_ ?_; first | omega | trivial) | with_reducible refine ev_bind ?_ | (with_reducible refine ev_nx ?_; first | simp only [hup_s, hup_c, hup_k, ne_eq, Nat.reduceEqDiff, not_false_eq_true] | dsimp only | skip) | (with_reducible refine ev_some ?_; first | simp only [hup_s, hup_c, hup_k, ne_eq, Nat.reduceEqDiff, not_false_eq_true] | dsimp only | skip) | (with_reducible refine ev_it ?_ ?_; first | omega | trivial) | (with_reducible refine ev_ie ?_ ?_; first | omega | trivial) | with_reducible refine ev_if (fun _ => ?_) (fun _ => ?_) | rw [b0]))
    (first | (exfalso; omega) | (refine ⟨?_, ?_, RR_st (by omega) r⟩ <;> first | trivial | omega))
  subst c4
  have x3' := x3.mp rfl
  obtain ⟨b, b0, b1, b2, b3, b4, b5⟩ := wr 0
  have : b = 0 := b4.mpr ⟨c1, by omega, by omega, fun k hk => by rw [(q3 k (by omega)).2]; exact x3' k (by omega)⟩
  subst this
  have y1 := short_l (c := 2 + t) (N := N) (lo := a4) (hi := a5) (n := (nn : Int)) (h := h) (by omega) (by omega) (by omega) i4 i5 (fun k hk => (q3 k (by omega)).1) N 20000 0 0 0 0 (by omega) (by omega) (Or.inl ⟨rfl, Or.inl rfl, rfl, by rw [if_pos rfl]⟩)
  have y2 : F_X11_thrownForShort (2 + t) (N : Int) (nn : Int) a4 a5 h = some (bq a4 a5 nn (h (2 + t)) N, h) := by
    unfold F_X11_thrownForShort F_X11_thrownForShort_0
    exact y1
  have bb := bq_b (lo := a4) (hi := a5) (n := (nn : Int)) (W := h (2 + t)) (by omega) N
  have r12 := r.2.2.2.2.2.2.2.2.2.2.2
  obtain ⟨e', g', z1, z2, z3⟩ := bM (t := t) (N := N) (nn := nn) (lo := a4) (hi := a5) (x7 := ((N : Int) - 1) * nn) (W := h (2 + t)) (by omega) (by omega) (by omega) i4 i5 rfl N 20000 0 (hup h 0 0 0) (by omega) (by omega) (fun k hk => by
    rw [e2]; exact q3 k (by omega)) (fun v hv => by
    rw [hup_n _ _ _ _ _ _ (by omega), r12 v hv]
    exact ⟨Or.inl rfl, fun q => absurd q (by omega), fun k hk => absurd hk (by omega)⟩)
  have m1 : ((N : Int) - 1) * nn ≤ 59 * 99 := Int.mul_le_mul (by omega) (by omega) (by omega) (by omega)
  have m0 : 0 ≤ ((N : Int) - 1) * nn := Int.mul_nonneg (by omega) (by omega)
  have ex : ((N : Int) - 1) * nn = ((nn * (N - 1) : Nat) : Int) := by rw [Int.natCast_mul, Int.mul_comm, show ((N - 1 : Nat) : Int) = (N : Int) - 1 by omega]
  have cnt := bCnt (g := g') (by omega) (show 1 ≤ nn ∧ nn ≤ 99 by omega) z2 (N - 1) (by omega)
  rw [show N - 1 + 1 = N by omega] at cnt
  have th := thr (X := nn * (N - 1)) (g := g') (by omega) (fun v hv => (z2 v hv).1)
  rw [cnt, ← ex] at th
  have fin : F_X12_brief_72 20000 (t : Int) (N : Int) (nn : Int) a4 a5 (((N : Int) - 1) * nn) 0 (hup h 0 0 0) = some (bq a4 a5 nn (h (2 + t)) N, hup (hfl g' 160 (nn * (N - 1) + 1) 0) 141 1 0) := by
    rw [show ((0 : Nat) : Int) = 0 from rfl] at z1
    rw [z1, F_X12_brief_72]
    unfold F_X12_gives F_X12_gives_0 ck
    rw [if_pos (by omega), if_pos (by omega), if_pos (by omega), th, bind_eq]
    dsimp only
    rw [if_pos (by omega), nx_eq, bind_eq]
  simp only [F_X11_brief, F_X11_brief_0, F_X11_isTray, F_X11_isTray_0, F_X11_brief_38, F_X11_none, F_X11_none_0, F_X11_outside, F_X11_outside_0, F_X11_rowLack, F_X11_rowLack_0, F_X11_answer, F_X11_answer_0]
  simp only [Int.toNat_natCast]
  ((try simp only [hup_s, hup_c, hup_k, ne_eq, Nat.reduceEqDiff, not_false_eq_true]); repeat' (first | (with_reducible refine ev_ck ?_ ?_; first | omega | trivial) | with_reducible refine ev_bind ?_ | (with_reducible refine ev_nx ?_; first | simp only [hup_s, hup_c, hup_k, ne_eq, Nat.reduceEqDiff, not_false_eq_true] | dsimp only | skip) | (with_reducible refine ev_some ?_; first | simp only [hup_s, hup_c, hup_k, ne_eq, Nat.reduceEqDiff, not_false_eq_true] | dsimp only | skip) | (with_reducible refine ev_it ?_ ?_; first | omega | trivial) | (with_reducible refine ev_ie ?_ ?_; first | omega | trivial) | with_reducible refine ev_if (fun _ => ?_) (fun _ => ?_) | rw [x2] | rw [y2]))
  simp only [F_X12_brief, F_X12_brief_0, F_X12_isFrom, F_X12_isFrom_0, F_X12_brief_36, F_X12_brief_37, F_X12_refuse, F_X12_refuse_0]
  ((try simp only [hup_s, hup_c, hup_k, ne_eq, Nat.reduceEqDiff, not_false_eq_true]); repeat' (first | (with_reducible refine ev_ck ?_ ?_; first | omega | trivial) | with_reducible refine ev_bind ?_ | (with_reducible refine ev_nx ?_; first | simp only [hup_s, hup_c, hup_k, ne_eq, Nat.reduceEqDiff, not_false_eq_true] | dsimp only | skip) | (with_reducible refine ev_some ?_; first | simp only [hup_s, hup_c, hup_k, ne_eq, Nat.reduceEqDiff, not_false_eq_true] | dsimp only | skip) | (with_reducible refine ev_it ?_ ?_; first | omega | trivial) | (with_reducible refine ev_ie ?_ ?_; first | omega | trivial) | with_reducible refine ev_if (fun _ => ?_) (fun _ => ?_) | rw [b0] | rw [fin]))
  refine ⟨by first | trivial | omega, by omega, RR_marks (by omega) r z3 (fun u q1 q2 => ?_)⟩
  obtain ⟨w1, w2, w3⟩ := z2 u q2
  rcases w1 with w | w
  · exact w
  · obtain ⟨k, k1, k2, k3⟩ := w2 w
    unfold ngh at k3
    omega
