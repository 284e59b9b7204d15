/-! ===== closes, torn, lot ===== -/
/-- what a row test of the other finds, in the class's cells -/
theorem RR_row {n : Nat} {h : MH} (r : RR n h) (v : Int) : (∀ t : Nat, t < 4 → -1 ≤ hup h 0 0 v 144 t ∧ hup h 0 0 v 144 t ≤ 60) ∧ ∀ t k : Nat, t < 4 → (k : Int) < hup h 0 0 v 144 t → in64 (hup h 0 0 v 145 (60 * t + k)) := by
  have r2 := r.2.1
  refine ⟨fun t ht => ?_, fun t k ht hk => ?_⟩
  · obtain ⟨-, q, -⟩ := r2 t ht
    rw [hup_c _ _ _ _ _ _ (by decide)]
    omega
  · obtain ⟨-, q, q3⟩ := r2 t ht
    rw [hup_c _ _ _ _ _ _ (by decide)] at hk ⊢
    have q4 := q3 k (by omega)
    rw [q4.2]; exact q4.1
theorem closes_l {c t T : Nat} {h h' : MH} (ht : t < 4) (hT : 4 * T ≤ 60) (hv : ∀ k, k < 4 * T → 0 ≤ h c k ∧ h c k ≤ 1000000) (he : ∀ k, k < 4 * T → h' 145 (60 * t + k) = h c k) : ∀ (d f f' j : Nat), j + d = T → d < f → d < f' →
    ∃ x : Int, in32 x ∧ F_X11_closes_75 f (T : Int) c (j : Int) h = some (x, hup h 0 0 0) ∧ F_X12_closes_32 f' (t : Int) (T : Int) (j : Int) h' = some (x, hup h' 141 1 0) := by
  intro d
  induction d with
  | zero =>
    intro f f' j e hf hf'
    obtain ⟨f, rfl⟩ : ∃ g, f = g + 1 := ⟨f - 1, by omega⟩
    obtain ⟨f', rfl⟩ : ∃ g, f' = g + 1 := ⟨f' - 1, by omega⟩
    refine ⟨-1, by omega, ?_, ?_⟩
    · unfold F_X11_closes_75 ck
      rw [if_pos (by omega), if_pos (by omega), if_pos (by omega)]
      rfl
    · unfold F_X12_closes_32 ck
      rw [if_pos (by omega), if_pos (by omega), if_pos (by omega)]
      rfl
  | succ d ih =>
    intro f f' j e hf hf'
    obtain ⟨f, rfl⟩ : ∃ g, f = g + 1 := ⟨f - 1, by omega⟩
    obtain ⟨f', rfl⟩ : ∃ g, f' = g + 1 := ⟨f' - 1, by omega⟩
    have x0 : (4 * (j : Int)).toNat = 4 * j := by omega
    have x1 : (4 * (j : Int) + 1).toNat = 4 * j + 1 := by omega
    have x2 : (4 * (j : Int) + 2).toNat = 4 * j + 2 := by omega
    have x3 : (4 * (j : Int) + 3).toNat = 4 * j + 3 := by omega
    have y0 : (60 * (t : Int) + 4 * (j : Int)).toNat = 60 * t + 4 * j := by omega
    have y1 : (60 * (t : Int) + 4 * (j : Int) + 1).toNat = 60 * t + (4 * j + 1) := by omega
    have y2 : (60 * (t : Int) + 4 * (j : Int) + 2).toNat = 60 * t + (4 * j + 2) := by omega
    have y3 : (60 * (t : Int) + 4 * (j : Int) + 3).toNat = 60 * t + (4 * j + 3) := by omega
    have v0 := hv (4 * j) (by omega)
    have v1 := hv (4 * j + 1) (by omega)
    have v2 := hv (4 * j + 2) (by omega)
    have v3 := hv (4 * j + 3) (by omega)
    have E1 : F_X11_closes_75 (f + 1) (T : Int) c (j : Int) h = if h c (4 * j) = h c (4 * j + 1) + h c (4 * j + 2) + h c (4 * j + 3) then F_X11_closes_75 f (T : Int) c ((j + 1 : Nat) : Int) h else some ((j : Int), hup h 0 0 0) := by
      rw [F_X11_closes_75]
      unfold ck
      rw [if_pos (by omega), if_pos (by omega), if_neg (by omega), if_pos (by omega), if_pos (by omega), if_pos (by omega), if_pos (by omega), x0, x1, x2, x3, if_pos (by omega), if_pos (by omega)]
      rfl
    have E2 : F_X12_closes_32 (f' + 1) (t : Int) (T : Int) (j : Int) h' = if h c (4 * j) = h c (4 * j + 1) + h c (4 * j + 2) + h c (4 * j + 3) then F_X12_closes_32 f' (t : Int) (T : Int) ((j + 1 : Nat) : Int) h' else some ((j : Int), hup h' 141 1 0) := by
      rw [F_X12_closes_32]
      unfold ck
      rw [if_pos (by omega), if_pos (by omega), if_neg (by omega), nx_eq, if_pos (by omega), if_pos (by omega), if_pos (by omega), if_pos (by omega), y0, y1, y2, y3, he _ (by omega), he _ (by omega), he _ (by omega), he _ (by omega), if_pos (by omega), if_pos (by omega)]
      rfl
    rw [E1, E2]
    by_cases q : h c (4 * j) = h c (4 * j + 1) + h c (4 * j + 2) + h c (4 * j + 3)
    · rw [if_pos q, if_pos q]
      exact ih f f' (j + 1) (by omega) (by omega) (by omega)
    · rw [if_neg q, if_neg q]
      exact ⟨j, by omega, rfl, rfl⟩
theorem o_closes : Ob_closes RR := by
  intro n h a1 hn r i1
  refine ob_ev ?_
  have r2 := r.2.1
  have P := r.2.2.2.1
  simp only [PR, Nat.reduceAdd, Nat.zero_add] at P
  obtain ⟨p1, -⟩ := P
  have wr : ∀ v : Int, _ := fun v => wrR (x1 := a1) (N := 4 * max 0 (h 35 0 - 1)) (lo := 0) (hi := 1000000) (h := hup h 0 0 v) i1 (by omega) (by omega) (by omega) (by omega) (RR_row r v).1 (RR_row r v).2
  have e0 : ∀ v : Int, hup h 0 0 v 142 0 = h 35 0 := fun v => by rw [hup_c _ _ _ _ _ _ (by decide)]; omega
  have e1 : ∀ v : Int, ∀ k, hup h 0 0 v 144 k = h 144 k := fun v k => by rw [hup_c _ _ _ _ _ _ (by decide)]
  have e2 : ∀ v : Int, ∀ k, hup h 0 0 v 145 k = h 145 k := fun v k => by rw [hup_c _ _ _ _ _ _ (by decide)]
  by_cases c1 : 0 ≤ a1 ∧ a1 < 4
  · obtain ⟨t, e⟩ : ∃ t : Nat, a1 = t := ⟨a1.toNat, by omega⟩
    subst e
    obtain ⟨q1, q2, q3⟩ := r2 t (by omega)
    simp only [Int.toNat_natCast, e1, e2] at wr
    by_cases c2 : h 7 t = -1
    · obtain ⟨b, b0, b1, b2, b3, b4, b5⟩ := wr 2
      have : b = 2 := b2.mpr ⟨c1, by omega⟩
      subst this
      simp only [F_X11_closes, F_X11_closes_0, F_X11_isTray, F_X11_isTray_0, F_X1_tables, F_X1_tables_0, F_X11_rowLack, F_X11_rowLack_0, F_X11_none, F_X11_none_0]
      simp only [Int.toNat_natCast]
      ((try simp only [hup_s, hup_c, hup_k, ne_eq, Nat.reduceEqDiff, not_false_eq_true]); repeat' (first | (with_reducible refine ev_ck ?_ ?_; first | omega | trivial) | with_reducible refine ev_bind ?_ | (with_reducible refine ev_nx ?_; first | simp only [hup_s, hup_c, hup_k, ne_eq, Nat.reduceEqDiff, not_false_eq_true] | dsimp only | skip) | (with_reducible refine ev_some ?_; first | simp only [hup_s, hup_c, hup_k, ne_eq, Nat.reduceEqDiff, not_false_eq_true] | dsimp only | skip) | (with_reducible refine ev_it ?_ ?_; first | omega | trivial) | (with_reducible refine ev_ie ?_ ?_; first | omega | trivial) | with_reducible refine ev_if (fun _ => ?_) (fun _ => ?_)))
      simp only [F_X12_closes, F_X12_closes_0, F_X12_tables, F_X12_tables_0, F_X12_refuse, F_X12_refuse_0]
      simp only [e0]
      ((try simp only [hup_s, hup_c, hup_k, ne_eq, Nat.reduceEqDiff, not_false_eq_true]); repeat' (first | (with_reducible refine ev_ck ?_ ?_; first | omega | trivial) | with_reducible refine ev_bind ?_ | (with_reducible refine ev_nx ?_; first | simp only [hup_s, hup_c, hup_k, ne_eq, Nat.reduceEqDiff, not_false_eq_true] | dsimp only | skip) | (with_reducible refine ev_some ?_; first | simp only [hup_s, hup_c, hup_k, ne_eq, Nat.reduceEqDiff, not_false_eq_true] | dsimp only | skip) | (with_reducible refine ev_it ?_ ?_; first | omega | trivial) | (with_reducible refine ev_ie ?_ ?_; first | omega | trivial) | with_reducible refine ev_if (fun _ => ?_) (fun _ => ?_) | rw [b0]))
      (first | (exfalso; omega) | (refine ⟨?_, ?_, RR_st (by omega) r⟩ <;> first | trivial | omega))
    by_cases c3 : 4 * max 0 (h 35 0 - 1) ≤ h 7 t
    rotate_left
    · obtain ⟨b, b0, b1, b2, b3, b4, b5⟩ := wr 3
      have : b = 3 := b3.mpr ⟨c1, by omega, by omega⟩
      subst this
      simp only [F_X11_closes, F_X11_closes_0, F_X11_isTray, F_X11_isTray_0, F_X1_tables, F_X1_tables_0, F_X11_rowLack, F_X11_rowLack_0, F_X11_none, F_X11_none_0]
      simp only [Int.toNat_natCast]
      ((try simp only [hup_s, hup_c, hup_k, ne_eq, Nat.reduceEqDiff, not_false_eq_true]); repeat' (first | (with_reducible refine ev_ck ?_ ?_; first | omega | trivial) | with_reducible refine ev_bind ?_ | (with_reducible refine ev_nx ?_; first | simp only [hup_s, hup_c, hup_k, ne_eq, Nat.reduceEqDiff, not_false_eq_true] | dsimp only | skip) | (with_reducible refine ev_some ?_; first | simp only [hup_s, hup_c, hup_k, ne_eq, Nat.reduceEqDiff, not_false_eq_true] | dsimp only | skip) | (with_reducible refine ev_it ?_ ?_; first | omega | trivial) | (with_reducible refine ev_ie ?_ ?_; first | omega | trivial) | with_reducible refine ev_if (fun _ => ?_) (fun _ => ?_)))
      simp only [F_X12_closes, F_X12_closes_0, F_X12_tables, F_X12_tables_0, F_X12_refuse, F_X12_refuse_0]
      simp only [e0]
      ((try simp only [hup_s, hup_c, hup_k, ne_eq, Nat.reduceEqDiff, not_false_eq_true]); repeat' (first | (with_reducible refine ev_ck ?_ ?_; first | omega | trivial) | with_reducible refine ev_bind ?_ | (with_reducible refine ev_nx ?_; first | simp only [hup_s, hup_c, hup_k, ne_eq, Nat.reduceEqDiff, not_false_eq_true] | dsimp only | skip) | (with_reducible refine ev_some ?_; first | simp only [hup_s, hup_c, hup_k, ne_eq, Nat.reduceEqDiff, not_false_eq_true] | dsimp only | skip) | (with_reducible refine ev_it ?_ ?_; first | omega | trivial) | (with_reducible refine ev_ie ?_ ?_; first | omega | trivial) | with_reducible refine ev_if (fun _ => ?_) (fun _ => ?_) | rw [b0]))
      (first | (exfalso; omega) | (refine ⟨?_, ?_, RR_st (by omega) r⟩ <;> first | trivial | omega))
    obtain ⟨T, eT⟩ : ∃ T : Nat, max 0 (h 35 0 - 1) = T := ⟨(max 0 (h 35 0 - 1)).toNat, by omega⟩
    rw [eT] at wr c3
    obtain ⟨x, x1, x2, x3⟩ := allW (c := 2 + t) (N := 4 * T) (lo := 0) (hi := 1000000) (h := h) (by omega) (by omega) (by omega) (fun k hk => (q3 k (by omega)).1)
    have x2' : F_X11_allWithin (2 + t) (4 * (T : Int)) 0 1000000 h = some (x, h) := x2
    by_cases c4 : x = 1
    · subst c4
      have x3' := x3.mp rfl
      obtain ⟨b, b0, b1, b2, b3, b4, b5⟩ := wr 0
      have : b = 0 := b4.mpr ⟨c1, by omega, by omega, fun k hk => by rw [(q3 k (by omega)).2]; exact x3' k (by omega)⟩
      subst this
      obtain ⟨y, y1, y2, y3⟩ := closes_l (c := 2 + t) (t := t) (T := T) (h := h) (h' := hup h 0 0 0) (by omega) (by omega) x3' (fun k hk => by rw [e2]; exact (q3 k (by omega)).2) T 20000 20000 0 (by omega) (by omega) (by omega)
      rw [show ((0 : Nat) : Int) = 0 from rfl] at y2 y3
      simp only [F_X11_closes, F_X11_closes_0, F_X11_isTray, F_X11_isTray_0, F_X1_tables, F_X1_tables_0, F_X11_rowLack, F_X11_rowLack_0, F_X11_none, F_X11_none_0]
      simp only [Int.toNat_natCast, eT]
      ((try simp only [hup_s, hup_c, hup_k, ne_eq, Nat.reduceEqDiff, not_false_eq_true, eT]); repeat' (first | (with_reducible refine ev_ck ?_ ?_; first | omega | trivial) | with_reducible refine ev_bind ?_ | (with_reducible refine ev_nx ?_; first | simp only [hup_s, hup_c, hup_k, ne_eq, Nat.reduceEqDiff, not_false_eq_true, eT] | dsimp only | skip) | (with_reducible refine ev_some ?_; first | simp only [hup_s, hup_c, hup_k, ne_eq, Nat.reduceEqDiff, not_false_eq_true, eT] | dsimp only | skip) | (with_reducible refine ev_it ?_ ?_; first | omega | trivial) | (with_reducible refine ev_ie ?_ ?_; first | omega | trivial) | with_reducible refine ev_if (fun _ => ?_) (fun _ => ?_) | rw [x2'] | rw [y2]))
      simp only [F_X12_closes, F_X12_closes_0, F_X12_tables, F_X12_tables_0, F_X12_refuse, F_X12_refuse_0]
      simp only [e0, eT]
      ((try simp only [hup_s, hup_c, hup_k, ne_eq, Nat.reduceEqDiff, not_false_eq_true, e0, eT]); repeat' (first | (with_reducible refine ev_ck ?_ ?_; first | omega | trivial) | with_reducible refine ev_bind ?_ | (with_reducible refine ev_nx ?_; first | simp only [hup_s, hup_c, hup_k, ne_eq, Nat.reduceEqDiff, not_false_eq_true, e0, eT] | dsimp only | skip) | (with_reducible refine ev_some ?_; first | simp only [hup_s, hup_c, hup_k, ne_eq, Nat.reduceEqDiff, not_false_eq_true, e0, eT] | dsimp only | skip) | (with_reducible refine ev_it ?_ ?_; first | omega | trivial) | (with_reducible refine ev_ie ?_ ?_; first | omega | trivial) | with_reducible refine ev_if (fun _ => ?_) (fun _ => ?_) | rw [b0] | rw [y3]))
      exact ⟨trivial, y1, RR_st (by omega) r⟩
    · have c5 : x = 0 := by omega
      subst c5
      obtain ⟨b, b0, b1, b2, b3, b4, b5⟩ := wr 5
      have : b = 5 := by
        have z : ¬ b = 0 := fun w => c4 (x3.mpr (fun k hk => by have u := (b4.mp w).2.2.2 k (by omega); rw [(q3 k (by omega)).2] at u; exact u))
        omega
      subst this
      simp only [F_X11_closes, F_X11_closes_0, F_X11_isTray, F_X11_isTray_0, F_X1_tables, F_X1_tables_0, F_X11_rowLack, F_X11_rowLack_0, F_X11_none, F_X11_none_0]
      simp only [Int.toNat_natCast, eT]
      ((try simp only [hup_s, hup_c, hup_k, ne_eq, Nat.reduceEqDiff, not_false_eq_true, eT]); repeat' (first | (with_reducible refine ev_ck ?_ ?_; first | omega | trivial) | with_reducible refine ev_bind ?_ | (with_reducible refine ev_nx ?_; first | simp only [hup_s, hup_c, hup_k, ne_eq, Nat.reduceEqDiff, not_false_eq_true, eT] | dsimp only | skip) | (with_reducible refine ev_some ?_; first | simp only [hup_s, hup_c, hup_k, ne_eq, Nat.reduceEqDiff, not_false_eq_true, eT] | dsimp only | skip) | (with_reducible refine ev_it ?_ ?_; first | omega | trivial) | (with_reducible refine ev_ie ?_ ?_; first | omega | trivial) | with_reducible refine ev_if (fun _ => ?_) (fun _ => ?_) | rw [x2']))
      simp only [F_X12_closes, F_X12_closes_0, F_X12_tables, F_X12_tables_0, F_X12_refuse, F_X12_refuse_0]
      simp only [e0, eT]
      ((try simp only [hup_s, hup_c, hup_k, ne_eq, Nat.reduceEqDiff, not_false_eq_true, e0, eT]); repeat' (first | (with_reducible refine ev_ck ?_ ?_; first | omega | trivial) | with_reducible refine ev_bind ?_ | (with_reducible refine ev_nx ?_; first | simp only [hup_s, hup_c, hup_k, ne_eq, Nat.reduceEqDiff, not_false_eq_true, e0, eT] | dsimp only | skip) | (with_reducible refine ev_some ?_; first | simp only [hup_s, hup_c, hup_k, ne_eq, Nat.reduceEqDiff, not_false_eq_true, e0, eT] | dsimp only | skip) | (with_reducible refine ev_it ?_ ?_; first | omega | trivial) | (with_reducible refine ev_ie ?_ ?_; first | omega | trivial) | with_reducible refine ev_if (fun _ => ?_) (fun _ => ?_) | rw [b0]))
      (first | (exfalso; omega) | (refine ⟨?_, ?_, RR_st (by omega) r⟩ <;> first | trivial | omega))
  · obtain ⟨b, b0, b1, b2, b3, b4, b5⟩ := wr 1
    have : b = 1 := b1.mpr c1
    subst this
    simp only [F_X11_closes, F_X11_closes_0, F_X11_isTray, F_X11_isTray_0, F_X1_tables, F_X1_tables_0, F_X11_rowLack, F_X11_rowLack_0, F_X11_none, F_X11_none_0]
    ((try simp only [hup_s, hup_c, hup_k, ne_eq, Nat.reduceEqDiff, not_false_eq_true]); repeat' (first | (with_reducible refine ev_ck ?_ ?_; first | omega | trivial) | with_reducible refine ev_bind ?_ | (with_reducible refine ev_nx ?_; first | simp only [hup_s, hup_c, hup_k, ne_eq, Nat.reduceEqDiff, not_false_eq_true] | dsimp only | skip) | (with_reducible refine ev_some ?_; first | simp only [hup_s, hup_c, hup_k, ne_eq, Nat.reduceEqDiff, not_false_eq_true] | dsimp only | skip) | (with_reducible refine ev_it ?_ ?_; first | omega | trivial) | (with_reducible refine ev_ie ?_ ?_; first | omega | trivial) | with_reducible refine ev_if (fun _ => ?_) (fun _ => ?_)))
    all_goals simp only [F_X12_closes, F_X12_closes_0, F_X12_tables, F_X12_tables_0, F_X12_refuse, F_X12_refuse_0]
    all_goals simp only [e0]
    all_goals (((try simp only [hup_s, hup_c, hup_k, ne_eq, Nat.reduceEqDiff, not_false_eq_true]); repeat' (first | (with_reducible refine ev_ck ?_ ?_; first | omega | trivial) | with_reducible refine ev_bind ?_ | (with_reducible refine ev_nx ?_; first | simp only [hup_s, hup_c, hup_k, ne_eq, Nat.reduceEqDiff, not_false_eq_true] | dsimp only | skip) | (with_reducible refine ev_some ?_; first | simp only [hup_s, hup_c, hup_k, ne_eq, Nat.reduceEqDiff, not_false_eq_true] | dsimp only | skip) | (with_reducible refine ev_it ?_ ?_; first | omega | trivial) | (with_reducible refine ev_ie ?_ ?_; first | omega | trivial) | with_reducible refine ev_if (fun _ => ?_) (fun _ => ?_) | rw [b0])))
    all_goals (first | (exfalso; omega) | (refine ⟨?_, ?_, RR_st (by omega) r⟩ <;> first | trivial | omega))
