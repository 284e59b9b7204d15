/-! ===== the calls that only look ===== -/
theorem o_status : Ob_status RR := by
  intro n h hn r
  refine ob_ev ?_
  have r1 := r.1
  unfold R1 at r1
  simp only [F_X11_status, F_X11_status_0, F_X12_status, F_X12_status_0]
  ((try simp only [hup_s, hup_c, hup_k, ne_eq, Nat.reduceEqDiff, not_false_eq_true]); repeat' (first | (with_reducible refine ev_ck ?_ ?_; first | omega | trivial) | with_reducible refine ev_bind ?_ | (with_reducible refine ev_nx ?_; first | simp only [hup_s, hup_c, hup_k, ne_eq, Nat.reduceEqDiff, not_false_eq_true] | dsimp only | skip) | (with_reducible refine ev_some ?_; first | simp only [hup_s, hup_c, hup_k, ne_eq, Nat.reduceEqDiff, not_false_eq_true] | dsimp only | skip) | (with_reducible refine ev_it ?_ ?_; first | omega | trivial) | (with_reducible refine ev_ie ?_ ?_; first | omega | trivial) | with_reducible refine ev_if (fun _ => ?_) (fun _ => ?_)))
  exact ⟨by omega, by omega, RR_mono _ _ r⟩
theorem o_top : Ob_top RR := by
  intro n h hn r
  refine ob_ev ?_
  have r1 := r.1
  unfold R1 at r1
  simp only [F_X11_top, F_X11_top_0, F_X12_top, F_X12_top_0]
  ((try simp only [hup_s, hup_c, hup_k, ne_eq, Nat.reduceEqDiff, not_false_eq_true]); repeat' (first | (with_reducible refine ev_ck ?_ ?_; first | omega | trivial) | with_reducible refine ev_bind ?_ | (with_reducible refine ev_nx ?_; first | simp only [hup_s, hup_c, hup_k, ne_eq, Nat.reduceEqDiff, not_false_eq_true] | dsimp only | skip) | (with_reducible refine ev_some ?_; first | simp only [hup_s, hup_c, hup_k, ne_eq, Nat.reduceEqDiff, not_false_eq_true] | dsimp only | skip) | (with_reducible refine ev_it ?_ ?_; first | omega | trivial) | (with_reducible refine ev_ie ?_ ?_; first | omega | trivial) | with_reducible refine ev_if (fun _ => ?_) (fun _ => ?_)))
  exact ⟨by omega, by omega, RR_mono _ _ r⟩
theorem o_bottom : Ob_bottom RR := by
  intro n h hn r
  refine ob_ev ?_
  have r1 := r.1
  unfold R1 at r1
  simp only [F_X11_bottom, F_X11_bottom_0, F_X12_bottom, F_X12_bottom_0]
  ((try simp only [hup_s, hup_c, hup_k, ne_eq, Nat.reduceEqDiff, not_false_eq_true]); repeat' (first | (with_reducible refine ev_ck ?_ ?_; first | omega | trivial) | with_reducible refine ev_bind ?_ | (with_reducible refine ev_nx ?_; first | simp only [hup_s, hup_c, hup_k, ne_eq, Nat.reduceEqDiff, not_false_eq_true] | dsimp only | skip) | (with_reducible refine ev_some ?_; first | simp only [hup_s, hup_c, hup_k, ne_eq, Nat.reduceEqDiff, not_false_eq_true] | dsimp only | skip) | (with_reducible refine ev_it ?_ ?_; first | omega | trivial) | (with_reducible refine ev_ie ?_ ?_; first | omega | trivial) | with_reducible refine ev_if (fun _ => ?_) (fun _ => ?_)))
  exact ⟨by omega, by omega, RR_mono _ _ r⟩
theorem o_fault : Ob_fault RR := by
  intro n h a1 hn r i1
  refine ob_ev ?_
  have r3 := r.2.2.1
  unfold R3 at r3
  obtain ⟨q1, q2, q3, -⟩ := r3
  simp only [F_X11_fault, F_X11_fault_0, F_X12_fault, F_X12_fault_0]
  ((try simp only [hup_s, hup_c, hup_k, ne_eq, Nat.reduceEqDiff, not_false_eq_true]); repeat' (first | (with_reducible refine ev_ck ?_ ?_; first | omega | trivial) | with_reducible refine ev_bind ?_ | (with_reducible refine ev_nx ?_; first | simp only [hup_s, hup_c, hup_k, ne_eq, Nat.reduceEqDiff, not_false_eq_true] | dsimp only | skip) | (with_reducible refine ev_some ?_; first | simp only [hup_s, hup_c, hup_k, ne_eq, Nat.reduceEqDiff, not_false_eq_true] | dsimp only | skip) | (with_reducible refine ev_it ?_ ?_; first | omega | trivial) | (with_reducible refine ev_ie ?_ ?_; first | omega | trivial) | with_reducible refine ev_if (fun _ => ?_) (fun _ => ?_)))
  all_goals (refine ⟨?_, ?_, RR_mono _ _ r⟩ <;> first | trivial | omega)
theorem o_read : Ob_read RR := by
  intro n h a1 a2 hn r i1 i2
  refine ob_ev ?_
  have r2 := r.2.1
  simp only [F_X11_read, F_X11_read_0, F_X11_placeLack, F_X11_placeLack_0, F_X11_isTray, F_X11_isTray_0, F_X11_outside, F_X11_outside_0, F_X11_none, F_X11_none_0, F_X12_read, F_X12_read_0, F_X12_wrongPlace, F_X12_wrongPlace_0, F_X12_isTray, F_X12_isTray_0]
  by_cases ht : 0 ≤ a1 ∧ a1 < 4
  · obtain ⟨t, e⟩ : ∃ t : Nat, a1 = t := ⟨a1.toNat, by omega⟩
    subst e
    obtain ⟨q1, q2, q3⟩ := r2 t (by omega)
    have q4 := q3 a2.toNat
    have hx : 0 ≤ a2 → (60 * (t : Int) + a2).toNat = 60 * t + a2.toNat := by omega
    have z1 : ¬ 2 + t = 0 := by omega
    have z2 : ¬ 2 + t = 141 := by omega
    simp only [Int.toNat_natCast]
    ((try simp only [hup_s, hup_c, hup_k, ne_eq, Nat.reduceEqDiff, not_false_eq_true, z1, z2]); repeat' (first | (with_reducible refine ev_ck ?_ ?_; first | omega | trivial) | with_reducible refine ev_bind ?_ | (with_reducible refine ev_nx ?_; first | simp only [hup_s, hup_c, hup_k, ne_eq, Nat.reduceEqDiff, not_false_eq_true, z1, z2] | dsimp only | skip) | (with_reducible refine ev_some ?_; first | simp only [hup_s, hup_c, hup_k, ne_eq, Nat.reduceEqDiff, not_false_eq_true, z1, z2] | dsimp only | skip) | (with_reducible refine ev_it ?_ ?_; first | omega | trivial) | (with_reducible refine ev_ie ?_ ?_; first | omega | trivial) | with_reducible refine ev_if (fun _ => ?_) (fun _ => ?_)))
    all_goals try simp (disch := omega) only [hx]
    all_goals (first | (exfalso; omega) | (refine ⟨?_, ?_, RR_st (by omega) r⟩ <;> first | trivial | omega))
  · ((try simp only [hup_s, hup_c, hup_k, ne_eq, Nat.reduceEqDiff, not_false_eq_true]); repeat' (first | (with_reducible refine ev_ck ?_ ?_; first | omega | trivial) | with_reducible refine ev_bind ?_ | (with_reducible refine ev_nx ?_; first | simp only [hup_s, hup_c, hup_k, ne_eq, Nat.reduceEqDiff, not_false_eq_true] | dsimp only | skip) | (with_reducible refine ev_some ?_; first | simp only [hup_s, hup_c, hup_k, ne_eq, Nat.reduceEqDiff, not_false_eq_true] | dsimp only | skip) | (with_reducible refine ev_it ?_ ?_; first | omega | trivial) | (with_reducible refine ev_ie ?_ ?_; first | omega | trivial) | with_reducible refine ev_if (fun _ => ?_) (fun _ => ?_)))
    all_goals (first | (exfalso; omega) | (refine ⟨?_, ?_, RR_st (by omega) r⟩ <;> first | trivial | omega))
theorem o_many : Ob_many RR := by
  intro n h a1 hn r i1
  refine ob_ev ?_
  have P := r.2.2.2.1
  simp only [PR, MR, Nat.reduceAdd, Nat.zero_add] at P
  obtain ⟨p1, p2, p3, p4, p5, p6, -⟩ := P
  have f0 : h 142 (Int.toNat 0) = h 142 0 := rfl
  have f1 : h 142 (Int.toNat 1) = h 142 1 := rfl
  have f2 : h 142 (Int.toNat 2) = h 142 2 := rfl
  simp only [F_X11_many, F_X11_many_0, F_X11_answer, F_X11_answer_0, F_X1_made, F_X1_made_0, F_X11_none, F_X11_none_0, F_X12_many, F_X12_many_0, F_X12_many_9, F_X12_refuse, F_X12_refuse_0, F_X12_many_34, F_X12_gives, F_X12_gives_0, F_X12_made, F_X12_made_0, F_X12_ofMachine, F_X12_ofMachine_0, F_X12_machineAt, F_X12_machineAt_0]
  by_cases e : 0 ≤ a1 ∧ a1 < 3
  · have e' : a1 = 0 ∨ a1 = 1 ∨ a1 = 2 := by omega
    rcases e' with e' | e' | e' <;> subst e' <;> (((try simp only [hup_s, hup_c, hup_k, ne_eq, Nat.reduceEqDiff, not_false_eq_true]); repeat' (first | (with_reducible refine ev_ck ?_ ?_; first | omega | trivial) | with_reducible refine ev_bind ?_ | (with_reducible refine ev_nx ?_; first | simp only [hup_s, hup_c, hup_k, ne_eq, Nat.reduceEqDiff, not_false_eq_true] | dsimp only | skip) | (with_reducible refine ev_some ?_; first | simp only [hup_s, hup_c, hup_k, ne_eq, Nat.reduceEqDiff, not_false_eq_true] | dsimp only | skip) | (with_reducible refine ev_it ?_ ?_; first | omega | trivial) | (with_reducible refine ev_ie ?_ ?_; first | omega | trivial) | with_reducible refine ev_if (fun _ => ?_) (fun _ => ?_)))) <;> (first | (exfalso; omega) | (refine ⟨?_, ?_, RR_st (by omega) r⟩ <;> first | trivial | omega))
  · by_cases hz : h 35 0 = 0
    · ((try simp only [hup_s, hup_c, hup_k, ne_eq, Nat.reduceEqDiff, not_false_eq_true]); repeat' (first | (with_reducible refine ev_ck ?_ ?_; first | omega | trivial) | with_reducible refine ev_bind ?_ | (with_reducible refine ev_nx ?_; first | simp only [hup_s, hup_c, hup_k, ne_eq, Nat.reduceEqDiff, not_false_eq_true] | dsimp only | skip) | (with_reducible refine ev_some ?_; first | simp only [hup_s, hup_c, hup_k, ne_eq, Nat.reduceEqDiff, not_false_eq_true] | dsimp only | skip) | (with_reducible refine ev_it ?_ ?_; first | omega | trivial) | (with_reducible refine ev_ie ?_ ?_; first | omega | trivial) | with_reducible refine ev_if (fun _ => ?_) (fun _ => ?_)))
      all_goals (first | (exfalso; omega) | (refine ⟨?_, ?_, RR_st (by omega) r⟩ <;> first | trivial | omega))
    · obtain ⟨-, -, -, -, -, -, m7, -⟩ := p6 (h 35 0 - 1).toNat (by omega)
      have hx : (0 + 8 + 16 * (h 142 0 - 1) + 6).toNat = 8 + 16 * (h 35 0 - 1).toNat + 6 := by omega
      simp only [Nat.reduceAdd]
      ((try simp only [hup_s, hup_c, hup_k, ne_eq, Nat.reduceEqDiff, not_false_eq_true]); repeat' (first | (with_reducible refine ev_ck ?_ ?_; first | omega | trivial) | with_reducible refine ev_bind ?_ | (with_reducible refine ev_nx ?_; first | simp only [hup_s, hup_c, hup_k, ne_eq, Nat.reduceEqDiff, not_false_eq_true] | dsimp only | skip) | (with_reducible refine ev_some ?_; first | simp only [hup_s, hup_c, hup_k, ne_eq, Nat.reduceEqDiff, not_false_eq_true] | dsimp only | skip) | (with_reducible refine ev_it ?_ ?_; first | omega | trivial) | (with_reducible refine ev_ie ?_ ?_; first | omega | trivial) | with_reducible refine ev_if (fun _ => ?_) (fun _ => ?_)))
      all_goals try simp only [hx]
      all_goals (first | (exfalso; omega) | (refine ⟨?_, ?_, RR_st (by omega) r⟩ <;> first | trivial | omega))
theorem o_machine : Ob_machine RR := by
  intro n h a1 a2 hn r i1 i2
  refine ob_ev ?_
  have P := r.2.2.2.1
  simp only [PR, MR, Nat.reduceAdd, Nat.zero_add] at P
  obtain ⟨p1, p2, p3, p4, p5, p6, -⟩ := P
  simp only [F_X11_machine, F_X11_machine_0, F_X11_isMachine, F_X11_isMachine_0, F_X11_answer, F_X11_answer_0, F_X11_none, F_X11_none_0, F_X12_machine, F_X12_machine_0, F_X12_isMachine, F_X12_isMachine_0, F_X12_machine_19, F_X12_refuse, F_X12_refuse_0, F_X12_machine_50, F_X12_ofMachine, F_X12_ofMachine_0, F_X12_machineAt, F_X12_machineAt_0, F_X12_gives, F_X12_gives_0]
  by_cases hm : 0 ≤ a1 ∧ a1 < h 35 0
  · obtain ⟨m, e⟩ : ∃ t : Nat, a1 = t := ⟨a1.toNat, by omega⟩
    subst e
    obtain ⟨m0, m1, m2, m3, m4, m5, m6, -⟩ := p6 m hm.2
    have e0 : (0 + 8 + 16 * (m : Int) + 0).toNat = 8 + 16 * m := by omega
    have e1 : (0 + 8 + 16 * (m : Int) + 1).toNat = 8 + 16 * m + 1 := by omega
    have e2 : (0 + 8 + 16 * (m : Int) + 2).toNat = 8 + 16 * m + 2 := by omega
    have e3 : (0 + 8 + 16 * (m : Int) + 3).toNat = 8 + 16 * m + 3 := by omega
    have e4 : (0 + 8 + 16 * (m : Int) + 4).toNat = 8 + 16 * m + 4 := by omega
    have e5 : (0 + 8 + 16 * (m : Int) + 5).toNat = 8 + 16 * m + 5 := by omega
    have e6 : (0 + 8 + 16 * (m : Int) + 6).toNat = 8 + 16 * m + 6 := by omega
    have e5' : h 142 (0 + 8 + 16 * (m : Int) + 5).toNat = h 142 (8 + 16 * m + 5) := by rw [e5]
    by_cases h2 : 0 ≤ a2 ∧ a2 ≤ 6
    · have h2' : a2 = 0 ∨ a2 = 1 ∨ a2 = 2 ∨ a2 = 3 ∨ a2 = 4 ∨ a2 = 5 ∨ a2 = 6 := by omega
      rcases h2' with h2' | h2' | h2' | h2' | h2' | h2' | h2' <;> subst h2' <;> simp only [Int.toNat_natCast] <;> (((try simp only [hup_s, hup_c, hup_k, ne_eq, Nat.reduceEqDiff, not_false_eq_true]); repeat' (first | (with_reducible refine ev_ck ?_ ?_; first | omega | trivial) | with_reducible refine ev_bind ?_ | (with_reducible refine ev_nx ?_; first | simp only [hup_s, hup_c, hup_k, ne_eq, Nat.reduceEqDiff, not_false_eq_true] | dsimp only | skip) | (with_reducible refine ev_some ?_; first | simp only [hup_s, hup_c, hup_k, ne_eq, Nat.reduceEqDiff, not_false_eq_true] | dsimp only | skip) | (with_reducible refine ev_it ?_ ?_; first | omega | trivial) | (with_reducible refine ev_ie ?_ ?_; first | omega | trivial) | with_reducible refine ev_if (fun _ => ?_) (fun _ => ?_)))) <;> (try simp only [e0, e1, e2, e3, e4, e5, e6]) <;> (first | (exfalso; omega) | (refine ⟨?_, ?_, RR_st (by omega) r⟩ <;> first | trivial | omega))
    · ((try simp only [hup_s, hup_c, hup_k, ne_eq, Nat.reduceEqDiff, not_false_eq_true]); repeat' (first | (with_reducible refine ev_ck ?_ ?_; first | omega | trivial) | with_reducible refine ev_bind ?_ | (with_reducible refine ev_nx ?_; first | simp only [hup_s, hup_c, hup_k, ne_eq, Nat.reduceEqDiff, not_false_eq_true] | dsimp only | skip) | (with_reducible refine ev_some ?_; first | simp only [hup_s, hup_c, hup_k, ne_eq, Nat.reduceEqDiff, not_false_eq_true] | dsimp only | skip) | (with_reducible refine ev_it ?_ ?_; first | omega | trivial) | (with_reducible refine ev_ie ?_ ?_; first | omega | trivial) | with_reducible refine ev_if (fun _ => ?_) (fun _ => ?_)))
      all_goals (first | (exfalso; omega) | (refine ⟨?_, ?_, RR_st (by omega) r⟩ <;> first | trivial | omega))
  · ((try simp only [hup_s, hup_c, hup_k, ne_eq, Nat.reduceEqDiff, not_false_eq_true]); repeat' (first | (with_reducible refine ev_ck ?_ ?_; first | omega | trivial) | with_reducible refine ev_bind ?_ | (with_reducible refine ev_nx ?_; first | simp only [hup_s, hup_c, hup_k, ne_eq, Nat.reduceEqDiff, not_false_eq_true] | dsimp only | skip) | (with_reducible refine ev_some ?_; first | simp only [hup_s, hup_c, hup_k, ne_eq, Nat.reduceEqDiff, not_false_eq_true] | dsimp only | skip) | (with_reducible refine ev_it ?_ ?_; first | omega | trivial) | (with_reducible refine ev_ie ?_ ?_; first | omega | trivial) | with_reducible refine ev_if (fun _ => ?_) (fun _ => ?_)))
    all_goals (first | (exfalso; omega) | (refine ⟨?_, ?_, RR_st (by omega) r⟩ <;> first | trivial | omega))
theorem o_table : Ob_table RR := by
  intro n h a1 a2 hn r i1 i2
  refine ob_ev ?_
  have P := r.2.2.2.1
  simp only [PR, MR, Nat.reduceAdd, Nat.zero_add] at P
  obtain ⟨p1, p2, p3, p4, p5, p6, -⟩ := P
  simp only [F_X11_table, F_X11_table_0, F_X1_tables, F_X1_tables_0, F_X11_outside, F_X11_outside_0, F_X11_table_32, F_X11_none, F_X11_none_0, F_X11_table_70, F_X11_answer, F_X11_answer_0, F_X12_table, F_X12_table_0, F_X12_table_21, F_X12_refuse, F_X12_refuse_0, F_X12_tables, F_X12_tables_0, F_X12_table_41, F_X12_ofMachine, F_X12_ofMachine_0, F_X12_machineAt, F_X12_machineAt_0, F_X12_gives, F_X12_gives_0]
  by_cases hm : 0 ≤ a1 ∧ a1 < h 35 0 - 1
  · obtain ⟨m, e⟩ : ∃ t : Nat, a1 = t := ⟨a1.toNat, by omega⟩
    subst e
    obtain ⟨-, -, -, -, -, -, -, -, m11, m12, -⟩ := p6 m (by omega)
    have e1 : (0 + 8 + 16 * (m : Int) + 11).toNat = 8 + 16 * m + 11 := by omega
    have e2 : (0 + 8 + 16 * (m : Int) + 12).toNat = 8 + 16 * m + 12 := by omega
    simp only [Int.toNat_natCast]
    ((try simp only [hup_s, hup_c, hup_k, ne_eq, Nat.reduceEqDiff, not_false_eq_true]); repeat' (first | (with_reducible refine ev_ck ?_ ?_; first | omega | trivial) | with_reducible refine ev_bind ?_ | (with_reducible refine ev_nx ?_; first | simp only [hup_s, hup_c, hup_k, ne_eq, Nat.reduceEqDiff, not_false_eq_true] | dsimp only | skip) | (with_reducible refine ev_some ?_; first | simp only [hup_s, hup_c, hup_k, ne_eq, Nat.reduceEqDiff, not_false_eq_true] | dsimp only | skip) | (with_reducible refine ev_it ?_ ?_; first | omega | trivial) | (with_reducible refine ev_ie ?_ ?_; first | omega | trivial) | with_reducible refine ev_if (fun _ => ?_) (fun _ => ?_)))
    all_goals try simp only [e1, e2]
    all_goals (first | (exfalso; omega) | (refine ⟨?_, ?_, RR_st (by omega) r⟩ <;> first | trivial | omega))
  · ((try simp only [hup_s, hup_c, hup_k, ne_eq, Nat.reduceEqDiff, not_false_eq_true]); repeat' (first | (with_reducible refine ev_ck ?_ ?_; first | omega | trivial) | with_reducible refine ev_bind ?_ | (with_reducible refine ev_nx ?_; first | simp only [hup_s, hup_c, hup_k, ne_eq, Nat.reduceEqDiff, not_false_eq_true] | dsimp only | skip) | (with_reducible refine ev_some ?_; first | simp only [hup_s, hup_c, hup_k, ne_eq, Nat.reduceEqDiff, not_false_eq_true] | dsimp only | skip) | (with_reducible refine ev_it ?_ ?_; first | omega | trivial) | (with_reducible refine ev_ie ?_ ?_; first | omega | trivial) | with_reducible refine ev_if (fun _ => ?_) (fun _ => ?_)))
    all_goals (first | (exfalso; omega) | (refine ⟨?_, ?_, RR_st (by omega) r⟩ <;> first | trivial | omega))
theorem o_wash : Ob_wash RR := by
  intro n h a1 a2 hn r i1 i2
  refine ob_ev ?_
  have P := r.2.2.2.1
  simp only [PR, Nat.reduceAdd, Nat.zero_add] at P
  obtain ⟨p1, p2, p3, p4, p5, -, -, p8⟩ := P
  simp only [F_X11_wash, F_X11_wash_0, F_X11_isSort, F_X11_isSort_0, F_X11_wash_21, F_X11_none, F_X11_none_0, F_X5_washMinutes, F_X5_washMinutes_0, F_X5_washTold, F_X5_washTold_0, F_X11_answer, F_X11_answer_0, F_X12_wash, F_X12_wash_0, F_X12_isSort, F_X12_isSort_0, F_X12_wash_43, F_X12_refuse, F_X12_refuse_0, F_X12_gives, F_X12_gives_0]
  by_cases hm : (0 ≤ a1 ∧ a1 < h 34 4) ∧ (0 ≤ a2 ∧ a2 < h 34 4)
  · obtain ⟨s, e⟩ : ∃ t : Nat, a1 = t := ⟨a1.toNat, by omega⟩
    obtain ⟨t, e'⟩ : ∃ t : Nat, a2 = t := ⟨a2.toNat, by omega⟩
    subst e e'
    have m8 := p8 (s * 7 + t) (by omega)
    have e : (140 + 7 * (s : Int) + t).toNat = 140 + (s * 7 + t) := by omega
    have e' : ((s : Int) * 7 + t).toNat = s * 7 + t := by omega
    simp only [e, e', Nat.reduceAdd]
    by_cases q : h 48 (s * 7 + t) = -1
    · rw [if_pos q] at m8
      ((try simp only [hup_s, hup_c, hup_k, ne_eq, Nat.reduceEqDiff, not_false_eq_true]); repeat' (first | (with_reducible refine ev_ck ?_ ?_; first | omega | trivial) | with_reducible refine ev_bind ?_ | (with_reducible refine ev_nx ?_; first | simp only [hup_s, hup_c, hup_k, ne_eq, Nat.reduceEqDiff, not_false_eq_true] | dsimp only | skip) | (with_reducible refine ev_some ?_; first | simp only [hup_s, hup_c, hup_k, ne_eq, Nat.reduceEqDiff, not_false_eq_true] | dsimp only | skip) | (with_reducible refine ev_it ?_ ?_; first | omega | trivial) | (with_reducible refine ev_ie ?_ ?_; first | omega | trivial) | with_reducible refine ev_if (fun _ => ?_) (fun _ => ?_)))
      all_goals (first | (exfalso; omega) | (refine ⟨?_, ?_, RR_st (by omega) r⟩ <;> first | trivial | omega))
    · rw [if_neg q] at m8
      ((try simp only [hup_s, hup_c, hup_k, ne_eq, Nat.reduceEqDiff, not_false_eq_true]); repeat' (first | (with_reducible refine ev_ck ?_ ?_; first | omega | trivial) | with_reducible refine ev_bind ?_ | (with_reducible refine ev_nx ?_; first | simp only [hup_s, hup_c, hup_k, ne_eq, Nat.reduceEqDiff, not_false_eq_true] | dsimp only | skip) | (with_reducible refine ev_some ?_; first | simp only [hup_s, hup_c, hup_k, ne_eq, Nat.reduceEqDiff, not_false_eq_true] | dsimp only | skip) | (with_reducible refine ev_it ?_ ?_; first | omega | trivial) | (with_reducible refine ev_ie ?_ ?_; first | omega | trivial) | with_reducible refine ev_if (fun _ => ?_) (fun _ => ?_)))
      all_goals (first | (exfalso; omega) | (refine ⟨?_, ?_, RR_st (by omega) r⟩ <;> first | trivial | omega))
  · ((try simp only [hup_s, hup_c, hup_k, ne_eq, Nat.reduceEqDiff, not_false_eq_true]); repeat' (first | (with_reducible refine ev_ck ?_ ?_; first | omega | trivial) | with_reducible refine ev_bind ?_ | (with_reducible refine ev_nx ?_; first | simp only [hup_s, hup_c, hup_k, ne_eq, Nat.reduceEqDiff, not_false_eq_true] | dsimp only | skip) | (with_reducible refine ev_some ?_; first | simp only [hup_s, hup_c, hup_k, ne_eq, Nat.reduceEqDiff, not_false_eq_true] | dsimp only | skip) | (with_reducible refine ev_it ?_ ?_; first | omega | trivial) | (with_reducible refine ev_ie ?_ ?_; first | omega | trivial) | with_reducible refine ev_if (fun _ => ?_) (fun _ => ?_)))
    all_goals (first | (exfalso; omega) | (refine ⟨?_, ?_, RR_st (by omega) r⟩ <;> first | trivial | omega))
theorem o_minutes : Ob_minutes RR := by
  intro n h a1 a2 hn r i1 i2
  refine ob_ev ?_
  have P := r.2.2.2.1
  simp only [PR, MR, Nat.reduceAdd, Nat.zero_add] at P
  obtain ⟨p1, p2, p3, p4, p5, p6, -⟩ := P
  simp only [F_X11_minutes, F_X11_minutes_0, F_X11_isMachine, F_X11_isMachine_0, F_X11_minutes_20, F_X11_none, F_X11_none_0, F_X11_outside, F_X11_outside_0, F_X11_answer, F_X11_answer_0, F_X12_minutes, F_X12_minutes_0, F_X12_isMachine, F_X12_isMachine_0, F_X12_minutes_34, F_X12_refuse, F_X12_refuse_0, F_X12_ofMachine, F_X12_ofMachine_0, F_X12_machineAt, F_X12_machineAt_0, F_X12_gives, F_X12_gives_0]
  by_cases hm : 0 ≤ a1 ∧ a1 < h 35 0
  · obtain ⟨m, e⟩ : ∃ t : Nat, a1 = t := ⟨a1.toNat, by omega⟩
    subst e
    obtain ⟨-, -, -, -, -, -, -, m8, -⟩ := p6 m hm.2
    by_cases h2 : 0 ≤ a2 ∧ a2 ≤ 3
    · obtain ⟨s, e'⟩ : ∃ t : Nat, a2 = t := ⟨a2.toNat, by omega⟩
      subst e'
      have m9 := m8 s (by omega)
      have e : (0 + 8 + 16 * (m : Int) + (7 + (s : Int))).toNat = 8 + 16 * m + 7 + s := by omega
      have e' : ((m : Int) * 4 + s).toNat = 4 * m + s := by omega
      simp only [e']
      ((try simp only [hup_s, hup_c, hup_k, ne_eq, Nat.reduceEqDiff, not_false_eq_true]); repeat' (first | (with_reducible refine ev_ck ?_ ?_; first | omega | trivial) | with_reducible refine ev_bind ?_ | (with_reducible refine ev_nx ?_; first | simp only [hup_s, hup_c, hup_k, ne_eq, Nat.reduceEqDiff, not_false_eq_true] | dsimp only | skip) | (with_reducible refine ev_some ?_; first | simp only [hup_s, hup_c, hup_k, ne_eq, Nat.reduceEqDiff, not_false_eq_true] | dsimp only | skip) | (with_reducible refine ev_it ?_ ?_; first | omega | trivial) | (with_reducible refine ev_ie ?_ ?_; first | omega | trivial) | with_reducible refine ev_if (fun _ => ?_) (fun _ => ?_)))
      all_goals try simp only [e]
      all_goals (first | (exfalso; omega) | (refine ⟨?_, ?_, RR_st (by omega) r⟩ <;> first | trivial | omega))
    · ((try simp only [hup_s, hup_c, hup_k, ne_eq, Nat.reduceEqDiff, not_false_eq_true]); repeat' (first | (with_reducible refine ev_ck ?_ ?_; first | omega | trivial) | with_reducible refine ev_bind ?_ | (with_reducible refine ev_nx ?_; first | simp only [hup_s, hup_c, hup_k, ne_eq, Nat.reduceEqDiff, not_false_eq_true] | dsimp only | skip) | (with_reducible refine ev_some ?_; first | simp only [hup_s, hup_c, hup_k, ne_eq, Nat.reduceEqDiff, not_false_eq_true] | dsimp only | skip) | (with_reducible refine ev_it ?_ ?_; first | omega | trivial) | (with_reducible refine ev_ie ?_ ?_; first | omega | trivial) | with_reducible refine ev_if (fun _ => ?_) (fun _ => ?_)))
      all_goals (first | (exfalso; omega) | (refine ⟨?_, ?_, RR_st (by omega) r⟩ <;> first | trivial | omega))
  · ((try simp only [hup_s, hup_c, hup_k, ne_eq, Nat.reduceEqDiff, not_false_eq_true]); repeat' (first | (with_reducible refine ev_ck ?_ ?_; first | omega | trivial) | with_reducible refine ev_bind ?_ | (with_reducible refine ev_nx ?_; first | simp only [hup_s, hup_c, hup_k, ne_eq, Nat.reduceEqDiff, not_false_eq_true] | dsimp only | skip) | (with_reducible refine ev_some ?_; first | simp only [hup_s, hup_c, hup_k, ne_eq, Nat.reduceEqDiff, not_false_eq_true] | dsimp only | skip) | (with_reducible refine ev_it ?_ ?_; first | omega | trivial) | (with_reducible refine ev_ie ?_ ?_; first | omega | trivial) | with_reducible refine ev_if (fun _ => ?_) (fun _ => ?_)))
    all_goals (first | (exfalso; omega) | (refine ⟨?_, ?_, RR_st (by omega) r⟩ <;> first | trivial | omega))
theorem o_blame : Ob_blame RR := by
  intro n h a1 a2 hn r i1 i2
  refine ob_ev ?_
  have P := r.2.2.2.1
  simp only [PR, Nat.reduceAdd, Nat.zero_add] at P
  obtain ⟨p1, p2, p3, p4, p5, -, p7, -⟩ := P
  simp only [F_X11_blame, F_X11_blame_0, F_X11_isMachine, F_X11_isMachine_0, F_X11_blame_16, F_X11_none, F_X11_none_0, F_X11_answer, F_X11_answer_0, F_X12_blame, F_X12_blame_0, F_X12_isMachine, F_X12_isMachine_0, F_X12_blame_39, F_X12_refuse, F_X12_refuse_0, F_X12_gives, F_X12_gives_0]
  by_cases hm : (0 ≤ a1 ∧ a1 < h 35 0) ∧ (0 ≤ a2 ∧ a2 < h 35 0)
  · obtain ⟨s, e⟩ : ∃ t : Nat, a1 = t := ⟨a1.toNat, by omega⟩
    obtain ⟨t, e'⟩ : ∃ t : Nat, a2 = t := ⟨a2.toNat, by omega⟩
    subst e e'
    have m8 := p7 (s * 6 + t) (by omega)
    have e : (104 + 6 * (s : Int) + t).toNat = 104 + (s * 6 + t) := by omega
    have e' : ((s : Int) * 6 + t).toNat = s * 6 + t := by omega
    simp only [e, e']
    ((try simp only [hup_s, hup_c, hup_k, ne_eq, Nat.reduceEqDiff, not_false_eq_true]); repeat' (first | (with_reducible refine ev_ck ?_ ?_; first | omega | trivial) | with_reducible refine ev_bind ?_ | (with_reducible refine ev_nx ?_; first | simp only [hup_s, hup_c, hup_k, ne_eq, Nat.reduceEqDiff, not_false_eq_true] | dsimp only | skip) | (with_reducible refine ev_some ?_; first | simp only [hup_s, hup_c, hup_k, ne_eq, Nat.reduceEqDiff, not_false_eq_true] | dsimp only | skip) | (with_reducible refine ev_it ?_ ?_; first | omega | trivial) | (with_reducible refine ev_ie ?_ ?_; first | omega | trivial) | with_reducible refine ev_if (fun _ => ?_) (fun _ => ?_)))
    all_goals (first | (exfalso; omega) | (refine ⟨?_, ?_, RR_st (by omega) r⟩ <;> first | trivial | omega))
  · ((try simp only [hup_s, hup_c, hup_k, ne_eq, Nat.reduceEqDiff, not_false_eq_true]); repeat' (first | (with_reducible refine ev_ck ?_ ?_; first | omega | trivial) | with_reducible refine ev_bind ?_ | (with_reducible refine ev_nx ?_; first | simp only [hup_s, hup_c, hup_k, ne_eq, Nat.reduceEqDiff, not_false_eq_true] | dsimp only | skip) | (with_reducible refine ev_some ?_; first | simp only [hup_s, hup_c, hup_k, ne_eq, Nat.reduceEqDiff, not_false_eq_true] | dsimp only | skip) | (with_reducible refine ev_it ?_ ?_; first | omega | trivial) | (with_reducible refine ev_ie ?_ ?_; first | omega | trivial) | with_reducible refine ev_if (fun _ => ?_) (fun _ => ?_)))
    all_goals (first | (exfalso; omega) | (refine ⟨?_, ?_, RR_st (by omega) r⟩ <;> first | trivial | omega))
theorem o_gained : Ob_gained RR := by
  intro n h hn r
  refine ob_ev ?_
  have P := r.2.2.2.2.2.2.1
  simp only [R7] at P
  obtain ⟨p1, p2, p3, -⟩ := P
  simp only [F_X11_gained, F_X11_gained_0, F_X11_none, F_X11_none_0, F_X11_answer, F_X11_answer_0, F_X12_gained, F_X12_gained_0, F_X12_refuse, F_X12_refuse_0, F_X12_gives, F_X12_gives_0]
  ((try simp only [hup_s, hup_c, hup_k, ne_eq, Nat.reduceEqDiff, not_false_eq_true]); repeat' (first | (with_reducible refine ev_ck ?_ ?_; first | omega | trivial) | with_reducible refine ev_bind ?_ | (with_reducible refine ev_nx ?_; first | simp only [hup_s, hup_c, hup_k, ne_eq, Nat.reduceEqDiff, not_false_eq_true] | dsimp only | skip) | (with_reducible refine ev_some ?_; first | simp only [hup_s, hup_c, hup_k, ne_eq, Nat.reduceEqDiff, not_false_eq_true] | dsimp only | skip) | (with_reducible refine ev_it ?_ ?_; first | omega | trivial) | (with_reducible refine ev_ie ?_ ?_; first | omega | trivial) | with_reducible refine ev_if (fun _ => ?_) (fun _ => ?_)))
  all_goals (first | (exfalso; omega) | (refine ⟨?_, ?_, RR_st (by omega) r⟩ <;> first | trivial | omega))
theorem o_unit : Ob_unit RR := by
  intro n h a1 hn r i1
  refine ob_ev ?_
  have P := r.2.2.2.2.2.2.1
  simp only [R7] at P
  obtain ⟨p1, p2, p3, p4⟩ := P
  have p5 := p4 a1.toNat
  simp only [F_X11_unit, F_X11_unit_0, F_X11_outside, F_X11_outside_0, F_X11_answer, F_X11_answer_0, F_X11_none, F_X11_none_0, F_X12_unit, F_X12_unit_0, F_X12_unit_26, F_X12_refuse, F_X12_refuse_0, F_X12_gives, F_X12_gives_0]
  ((try simp only [hup_s, hup_c, hup_k, ne_eq, Nat.reduceEqDiff, not_false_eq_true]); repeat' (first | (with_reducible refine ev_ck ?_ ?_; first | omega | trivial) | with_reducible refine ev_bind ?_ | (with_reducible refine ev_nx ?_; first | simp only [hup_s, hup_c, hup_k, ne_eq, Nat.reduceEqDiff, not_false_eq_true] | dsimp only | skip) | (with_reducible refine ev_some ?_; first | simp only [hup_s, hup_c, hup_k, ne_eq, Nat.reduceEqDiff, not_false_eq_true] | dsimp only | skip) | (with_reducible refine ev_it ?_ ?_; first | omega | trivial) | (with_reducible refine ev_ie ?_ ?_; first | omega | trivial) | with_reducible refine ev_if (fun _ => ?_) (fun _ => ?_)))
  all_goals (first | (exfalso; omega) | (refine ⟨?_, ?_, RR_st (by omega) r⟩ <;> first | trivial | omega))
theorem o_worked : Ob_worked RR := by
  intro n h a1 hn r i1
  refine ob_ev ?_
  have P := r.2.2.2.2.2.2.2.1
  simp only [R8] at P
  simp only [F_X11_worked, F_X11_worked_0, F_X11_outside, F_X11_outside_0, F_X11_worked_74, F_X11_answer, F_X11_answer_0, F_X11_none, F_X11_none_0, F_X12_worked, F_X12_worked_0, F_X12_worked_9, F_X12_refuse, F_X12_refuse_0, F_X12_worked_60, F_X12_gives, F_X12_gives_0]
  rcases P with P | P
  · ((try simp only [hup_s, hup_c, hup_k, ne_eq, Nat.reduceEqDiff, not_false_eq_true]); repeat' (first | (with_reducible refine ev_ck ?_ ?_; first | omega | trivial) | with_reducible refine ev_bind ?_ | (with_reducible refine ev_nx ?_; first | simp only [hup_s, hup_c, hup_k, ne_eq, Nat.reduceEqDiff, not_false_eq_true] | dsimp only | skip) | (with_reducible refine ev_some ?_; first | simp only [hup_s, hup_c, hup_k, ne_eq, Nat.reduceEqDiff, not_false_eq_true] | dsimp only | skip) | (with_reducible refine ev_it ?_ ?_; first | omega | trivial) | (with_reducible refine ev_ie ?_ ?_; first | omega | trivial) | with_reducible refine ev_if (fun _ => ?_) (fun _ => ?_)))
    all_goals (first | (exfalso; omega) | (refine ⟨?_, ?_, RR_st (by omega) r⟩ <;> first | trivial | omega))
  · ((try simp only [hup_s, hup_c, hup_k, ne_eq, Nat.reduceEqDiff, not_false_eq_true]); repeat' (first | (with_reducible refine ev_ck ?_ ?_; first | omega | trivial) | with_reducible refine ev_bind ?_ | (with_reducible refine ev_nx ?_; first | simp only [hup_s, hup_c, hup_k, ne_eq, Nat.reduceEqDiff, not_false_eq_true] | dsimp only | skip) | (with_reducible refine ev_some ?_; first | simp only [hup_s, hup_c, hup_k, ne_eq, Nat.reduceEqDiff, not_false_eq_true] | dsimp only | skip) | (with_reducible refine ev_it ?_ ?_; first | omega | trivial) | (with_reducible refine ev_ie ?_ ?_; first | omega | trivial) | with_reducible refine ev_if (fun _ => ?_) (fun _ => ?_)))
    all_goals (first | (exfalso; omega) | (refine ⟨?_, ?_, RR_st (by omega) r⟩ <;> first | trivial | omega))
theorem o_head : Ob_head RR := by
  intro n h a1 hn r i1
  refine ob_ev ?_
  have P := r.2.2.2.2.2.2.2.2.1
  simp only [R9] at P
  simp only [F_X11_head, F_X11_head_0, F_X11_outside, F_X11_outside_0, F_X11_head_43, F_X11_none, F_X11_none_0, F_X11_head_88, F_X11_head_108, F_X11_answer, F_X11_answer_0, F_X12_head, F_X12_head_0, F_X12_head_9, F_X12_refuse, F_X12_refuse_0, F_X12_head_33, F_X12_head_62, F_X12_gives, F_X12_gives_0]
  by_cases e : 0 ≤ a1 ∧ a1 ≤ 4
  · have e' : a1 = 0 ∨ a1 = 1 ∨ a1 = 2 ∨ a1 = 3 ∨ a1 = 4 := by omega
    rcases P with P | ⟨P1, P2, P3, P4⟩
    · rcases e' with e' | e' | e' | e' | e' <;> subst e' <;> (((try simp only [hup_s, hup_c, hup_k, ne_eq, Nat.reduceEqDiff, not_false_eq_true]); repeat' (first | (with_reducible refine ev_ck ?_ ?_; first | omega | trivial) | with_reducible refine ev_bind ?_ | (with_reducible refine ev_nx ?_; first | simp only [hup_s, hup_c, hup_k, ne_eq, Nat.reduceEqDiff, not_false_eq_true] | dsimp only | skip) | (with_reducible refine ev_some ?_; first | simp only [hup_s, hup_c, hup_k, ne_eq, Nat.reduceEqDiff, not_false_eq_true] | dsimp only | skip) | (with_reducible refine ev_it ?_ ?_; first | omega | trivial) | (with_reducible refine ev_ie ?_ ?_; first | omega | trivial) | with_reducible refine ev_if (fun _ => ?_) (fun _ => ?_)))) <;> (first | (exfalso; omega) | (refine ⟨?_, ?_, RR_st (by omega) r⟩ <;> first | trivial | omega))
    · have u1 := td_le (a := h 73 3) (b := 24)
      have u2 := td_le (a := h 73 4) (b := 24)
      have v1 : 0 ≤ h 73 3 → 0 ≤ (h 73 3).tmod 24 ∧ (h 73 3).tmod 24 < 24 := fun q => ⟨Int.tmod_nonneg _ q, Int.tmod_lt_of_pos _ (by omega)⟩
      have v2 : 0 ≤ h 73 4 → 0 ≤ (h 73 4).tmod 24 ∧ (h 73 4).tmod 24 < 24 := fun q => ⟨Int.tmod_nonneg _ q, Int.tmod_lt_of_pos _ (by omega)⟩
      have f0 : h 159 (Int.toNat (1 - 1)) = h 159 0 := rfl
      have f1 : h 159 (Int.toNat (2 - 1)) = h 159 1 := rfl
      have f2 : h 159 (Int.toNat (3 - 1)) = h 159 2 := rfl
      have f3 : h 159 (Int.toNat (4 - 1)) = h 159 3 := rfl
      have g0 : Int.tdiv (0 + 1) 2 = 0 := rfl
      have g1 : Int.tdiv (1 + 1) 2 = 1 := rfl
      have g2 : Int.tdiv (2 + 1) 2 = 1 := rfl
      have g3 : Int.tdiv (3 + 1) 2 = 2 := rfl
      have g4 : Int.tdiv (4 + 1) 2 = 2 := rfl
      have k1 : Int.tmod 1 2 = 1 := rfl
      have k2 : Int.tmod 2 2 = 0 := rfl
      have k3 : Int.tmod 3 2 = 1 := rfl
      have k4 : Int.tmod 4 2 = 0 := rfl
      rcases e' with e' | e' | e' | e' | e' <;> subst e' <;> simp only [g0, g1, g2, g3, g4, k1, k2, k3, k4] <;> (((try simp only [hup_s, hup_c, hup_k, ne_eq, Nat.reduceEqDiff, not_false_eq_true]); repeat' (first | (with_reducible refine ev_ck ?_ ?_; first | omega | trivial) | with_reducible refine ev_bind ?_ | (with_reducible refine ev_nx ?_; first | simp only [hup_s, hup_c, hup_k, ne_eq, Nat.reduceEqDiff, not_false_eq_true] | dsimp only | skip) | (with_reducible refine ev_some ?_; first | simp only [hup_s, hup_c, hup_k, ne_eq, Nat.reduceEqDiff, not_false_eq_true] | dsimp only | skip) | (with_reducible refine ev_it ?_ ?_; first | omega | trivial) | (with_reducible refine ev_ie ?_ ?_; first | omega | trivial) | with_reducible refine ev_if (fun _ => ?_) (fun _ => ?_)))) <;> (first | (exfalso; omega) | (refine ⟨?_, ?_, RR_st (by omega) r⟩ <;> first | trivial | omega))
  · ((try simp only [hup_s, hup_c, hup_k, ne_eq, Nat.reduceEqDiff, not_false_eq_true]); repeat' (first | (with_reducible refine ev_ck ?_ ?_; first | omega | trivial) | with_reducible refine ev_bind ?_ | (with_reducible refine ev_nx ?_; first | simp only [hup_s, hup_c, hup_k, ne_eq, Nat.reduceEqDiff, not_false_eq_true] | dsimp only | skip) | (with_reducible refine ev_some ?_; first | simp only [hup_s, hup_c, hup_k, ne_eq, Nat.reduceEqDiff, not_false_eq_true] | dsimp only | skip) | (with_reducible refine ev_it ?_ ?_; first | omega | trivial) | (with_reducible refine ev_ie ?_ ?_; first | omega | trivial) | with_reducible refine ev_if (fun _ => ?_) (fun _ => ?_)))
    all_goals (first | (exfalso; omega) | (refine ⟨?_, ?_, RR_st (by omega) r⟩ <;> first | trivial | omega))
theorem o_ordered : Ob_ordered RR := by
  intro n h a1 hn r i1
  refine ob_ev ?_
  have P := r.2.2.2.2.2.2.2.2.2.1
  simp only [R10] at P
  obtain ⟨p1, p4⟩ := P
  have p5 := p4 a1.toNat
  simp only [F_X11_ordered, F_X11_ordered_0, F_X11_none, F_X11_none_0, F_X11_answer, F_X11_answer_0, F_X12_ordered, F_X12_ordered_0, F_X12_gives, F_X12_gives_0, F_X12_refuse, F_X12_refuse_0]
  ((try simp only [hup_s, hup_c, hup_k, ne_eq, Nat.reduceEqDiff, not_false_eq_true]); repeat' (first | (with_reducible refine ev_ck ?_ ?_; first | omega | trivial) | with_reducible refine ev_bind ?_ | (with_reducible refine ev_nx ?_; first | simp only [hup_s, hup_c, hup_k, ne_eq, Nat.reduceEqDiff, not_false_eq_true] | dsimp only | skip) | (with_reducible refine ev_some ?_; first | simp only [hup_s, hup_c, hup_k, ne_eq, Nat.reduceEqDiff, not_false_eq_true] | dsimp only | skip) | (with_reducible refine ev_it ?_ ?_; first | omega | trivial) | (with_reducible refine ev_ie ?_ ?_; first | omega | trivial) | with_reducible refine ev_if (fun _ => ?_) (fun _ => ?_)))
  all_goals (first | (exfalso; omega) | (refine ⟨?_, ?_, RR_st (by omega) r⟩ <;> first | trivial | omega))
theorem o_shiftOf : Ob_shiftOf RR := by
  intro n h a1 hn r i1
  refine ob_ev ?_
  have P := r.2.2.2.2.2.2.2.2.2.2.1
  simp only [R11] at P
  obtain ⟨p1, p4⟩ := P
  have p5 := p4 a1.toNat
  simp only [F_X11_shiftOf, F_X11_shiftOf_0, F_X11_none, F_X11_none_0, F_X11_answer, F_X11_answer_0, F_X12_shiftOf, F_X12_shiftOf_0, F_X12_gives, F_X12_gives_0, F_X12_refuse, F_X12_refuse_0]
  ((try simp only [hup_s, hup_c, hup_k, ne_eq, Nat.reduceEqDiff, not_false_eq_true]); repeat' (first | (with_reducible refine ev_ck ?_ ?_; first | omega | trivial) | with_reducible refine ev_bind ?_ | (with_reducible refine ev_nx ?_; first | simp only [hup_s, hup_c, hup_k, ne_eq, Nat.reduceEqDiff, not_false_eq_true] | dsimp only | skip) | (with_reducible refine ev_some ?_; first | simp only [hup_s, hup_c, hup_k, ne_eq, Nat.reduceEqDiff, not_false_eq_true] | dsimp only | skip) | (with_reducible refine ev_it ?_ ?_; first | omega | trivial) | (with_reducible refine ev_ie ?_ ?_; first | omega | trivial) | with_reducible refine ev_if (fun _ => ?_) (fun _ => ?_)))
  all_goals (first | (exfalso; omega) | (refine ⟨?_, ?_, RR_st (by omega) r⟩ <;> first | trivial | omega))
theorem o_recall : Ob_recall RR := by
  intro n h a1 a2 a3 a4 a5 a6 hn r i1 i2 i3 i4 i5 i6
  refine ob_ev ?_
  by_cases c1 : a1 < 1
  · simp only [F_X11_recall, F_X11_recall_0, F_X11_outside, F_X11_outside_0, F_X11_recall_55, F_X11_none, F_X11_none_0, F_X11_answer, F_X11_answer_0, F_X11_recall_177]
    ((try simp only [hup_s, hup_c, hup_k, ne_eq, Nat.reduceEqDiff, not_false_eq_true]); repeat' (first | (with_reducible refine ev_ck ?_ ?_; first | omega | trivial) | with_reducible refine ev_bind ?_ | (with_reducible refine ev_nx ?_; first | simp only [hup_s, hup_c, hup_k, ne_eq, Nat.reduceEqDiff, not_false_eq_true] | dsimp only | skip) | (with_reducible refine ev_some ?_; first | simp only [hup_s, hup_c, hup_k, ne_eq, Nat.reduceEqDiff, not_false_eq_true] | dsimp only | skip) | (with_reducible refine ev_it ?_ ?_; first | omega | trivial) | (with_reducible refine ev_ie ?_ ?_; first | omega | trivial) | with_reducible refine ev_if (fun _ => ?_) (fun _ => ?_)))
    all_goals simp only [F_X12_recall, F_X12_recall_0, F_X12_isFrom, F_X12_isFrom_0, F_X12_recall_53, F_X12_refuse, F_X12_refuse_0, F_X12_recall_169, F_X12_gives, F_X12_gives_0, F_X12_recall_133]
    all_goals (((try simp only [hup_s, hup_c, hup_k, ne_eq, Nat.reduceEqDiff, not_false_eq_true]); repeat' (first | (with_reducible refine ev_ck ?_ ?_; first | omega | trivial) | with_reducible refine ev_bind ?_ | (with_reducible refine ev_nx ?_; first | simp only [hup_s, hup_c, hup_k, ne_eq, Nat.reduceEqDiff, not_false_eq_true] | dsimp only | skip) | (with_reducible refine ev_some ?_; first | simp only [hup_s, hup_c, hup_k, ne_eq, Nat.reduceEqDiff, not_false_eq_true] | dsimp only | skip) | (with_reducible refine ev_it ?_ ?_; first | omega | trivial) | (with_reducible refine ev_ie ?_ ?_; first | omega | trivial) | with_reducible refine ev_if (fun _ => ?_) (fun _ => ?_))))
    all_goals (first | (exfalso; omega) | (refine ⟨?_, ?_, RR_st (by omega) r⟩ <;> first | trivial | omega))
  by_cases c2 : 99 < a1
  · simp only [F_X11_recall, F_X11_recall_0, F_X11_outside, F_X11_outside_0, F_X11_recall_55, F_X11_none, F_X11_none_0, F_X11_answer, F_X11_answer_0, F_X11_recall_177]
    ((try simp only [hup_s, hup_c, hup_k, ne_eq, Nat.reduceEqDiff, not_false_eq_true]); repeat' (first | (with_reducible refine ev_ck ?_ ?_; first | omega | trivial) | with_reducible refine ev_bind ?_ | (with_reducible refine ev_nx ?_; first | simp only [hup_s, hup_c, hup_k, ne_eq, Nat.reduceEqDiff, not_false_eq_true] | dsimp only | skip) | (with_reducible refine ev_some ?_; first | simp only [hup_s, hup_c, hup_k, ne_eq, Nat.reduceEqDiff, not_false_eq_true] | dsimp only | skip) | (with_reducible refine ev_it ?_ ?_; first | omega | trivial) | (with_reducible refine ev_ie ?_ ?_; first | omega | trivial) | with_reducible refine ev_if (fun _ => ?_) (fun _ => ?_)))
    all_goals simp only [F_X12_recall, F_X12_recall_0, F_X12_isFrom, F_X12_isFrom_0, F_X12_recall_53, F_X12_refuse, F_X12_refuse_0, F_X12_recall_169, F_X12_gives, F_X12_gives_0, F_X12_recall_133]
    all_goals (((try simp only [hup_s, hup_c, hup_k, ne_eq, Nat.reduceEqDiff, not_false_eq_true]); repeat' (first | (with_reducible refine ev_ck ?_ ?_; first | omega | trivial) | with_reducible refine ev_bind ?_ | (with_reducible refine ev_nx ?_; first | simp only [hup_s, hup_c, hup_k, ne_eq, Nat.reduceEqDiff, not_false_eq_true] | dsimp only | skip) | (with_reducible refine ev_some ?_; first | simp only [hup_s, hup_c, hup_k, ne_eq, Nat.reduceEqDiff, not_false_eq_true] | dsimp only | skip) | (with_reducible refine ev_it ?_ ?_; first | omega | trivial) | (with_reducible refine ev_ie ?_ ?_; first | omega | trivial) | with_reducible refine ev_if (fun _ => ?_) (fun _ => ?_))))
    all_goals (first | (exfalso; omega) | (refine ⟨?_, ?_, RR_st (by omega) r⟩ <;> first | trivial | omega))
  by_cases c3 : a6 < 0
  · simp only [F_X11_recall, F_X11_recall_0, F_X11_outside, F_X11_outside_0, F_X11_recall_55, F_X11_none, F_X11_none_0, F_X11_answer, F_X11_answer_0, F_X11_recall_177]
    ((try simp only [hup_s, hup_c, hup_k, ne_eq, Nat.reduceEqDiff, not_false_eq_true]); repeat' (first | (with_reducible refine ev_ck ?_ ?_; first | omega | trivial) | with_reducible refine ev_bind ?_ | (with_reducible refine ev_nx ?_; first | simp only [hup_s, hup_c, hup_k, ne_eq, Nat.reduceEqDiff, not_false_eq_true] | dsimp only | skip) | (with_reducible refine ev_some ?_; first | simp only [hup_s, hup_c, hup_k, ne_eq, Nat.reduceEqDiff, not_false_eq_true] | dsimp only | skip) | (with_reducible refine ev_it ?_ ?_; first | omega | trivial) | (with_reducible refine ev_ie ?_ ?_; first | omega | trivial) | with_reducible refine ev_if (fun _ => ?_) (fun _ => ?_)))
    all_goals simp only [F_X12_recall, F_X12_recall_0, F_X12_isFrom, F_X12_isFrom_0, F_X12_recall_53, F_X12_refuse, F_X12_refuse_0, F_X12_recall_169, F_X12_gives, F_X12_gives_0, F_X12_recall_133]
    all_goals (((try simp only [hup_s, hup_c, hup_k, ne_eq, Nat.reduceEqDiff, not_false_eq_true]); repeat' (first | (with_reducible refine ev_ck ?_ ?_; first | omega | trivial) | with_reducible refine ev_bind ?_ | (with_reducible refine ev_nx ?_; first | simp only [hup_s, hup_c, hup_k, ne_eq, Nat.reduceEqDiff, not_false_eq_true] | dsimp only | skip) | (with_reducible refine ev_some ?_; first | simp only [hup_s, hup_c, hup_k, ne_eq, Nat.reduceEqDiff, not_false_eq_true] | dsimp only | skip) | (with_reducible refine ev_it ?_ ?_; first | omega | trivial) | (with_reducible refine ev_ie ?_ ?_; first | omega | trivial) | with_reducible refine ev_if (fun _ => ?_) (fun _ => ?_))))
    all_goals (first | (exfalso; omega) | (refine ⟨?_, ?_, RR_st (by omega) r⟩ <;> first | trivial | omega))
  by_cases c4 : 3 < a6
  · simp only [F_X11_recall, F_X11_recall_0, F_X11_outside, F_X11_outside_0, F_X11_recall_55, F_X11_none, F_X11_none_0, F_X11_answer, F_X11_answer_0, F_X11_recall_177]
    ((try simp only [hup_s, hup_c, hup_k, ne_eq, Nat.reduceEqDiff, not_false_eq_true]); repeat' (first | (with_reducible refine ev_ck ?_ ?_; first | omega | trivial) | with_reducible refine ev_bind ?_ | (with_reducible refine ev_nx ?_; first | simp only [hup_s, hup_c, hup_k, ne_eq, Nat.reduceEqDiff, not_false_eq_true] | dsimp only | skip) | (with_reducible refine ev_some ?_; first | simp only [hup_s, hup_c, hup_k, ne_eq, Nat.reduceEqDiff, not_false_eq_true] | dsimp only | skip) | (with_reducible refine ev_it ?_ ?_; first | omega | trivial) | (with_reducible refine ev_ie ?_ ?_; first | omega | trivial) | with_reducible refine ev_if (fun _ => ?_) (fun _ => ?_)))
    all_goals simp only [F_X12_recall, F_X12_recall_0, F_X12_isFrom, F_X12_isFrom_0, F_X12_recall_53, F_X12_refuse, F_X12_refuse_0, F_X12_recall_169, F_X12_gives, F_X12_gives_0, F_X12_recall_133]
    all_goals (((try simp only [hup_s, hup_c, hup_k, ne_eq, Nat.reduceEqDiff, not_false_eq_true]); repeat' (first | (with_reducible refine ev_ck ?_ ?_; first | omega | trivial) | with_reducible refine ev_bind ?_ | (with_reducible refine ev_nx ?_; first | simp only [hup_s, hup_c, hup_k, ne_eq, Nat.reduceEqDiff, not_false_eq_true] | dsimp only | skip) | (with_reducible refine ev_some ?_; first | simp only [hup_s, hup_c, hup_k, ne_eq, Nat.reduceEqDiff, not_false_eq_true] | dsimp only | skip) | (with_reducible refine ev_it ?_ ?_; first | omega | trivial) | (with_reducible refine ev_ie ?_ ?_; first | omega | trivial) | with_reducible refine ev_if (fun _ => ?_) (fun _ => ?_))))
    all_goals (first | (exfalso; omega) | (refine ⟨?_, ?_, RR_st (by omega) r⟩ <;> first | trivial | omega))
  by_cases c5 : a4 < 0
  · simp only [F_X11_recall, F_X11_recall_0, F_X11_outside, F_X11_outside_0, F_X11_recall_55, F_X11_none, F_X11_none_0, F_X11_answer, F_X11_answer_0, F_X11_recall_177]
    ((try simp only [hup_s, hup_c, hup_k, ne_eq, Nat.reduceEqDiff, not_false_eq_true]); repeat' (first | (with_reducible refine ev_ck ?_ ?_; first | omega | trivial) | with_reducible refine ev_bind ?_ | (with_reducible refine ev_nx ?_; first | simp only [hup_s, hup_c, hup_k, ne_eq, Nat.reduceEqDiff, not_false_eq_true] | dsimp only | skip) | (with_reducible refine ev_some ?_; first | simp only [hup_s, hup_c, hup_k, ne_eq, Nat.reduceEqDiff, not_false_eq_true] | dsimp only | skip) | (with_reducible refine ev_it ?_ ?_; first | omega | trivial) | (with_reducible refine ev_ie ?_ ?_; first | omega | trivial) | with_reducible refine ev_if (fun _ => ?_) (fun _ => ?_)))
    all_goals simp only [F_X12_recall, F_X12_recall_0, F_X12_isFrom, F_X12_isFrom_0, F_X12_recall_53, F_X12_refuse, F_X12_refuse_0, F_X12_recall_169, F_X12_gives, F_X12_gives_0, F_X12_recall_133]
    all_goals (((try simp only [hup_s, hup_c, hup_k, ne_eq, Nat.reduceEqDiff, not_false_eq_true]); repeat' (first | (with_reducible refine ev_ck ?_ ?_; first | omega | trivial) | with_reducible refine ev_bind ?_ | (with_reducible refine ev_nx ?_; first | simp only [hup_s, hup_c, hup_k, ne_eq, Nat.reduceEqDiff, not_false_eq_true] | dsimp only | skip) | (with_reducible refine ev_some ?_; first | simp only [hup_s, hup_c, hup_k, ne_eq, Nat.reduceEqDiff, not_false_eq_true] | dsimp only | skip) | (with_reducible refine ev_it ?_ ?_; first | omega | trivial) | (with_reducible refine ev_ie ?_ ?_; first | omega | trivial) | with_reducible refine ev_if (fun _ => ?_) (fun _ => ?_))))
    all_goals (first | (exfalso; omega) | (refine ⟨?_, ?_, RR_st (by omega) r⟩ <;> first | trivial | omega))
  by_cases c6 : a2 < a4
  · simp only [F_X11_recall, F_X11_recall_0, F_X11_outside, F_X11_outside_0, F_X11_recall_55, F_X11_none, F_X11_none_0, F_X11_answer, F_X11_answer_0, F_X11_recall_177]
    ((try simp only [hup_s, hup_c, hup_k, ne_eq, Nat.reduceEqDiff, not_false_eq_true]); repeat' (first | (with_reducible refine ev_ck ?_ ?_; first | omega | trivial) | with_reducible refine ev_bind ?_ | (with_reducible refine ev_nx ?_; first | simp only [hup_s, hup_c, hup_k, ne_eq, Nat.reduceEqDiff, not_false_eq_true] | dsimp only | skip) | (with_reducible refine ev_some ?_; first | simp only [hup_s, hup_c, hup_k, ne_eq, Nat.reduceEqDiff, not_false_eq_true] | dsimp only | skip) | (with_reducible refine ev_it ?_ ?_; first | omega | trivial) | (with_reducible refine ev_ie ?_ ?_; first | omega | trivial) | with_reducible refine ev_if (fun _ => ?_) (fun _ => ?_)))
    all_goals simp only [F_X12_recall, F_X12_recall_0, F_X12_isFrom, F_X12_isFrom_0, F_X12_recall_53, F_X12_refuse, F_X12_refuse_0, F_X12_recall_169, F_X12_gives, F_X12_gives_0, F_X12_recall_133]
    all_goals (((try simp only [hup_s, hup_c, hup_k, ne_eq, Nat.reduceEqDiff, not_false_eq_true]); repeat' (first | (with_reducible refine ev_ck ?_ ?_; first | omega | trivial) | with_reducible refine ev_bind ?_ | (with_reducible refine ev_nx ?_; first | simp only [hup_s, hup_c, hup_k, ne_eq, Nat.reduceEqDiff, not_false_eq_true] | dsimp only | skip) | (with_reducible refine ev_some ?_; first | simp only [hup_s, hup_c, hup_k, ne_eq, Nat.reduceEqDiff, not_false_eq_true] | dsimp only | skip) | (with_reducible refine ev_it ?_ ?_; first | omega | trivial) | (with_reducible refine ev_ie ?_ ?_; first | omega | trivial) | with_reducible refine ev_if (fun _ => ?_) (fun _ => ?_))))
    all_goals (first | (exfalso; omega) | (refine ⟨?_, ?_, RR_st (by omega) r⟩ <;> first | trivial | omega))
  by_cases c7 : a3 < a2
  · simp only [F_X11_recall, F_X11_recall_0, F_X11_outside, F_X11_outside_0, F_X11_recall_55, F_X11_none, F_X11_none_0, F_X11_answer, F_X11_answer_0, F_X11_recall_177]
    ((try simp only [hup_s, hup_c, hup_k, ne_eq, Nat.reduceEqDiff, not_false_eq_true]); repeat' (first | (with_reducible refine ev_ck ?_ ?_; first | omega | trivial) | with_reducible refine ev_bind ?_ | (with_reducible refine ev_nx ?_; first | simp only [hup_s, hup_c, hup_k, ne_eq, Nat.reduceEqDiff, not_false_eq_true] | dsimp only | skip) | (with_reducible refine ev_some ?_; first | simp only [hup_s, hup_c, hup_k, ne_eq, Nat.reduceEqDiff, not_false_eq_true] | dsimp only | skip) | (with_reducible refine ev_it ?_ ?_; first | omega | trivial) | (with_reducible refine ev_ie ?_ ?_; first | omega | trivial) | with_reducible refine ev_if (fun _ => ?_) (fun _ => ?_)))
    all_goals simp only [F_X12_recall, F_X12_recall_0, F_X12_isFrom, F_X12_isFrom_0, F_X12_recall_53, F_X12_refuse, F_X12_refuse_0, F_X12_recall_169, F_X12_gives, F_X12_gives_0, F_X12_recall_133]
    all_goals (((try simp only [hup_s, hup_c, hup_k, ne_eq, Nat.reduceEqDiff, not_false_eq_true]); repeat' (first | (with_reducible refine ev_ck ?_ ?_; first | omega | trivial) | with_reducible refine ev_bind ?_ | (with_reducible refine ev_nx ?_; first | simp only [hup_s, hup_c, hup_k, ne_eq, Nat.reduceEqDiff, not_false_eq_true] | dsimp only | skip) | (with_reducible refine ev_some ?_; first | simp only [hup_s, hup_c, hup_k, ne_eq, Nat.reduceEqDiff, not_false_eq_true] | dsimp only | skip) | (with_reducible refine ev_it ?_ ?_; first | omega | trivial) | (with_reducible refine ev_ie ?_ ?_; first | omega | trivial) | with_reducible refine ev_if (fun _ => ?_) (fun _ => ?_))))
    all_goals (first | (exfalso; omega) | (refine ⟨?_, ?_, RR_st (by omega) r⟩ <;> first | trivial | omega))
  by_cases c8 : a5 < a3
  · simp only [F_X11_recall, F_X11_recall_0, F_X11_outside, F_X11_outside_0, F_X11_recall_55, F_X11_none, F_X11_none_0, F_X11_answer, F_X11_answer_0, F_X11_recall_177]
    ((try simp only [hup_s, hup_c, hup_k, ne_eq, Nat.reduceEqDiff, not_false_eq_true]); repeat' (first | (with_reducible refine ev_ck ?_ ?_; first | omega | trivial) | with_reducible refine ev_bind ?_ | (with_reducible refine ev_nx ?_; first | simp only [hup_s, hup_c, hup_k, ne_eq, Nat.reduceEqDiff, not_false_eq_true] | dsimp only | skip) | (with_reducible refine ev_some ?_; first | simp only [hup_s, hup_c, hup_k, ne_eq, Nat.reduceEqDiff, not_false_eq_true] | dsimp only | skip) | (with_reducible refine ev_it ?_ ?_; first | omega | trivial) | (with_reducible refine ev_ie ?_ ?_; first | omega | trivial) | with_reducible refine ev_if (fun _ => ?_) (fun _ => ?_)))
    all_goals simp only [F_X12_recall, F_X12_recall_0, F_X12_isFrom, F_X12_isFrom_0, F_X12_recall_53, F_X12_refuse, F_X12_refuse_0, F_X12_recall_169, F_X12_gives, F_X12_gives_0, F_X12_recall_133]
    all_goals (((try simp only [hup_s, hup_c, hup_k, ne_eq, Nat.reduceEqDiff, not_false_eq_true]); repeat' (first | (with_reducible refine ev_ck ?_ ?_; first | omega | trivial) | with_reducible refine ev_bind ?_ | (with_reducible refine ev_nx ?_; first | simp only [hup_s, hup_c, hup_k, ne_eq, Nat.reduceEqDiff, not_false_eq_true] | dsimp only | skip) | (with_reducible refine ev_some ?_; first | simp only [hup_s, hup_c, hup_k, ne_eq, Nat.reduceEqDiff, not_false_eq_true] | dsimp only | skip) | (with_reducible refine ev_it ?_ ?_; first | omega | trivial) | (with_reducible refine ev_ie ?_ ?_; first | omega | trivial) | with_reducible refine ev_if (fun _ => ?_) (fun _ => ?_))))
    all_goals (first | (exfalso; omega) | (refine ⟨?_, ?_, RR_st (by omega) r⟩ <;> first | trivial | omega))
  by_cases c9 : 9999 < a5
  · simp only [F_X11_recall, F_X11_recall_0, F_X11_outside, F_X11_outside_0, F_X11_recall_55, F_X11_none, F_X11_none_0, F_X11_answer, F_X11_answer_0, F_X11_recall_177]
    ((try simp only [hup_s, hup_c, hup_k, ne_eq, Nat.reduceEqDiff, not_false_eq_true]); repeat' (first | (with_reducible refine ev_ck ?_ ?_; first | omega | trivial) | with_reducible refine ev_bind ?_ | (with_reducible refine ev_nx ?_; first | simp only [hup_s, hup_c, hup_k, ne_eq, Nat.reduceEqDiff, not_false_eq_true] | dsimp only | skip) | (with_reducible refine ev_some ?_; first | simp only [hup_s, hup_c, hup_k, ne_eq, Nat.reduceEqDiff, not_false_eq_true] | dsimp only | skip) | (with_reducible refine ev_it ?_ ?_; first | omega | trivial) | (with_reducible refine ev_ie ?_ ?_; first | omega | trivial) | with_reducible refine ev_if (fun _ => ?_) (fun _ => ?_)))
    all_goals simp only [F_X12_recall, F_X12_recall_0, F_X12_isFrom, F_X12_isFrom_0, F_X12_recall_53, F_X12_refuse, F_X12_refuse_0, F_X12_recall_169, F_X12_gives, F_X12_gives_0, F_X12_recall_133]
    all_goals (((try simp only [hup_s, hup_c, hup_k, ne_eq, Nat.reduceEqDiff, not_false_eq_true]); repeat' (first | (with_reducible refine ev_ck ?_ ?_; first | omega | trivial) | with_reducible refine ev_bind ?_ | (with_reducible refine ev_nx ?_; first | simp only [hup_s, hup_c, hup_k, ne_eq, Nat.reduceEqDiff, not_false_eq_true] | dsimp only | skip) | (with_reducible refine ev_some ?_; first | simp only [hup_s, hup_c, hup_k, ne_eq, Nat.reduceEqDiff, not_false_eq_true] | dsimp only | skip) | (with_reducible refine ev_it ?_ ?_; first | omega | trivial) | (with_reducible refine ev_ie ?_ ?_; first | omega | trivial) | with_reducible refine ev_if (fun _ => ?_) (fun _ => ?_))))
    all_goals (first | (exfalso; omega) | (refine ⟨?_, ?_, RR_st (by omega) r⟩ <;> first | trivial | omega))
  have t2 := td_le (a := a2) (b := a1) (by omega) (by omega)
  have t3 := td_le (a := a3) (b := a1) (by omega) (by omega)
  have t4 := td_le (a := a4) (b := a1) (by omega) (by omega)
  have t5 := td_le (a := a5) (b := a1) (by omega) (by omega)
  simp only [F_X11_recall, F_X11_recall_0, F_X11_outside, F_X11_outside_0, F_X11_recall_55, F_X11_none, F_X11_none_0, F_X11_answer, F_X11_answer_0, F_X11_recall_177]
  ((try simp only [hup_s, hup_c, hup_k, ne_eq, Nat.reduceEqDiff, not_false_eq_true]); repeat' (first | (with_reducible refine ev_ck ?_ ?_; first | omega | trivial) | with_reducible refine ev_bind ?_ | (with_reducible refine ev_nx ?_; first | simp only [hup_s, hup_c, hup_k, ne_eq, Nat.reduceEqDiff, not_false_eq_true] | dsimp only | skip) | (with_reducible refine ev_some ?_; first | simp only [hup_s, hup_c, hup_k, ne_eq, Nat.reduceEqDiff, not_false_eq_true] | dsimp only | skip) | (with_reducible refine ev_it ?_ ?_; first | omega | trivial) | (with_reducible refine ev_ie ?_ ?_; first | omega | trivial) | with_reducible refine ev_if (fun _ => ?_) (fun _ => ?_)))
  all_goals simp only [F_X12_recall, F_X12_recall_0, F_X12_isFrom, F_X12_isFrom_0, F_X12_recall_53, F_X12_refuse, F_X12_refuse_0, F_X12_recall_169, F_X12_gives, F_X12_gives_0, F_X12_recall_133]
  all_goals (((try simp only [hup_s, hup_c, hup_k, ne_eq, Nat.reduceEqDiff, not_false_eq_true]); repeat' (first | (with_reducible refine ev_ck ?_ ?_; first | omega | trivial) | with_reducible refine ev_bind ?_ | (with_reducible refine ev_nx ?_; first | simp only [hup_s, hup_c, hup_k, ne_eq, Nat.reduceEqDiff, not_false_eq_true] | dsimp only | skip) | (with_reducible refine ev_some ?_; first | simp only [hup_s, hup_c, hup_k, ne_eq, Nat.reduceEqDiff, not_false_eq_true] | dsimp only | skip) | (with_reducible refine ev_it ?_ ?_; first | omega | trivial) | (with_reducible refine ev_ie ?_ ?_; first | omega | trivial) | with_reducible refine ev_if (fun _ => ?_) (fun _ => ?_))))
  all_goals (first | (exfalso; omega) | (refine ⟨?_, ?_, RR_st (by omega) r⟩ <;> first | trivial | omega))
