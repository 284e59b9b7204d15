/-! ===== torn ===== -/
theorem torn_l {c t N : Nat} {h : MH} (ht : t < 4) (hN : N ≤ 60) (hv : ∀ k, k < N → -1 ≤ h c k ∧ h c k ≤ 99) : ∀ (d f j cn : Nat) (rm : Int), cn ≤ j → (-6000 + 99 * (d : Int) ≤ rm ∧ rm ≤ 9999) → j + d = N → d < f →
    (F_X11_torn_96 f (N : Int) c (cn : Int) rm (j : Int) h = some (0, hup h 0 0 6) ∧ ∀ (f' : Nat) (h' : MH), (∀ k, k < N → h' 145 (60 * t + k) = h c k) → d < f' → F_X12_torn_65 f' (t : Int) (N : Int) rm (cn : Int) (j : Int) h' = some (0, hup h' 141 1 6)) ∨
    ∃ p q : Int, in64 p ∧ in64 q ∧ F_X11_torn_96 f (N : Int) c (cn : Int) rm (j : Int) h = some (1, hup (hup (hup h 0 1 p) 0 2 q) 0 0 0) ∧ ∀ (f' : Nat) (h' : MH), (∀ k, k < N → h' 145 (60 * t + k) = h c k) → d < f' → F_X12_torn_65 f' (t : Int) (N : Int) rm (cn : Int) (j : Int) h' = some (1, hup (hup (hup h' 141 2 p) 141 3 q) 141 1 0) := by
  intro d
  induction d with
  | zero =>
    intro f j cn rm hc hr e hf
    obtain ⟨f, rfl⟩ : ∃ g, f = g + 1 := ⟨f - 1, by omega⟩
    by_cases c1 : cn = 0
    · refine Or.inl ⟨?_, ?_⟩
      · unfold F_X11_torn_96 ck
        rw [if_pos (by omega), if_pos (by omega), if_pos (by omega), if_pos (by omega), if_pos (by omega)]
        rfl
      · intro f' h' he hf'
        obtain ⟨f', rfl⟩ : ∃ g, f' = g + 1 := ⟨f' - 1, by omega⟩
        unfold F_X12_torn_65 ck
        rw [if_pos (by omega), if_pos (by omega), if_pos (by omega), if_pos (by omega), if_pos (by omega)]
        unfold F_X12_torn_145
        rw [is_eq (by omega)]
        rfl
    by_cases c2 : rm < 0
    · refine Or.inl ⟨?_, ?_⟩
      · unfold F_X11_torn_96 ck
        rw [if_pos (by omega), if_pos (by omega), if_pos (by omega), if_pos (by omega), if_neg (by omega), if_pos (by omega), if_pos (by omega)]
        rfl
      · intro f' h' he hf'
        obtain ⟨f', rfl⟩ : ∃ g, f' = g + 1 := ⟨f' - 1, by omega⟩
        unfold F_X12_torn_65 ck
        rw [if_pos (by omega), if_pos (by omega), if_pos (by omega), if_pos (by omega), if_neg (by omega), if_pos (by omega), if_pos (by omega)]
        unfold F_X12_torn_145
        rw [is_eq (by omega)]
        rfl
    by_cases c3 : rm ≤ 99 * (cn : Int)
    · obtain ⟨a, ea⟩ : ∃ t : Nat, rm = t := ⟨rm.toNat, by omega⟩
      subst ea
      obtain ⟨p, q, hp, hq, t1, t2⟩ := tell_both (a := a) (b := cn) (by omega) (by omega) (by omega)
      refine Or.inr ⟨p, q, hp, hq, ?_, ?_⟩
      · unfold F_X11_torn_96 ck
        rw [if_pos (by omega), if_pos (by omega), if_pos (by omega), if_pos (by omega), if_neg (by omega), if_pos (by omega), if_neg (by omega), if_pos (by omega), if_pos (by omega), t1]
        rfl
      · intro f' h' he hf'
        obtain ⟨f', rfl⟩ : ∃ g, f' = g + 1 := ⟨f' - 1, by omega⟩
        unfold F_X12_torn_65 ck
        rw [if_pos (by omega), if_pos (by omega), if_pos (by omega), if_pos (by omega), if_neg (by omega), if_pos (by omega), if_neg (by omega), if_pos (by omega), if_pos (by omega), t2]
        rfl
    · refine Or.inl ⟨?_, ?_⟩
      · unfold F_X11_torn_96 ck
        rw [if_pos (by omega), if_pos (by omega), if_pos (by omega), if_pos (by omega), if_neg (by omega), if_pos (by omega), if_neg (by omega), if_pos (by omega), if_neg (by omega)]
        rfl
      · intro f' h' he hf'
        obtain ⟨f', rfl⟩ : ∃ g, f' = g + 1 := ⟨f' - 1, by omega⟩
        unfold F_X12_torn_65 ck
        rw [if_pos (by omega), if_pos (by omega), if_pos (by omega), if_pos (by omega), if_neg (by omega), if_pos (by omega), if_neg (by omega), if_pos (by omega), if_neg (by omega)]
        unfold F_X12_torn_145
        rw [is_eq (by omega)]
        rfl
  | succ d ih =>
    intro f j cn rm hc hr e hf
    obtain ⟨f, rfl⟩ : ∃ g, f = g + 1 := ⟨f - 1, by omega⟩
    have vj := hv j (by omega)
    have hx : (60 * (t : Int) + (j : Int)).toNat = 60 * t + j := by omega
    by_cases q : 0 ≤ h c j
    · have E1 : F_X11_torn_96 (f + 1) (N : Int) c (cn : Int) rm (j : Int) h = F_X11_torn_96 f (N : Int) c (cn : Int) (rm - h c j) ((j + 1 : Nat) : Int) h := by
        rw [F_X11_torn_96]
        unfold ck
        rw [if_pos (by omega), if_pos (by omega), if_neg (by omega), if_pos (by omega), Int.toNat_natCast, if_pos (by omega), if_pos q]
        rfl
      have E2 : ∀ (f' : Nat) (h' : MH), (∀ k, k < N → h' 145 (60 * t + k) = h c k) → F_X12_torn_65 (f' + 1) (t : Int) (N : Int) rm (cn : Int) (j : Int) h' = F_X12_torn_65 f' (t : Int) (N : Int) (rm - h c j) (cn : Int) ((j + 1 : Nat) : Int) h' := by
        intro f' h' he
        rw [F_X12_torn_65]
        unfold F_X12_torn_99 ck
        rw [if_pos (by omega), if_pos (by omega), if_neg (by omega), if_pos (by omega), hx, he _ (by omega), nx_eq, if_pos (by omega), if_pos q, nx_eq, if_pos (by omega), nx_eq, Int.add_zero, Int.max_eq_right q]
        rfl
      rw [E1]
      rcases ih f (j + 1) cn (rm - h c j) (by omega) (by omega) (by omega) (by omega) with ⟨w1, w2⟩ | ⟨p, q', hp, hq, w1, w2⟩
      · refine Or.inl ⟨w1, fun f' h' he hf' => ?_⟩
        obtain ⟨f', rfl⟩ : ∃ g, f' = g + 1 := ⟨f' - 1, by omega⟩
        rw [E2 f' h' he]; exact w2 f' h' he (by omega)
      · refine Or.inr ⟨p, q', hp, hq, w1, fun f' h' he hf' => ?_⟩
        obtain ⟨f', rfl⟩ : ∃ g, f' = g + 1 := ⟨f' - 1, by omega⟩
        rw [E2 f' h' he]; exact w2 f' h' he (by omega)
    · have E1 : F_X11_torn_96 (f + 1) (N : Int) c (cn : Int) rm (j : Int) h = F_X11_torn_96 f (N : Int) c ((cn + 1 : Nat) : Int) rm ((j + 1 : Nat) : Int) h := by
        rw [F_X11_torn_96]
        unfold ck
        rw [if_pos (by omega), if_pos (by omega), if_neg (by omega), if_pos (by omega), Int.toNat_natCast, if_pos (by omega), if_neg q]
        rfl
      have E2 : ∀ (f' : Nat) (h' : MH), (∀ k, k < N → h' 145 (60 * t + k) = h c k) → F_X12_torn_65 (f' + 1) (t : Int) (N : Int) rm (cn : Int) (j : Int) h' = F_X12_torn_65 f' (t : Int) (N : Int) rm ((cn + 1 : Nat) : Int) ((j + 1 : Nat) : Int) h' := by
        intro f' h' he
        rw [F_X12_torn_65]
        unfold F_X12_torn_99 ck
        rw [if_pos (by omega), if_pos (by omega), if_neg (by omega), if_pos (by omega), hx, he _ (by omega), nx_eq, if_pos (by omega), if_neg q, nx_eq, if_pos (by omega), nx_eq, show rm - max 0 (h c j) = rm by omega]
        rfl
      rw [E1]
      rcases ih f (j + 1) (cn + 1) rm (by omega) (by omega) (by omega) (by omega) with ⟨w1, w2⟩ | ⟨p, q', hp, hq, w1, w2⟩
      · refine Or.inl ⟨w1, fun f' h' he hf' => ?_⟩
        obtain ⟨f', rfl⟩ : ∃ g, f' = g + 1 := ⟨f' - 1, by omega⟩
        rw [E2 f' h' he]; exact w2 f' h' he (by omega)
      · refine Or.inr ⟨p, q', hp, hq, w1, fun f' h' he hf' => ?_⟩
        obtain ⟨f', rfl⟩ : ∃ g, f' = g + 1 := ⟨f' - 1, by omega⟩
        rw [E2 f' h' he]; exact w2 f' h' he (by omega)
theorem RR_rowg {n : Nat} {h g : MH} (r : RR n h) (e1 : ∀ k, g 144 k = h 144 k) (e2 : ∀ k, g 145 k = h 145 k) : (∀ t : Nat, t < 4 → -1 ≤ g 144 t ∧ g 144 t ≤ 60) ∧ ∀ t k : Nat, t < 4 → (k : Int) < g 144 t → in64 (g 145 (60 * t + k)) := by
  have r2 := r.2.1
  refine ⟨fun t ht => ?_, fun t k ht hk => ?_⟩
  · obtain ⟨-, q, -⟩ := r2 t ht
    rw [e1]
    omega
  · obtain ⟨-, q, q3⟩ := r2 t ht
    rw [e1] at hk
    rw [e2]
    have q4 := q3 k (by omega)
    rw [q4.2]; exact q4.1
theorem o_torn : Ob_torn RR := by
  intro n h a1 a2 a3 hn r i1 i2 i3
  refine ob_ev ?_
  have r2 := r.2.1
  have e1 : ∀ v : Int, ∀ k, hup h 0 0 v 144 k = h 144 k := fun v k => by rw [hup_c _ _ _ _ _ _ (by decide)]
  have e2 : ∀ v : Int, ∀ k, hup h 0 0 v 145 k = h 145 k := fun v k => by rw [hup_c _ _ _ _ _ _ (by decide)]
  by_cases c0 : (1 ≤ a2 ∧ a2 ≤ 60) ∧ (0 ≤ a3 ∧ a3 ≤ 9999)
  rotate_left
  · simp only [F_X11_torn, F_X11_torn_0, F_X11_isTray, F_X11_isTray_0, F_X11_torn_31, F_X11_refused, F_X11_refused_0, F_X11_outside, F_X11_outside_0, F_X11_rowLack, F_X11_rowLack_0]
    ((try simp only [hup_s, hup_c, hup_k, ne_eq, Nat.reduceEqDiff, not_false_eq_true]); repeat' (first | (with_reducible refine ev_ck ?_ ?_; first | omega | trivial) | with_reducible refine ev_bind ?_ | (with_reducible refine ev_nx ?_; first | simp only [hup_s, hup_c, hup_k, ne_eq, Nat.reduceEqDiff, not_false_eq_true] | dsimp only | skip) | (with_reducible refine ev_some ?_; first | simp only [hup_s, hup_c, hup_k, ne_eq, Nat.reduceEqDiff, not_false_eq_true] | dsimp only | skip) | (with_reducible refine ev_it ?_ ?_; first | omega | trivial) | (with_reducible refine ev_ie ?_ ?_; first | omega | trivial) | with_reducible refine ev_if (fun _ => ?_) (fun _ => ?_)))
    all_goals try (exfalso; omega)
    all_goals simp only [F_X12_torn, F_X12_torn_0, F_X12_isFrom, F_X12_isFrom_0, F_X12_torn_29, F_X12_torn_30, F_X12_wrongRow, F_X12_wrongRow_0, F_X12_isTray, F_X12_isTray_0, F_X12_is, F_X12_is_0]
    all_goals (((try simp only [hup_s, hup_c, hup_k, ne_eq, Nat.reduceEqDiff, not_false_eq_true]); repeat' (first | (with_reducible refine ev_ck ?_ ?_; first | omega | trivial) | with_reducible refine ev_bind ?_ | (with_reducible refine ev_nx ?_; first | simp only [hup_s, hup_c, hup_k, ne_eq, Nat.reduceEqDiff, not_false_eq_true] | dsimp only | skip) | (with_reducible refine ev_some ?_; first | simp only [hup_s, hup_c, hup_k, ne_eq, Nat.reduceEqDiff, not_false_eq_true] | dsimp only | skip) | (with_reducible refine ev_it ?_ ?_; first | omega | trivial) | (with_reducible refine ev_ie ?_ ?_; first | omega | trivial) | with_reducible refine ev_if (fun _ => ?_) (fun _ => ?_))))
    all_goals try (exfalso; omega)
    all_goals (first | (exfalso; omega) | (refine ⟨?_, ?_, RR_st (by omega) r⟩ <;> first | trivial | omega))
  obtain ⟨c0, c9⟩ := c0
  by_cases c1 : 0 ≤ a1 ∧ a1 < 4
  · obtain ⟨t, e⟩ : ∃ t : Nat, a1 = t := ⟨a1.toNat, by omega⟩
    obtain ⟨N, e'⟩ : ∃ t : Nat, a2 = t := ⟨a2.toNat, by omega⟩
    subst e e'
    obtain ⟨q1, q2, q3⟩ := r2 t (by omega)
    have wr : ∀ v : Int, _ := fun v => wrR (x1 := (t : Int)) (N := (N : Int)) (lo := -1) (hi := 99) (h := hup h 0 0 v) i1 (by omega) (by omega) (by omega) (by omega) (RR_row r v).1 (RR_row r v).2
    simp only [Int.toNat_natCast, e1, e2] at wr
    by_cases c2 : h 7 t = -1
    · obtain ⟨b, b0, b1, b2, b3, b4, b5⟩ := wr 2
      have : b = 2 := b2.mpr ⟨c1, by omega⟩
      subst this
      simp only [F_X11_torn, F_X11_torn_0, F_X11_isTray, F_X11_isTray_0, F_X11_torn_31, F_X11_refused, F_X11_refused_0, F_X11_outside, F_X11_outside_0, F_X11_rowLack, F_X11_rowLack_0]
      simp only [Int.toNat_natCast]
      ((try simp only [hup_s, hup_c, hup_k, ne_eq, Nat.reduceEqDiff, not_false_eq_true]); repeat' (first | (with_reducible refine ev_ck ?_ ?_; first | omega | trivial) | with_reducible refine ev_bind ?_ | (with_reducible refine ev_nx ?_; first | simp only [hup_s, hup_c, hup_k, ne_eq, Nat.reduceEqDiff, not_false_eq_true] | dsimp only | skip) | (with_reducible refine ev_some ?_; first | simp only [hup_s, hup_c, hup_k, ne_eq, Nat.reduceEqDiff, not_false_eq_true] | dsimp only | skip) | (with_reducible refine ev_it ?_ ?_; first | omega | trivial) | (with_reducible refine ev_ie ?_ ?_; first | omega | trivial) | with_reducible refine ev_if (fun _ => ?_) (fun _ => ?_)))
      simp only [F_X12_torn, F_X12_torn_0, F_X12_isFrom, F_X12_isFrom_0, F_X12_torn_29, F_X12_torn_30, F_X12_is, F_X12_is_0]
      ((try simp only [hup_s, hup_c, hup_k, ne_eq, Nat.reduceEqDiff, not_false_eq_true]); repeat' (first | (with_reducible refine ev_ck ?_ ?_; first | omega | trivial) | with_reducible refine ev_bind ?_ | (with_reducible refine ev_nx ?_; first | simp only [hup_s, hup_c, hup_k, ne_eq, Nat.reduceEqDiff, not_false_eq_true] | dsimp only | skip) | (with_reducible refine ev_some ?_; first | simp only [hup_s, hup_c, hup_k, ne_eq, Nat.reduceEqDiff, not_false_eq_true] | dsimp only | skip) | (with_reducible refine ev_it ?_ ?_; first | omega | trivial) | (with_reducible refine ev_ie ?_ ?_; first | omega | trivial) | with_reducible refine ev_if (fun _ => ?_) (fun _ => ?_) | rw [b0]))
      (first | (exfalso; omega) | (refine ⟨?_, ?_, RR_st (by omega) r⟩ <;> first | trivial | omega))
    by_cases c3 : (N : Int) ≤ h 7 t
    rotate_left
    · obtain ⟨b, b0, b1, b2, b3, b4, b5⟩ := wr 3
      have : b = 3 := b3.mpr ⟨c1, by omega, by omega⟩
      subst this
      simp only [F_X11_torn, F_X11_torn_0, F_X11_isTray, F_X11_isTray_0, F_X11_torn_31, F_X11_refused, F_X11_refused_0, F_X11_outside, F_X11_outside_0, F_X11_rowLack, F_X11_rowLack_0]
      simp only [Int.toNat_natCast]
      ((try simp only [hup_s, hup_c, hup_k, ne_eq, Nat.reduceEqDiff, not_false_eq_true]); repeat' (first | (with_reducible refine ev_ck ?_ ?_; first | omega | trivial) | with_reducible refine ev_bind ?_ | (with_reducible refine ev_nx ?_; first | simp only [hup_s, hup_c, hup_k, ne_eq, Nat.reduceEqDiff, not_false_eq_true] | dsimp only | skip) | (with_reducible refine ev_some ?_; first | simp only [hup_s, hup_c, hup_k, ne_eq, Nat.reduceEqDiff, not_false_eq_true] | dsimp only | skip) | (with_reducible refine ev_it ?_ ?_; first | omega | trivial) | (with_reducible refine ev_ie ?_ ?_; first | omega | trivial) | with_reducible refine ev_if (fun _ => ?_) (fun _ => ?_)))
      simp only [F_X12_torn, F_X12_torn_0, F_X12_isFrom, F_X12_isFrom_0, F_X12_torn_29, F_X12_torn_30, F_X12_is, F_X12_is_0]
      ((try simp only [hup_s, hup_c, hup_k, ne_eq, Nat.reduceEqDiff, not_false_eq_true]); repeat' (first | (with_reducible refine ev_ck ?_ ?_; first | omega | trivial) | with_reducible refine ev_bind ?_ | (with_reducible refine ev_nx ?_; first | simp only [hup_s, hup_c, hup_k, ne_eq, Nat.reduceEqDiff, not_false_eq_true] | dsimp only | skip) | (with_reducible refine ev_some ?_; first | simp only [hup_s, hup_c, hup_k, ne_eq, Nat.reduceEqDiff, not_false_eq_true] | dsimp only | skip) | (with_reducible refine ev_it ?_ ?_; first | omega | trivial) | (with_reducible refine ev_ie ?_ ?_; first | omega | trivial) | with_reducible refine ev_if (fun _ => ?_) (fun _ => ?_) | rw [b0]))
      (first | (exfalso; omega) | (refine ⟨?_, ?_, RR_st (by omega) r⟩ <;> first | trivial | omega))
    obtain ⟨x, x1, x2, x3⟩ := allW (c := 2 + t) (N := N) (lo := -1) (hi := 99) (h := h) (by omega) (by omega) (by omega) (fun k hk => (q3 k (by omega)).1)
    by_cases c4 : x = 1
    · subst c4
      have x3' := x3.mp rfl
      have x4' : ∀ g : MH, (∀ k, g 144 k = h 144 k) → (∀ k, g 145 k = h 145 k) → F_X12_wrongRow 1 (t : Int) (N : Int) (-1) 99 g = some (0, g) := fun g ge1 ge2 => by
        obtain ⟨b, b0, b1, b2, b3, b4, b5⟩ := wrR (x1 := (t : Int)) (N := (N : Int)) (lo := -1) (hi := 99) (h := g) i1 (by omega) (by omega) (by omega) (by omega) (RR_rowg r ge1 ge2).1 (RR_rowg r ge1 ge2).2
        rw [Int.toNat_natCast, ge1] at b4
        have : b = 0 := b4.mpr ⟨c1, by omega, by omega, fun k hk => by rw [ge2, (q3 k (by omega)).2]; exact x3' k (by omega)⟩
        subst this
        exact b0
      have T := torn_l (c := 2 + t) (t := t) (N := N) (h := h) (by omega) (by omega) x3' N 20000 0 0 a3 (by omega) (by omega) (by omega) (by omega)
      rw [show ((0 : Nat) : Int) = 0 from rfl] at T
      rcases T with ⟨w1, w2⟩ | ⟨p, q, hp, hq, w1, w2⟩
      · have y1 := x4' (hup h 0 0 6) (fun k => hup_c _ _ _ _ _ _ (by decide)) (fun k => hup_c _ _ _ _ _ _ (by decide))
        have y2 := w2 20000 (hup h 0 0 6) (fun k hk => by rw [hup_c _ _ _ _ _ _ (by decide)]; exact (q3 k (by omega)).2) (by omega)
        simp only [F_X11_torn, F_X11_torn_0, F_X11_isTray, F_X11_isTray_0, F_X11_torn_31, F_X11_refused, F_X11_refused_0, F_X11_outside, F_X11_outside_0, F_X11_rowLack, F_X11_rowLack_0]
        simp only [Int.toNat_natCast]
        ((try simp only [hup_s, hup_c, hup_k, ne_eq, Nat.reduceEqDiff, not_false_eq_true]); repeat' (first | (with_reducible refine ev_ck ?_ ?_; first | omega | trivial) | with_reducible refine ev_bind ?_ | (with_reducible refine ev_nx ?_; first | simp only [hup_s, hup_c, hup_k, ne_eq, Nat.reduceEqDiff, not_false_eq_true] | dsimp only | skip) | (with_reducible refine ev_some ?_; first | simp only [hup_s, hup_c, hup_k, ne_eq, Nat.reduceEqDiff, not_false_eq_true] | dsimp only | skip) | (with_reducible refine ev_it ?_ ?_; first | omega | trivial) | (with_reducible refine ev_ie ?_ ?_; first | omega | trivial) | with_reducible refine ev_if (fun _ => ?_) (fun _ => ?_) | rw [x2] | rw [w1]))
        simp only [F_X12_torn, F_X12_torn_0, F_X12_isFrom, F_X12_isFrom_0, F_X12_torn_29, F_X12_torn_30, F_X12_is, F_X12_is_0]
        ((try simp only [hup_s, hup_c, hup_k, ne_eq, Nat.reduceEqDiff, not_false_eq_true]); repeat' (first | (with_reducible refine ev_ck ?_ ?_; first | omega | trivial) | with_reducible refine ev_bind ?_ | (with_reducible refine ev_nx ?_; first | simp only [hup_s, hup_c, hup_k, ne_eq, Nat.reduceEqDiff, not_false_eq_true] | dsimp only | skip) | (with_reducible refine ev_some ?_; first | simp only [hup_s, hup_c, hup_k, ne_eq, Nat.reduceEqDiff, not_false_eq_true] | dsimp only | skip) | (with_reducible refine ev_it ?_ ?_; first | omega | trivial) | (with_reducible refine ev_ie ?_ ?_; first | omega | trivial) | with_reducible refine ev_if (fun _ => ?_) (fun _ => ?_) | rw [y1] | rw [y2]))
        (first | (exfalso; omega) | (refine ⟨?_, ?_, RR_st (by omega) r⟩ <;> first | trivial | omega))
      · have y1 := x4' (hup (hup (hup h 0 1 p) 0 2 q) 0 0 0) (fun k => rfl) (fun k => rfl)
        have y2 := w2 20000 (hup (hup (hup h 0 1 p) 0 2 q) 0 0 0) (fun k hk => (q3 k (by omega)).2) (by omega)
        simp only [F_X11_torn, F_X11_torn_0, F_X11_isTray, F_X11_isTray_0, F_X11_torn_31, F_X11_refused, F_X11_refused_0, F_X11_outside, F_X11_outside_0, F_X11_rowLack, F_X11_rowLack_0]
        simp only [Int.toNat_natCast]
        ((try simp only [hup_s, hup_c, hup_k, ne_eq, Nat.reduceEqDiff, not_false_eq_true]); repeat' (first | (with_reducible refine ev_ck ?_ ?_; first | omega | trivial) | with_reducible refine ev_bind ?_ | (with_reducible refine ev_nx ?_; first | simp only [hup_s, hup_c, hup_k, ne_eq, Nat.reduceEqDiff, not_false_eq_true] | dsimp only | skip) | (with_reducible refine ev_some ?_; first | simp only [hup_s, hup_c, hup_k, ne_eq, Nat.reduceEqDiff, not_false_eq_true] | dsimp only | skip) | (with_reducible refine ev_it ?_ ?_; first | omega | trivial) | (with_reducible refine ev_ie ?_ ?_; first | omega | trivial) | with_reducible refine ev_if (fun _ => ?_) (fun _ => ?_) | rw [x2] | rw [w1]))
        simp only [F_X12_torn, F_X12_torn_0, F_X12_isFrom, F_X12_isFrom_0, F_X12_torn_29, F_X12_torn_30, F_X12_is, F_X12_is_0]
        ((try simp only [hup_s, hup_c, hup_k, ne_eq, Nat.reduceEqDiff, not_false_eq_true]); repeat' (first | (with_reducible refine ev_ck ?_ ?_; first | omega | trivial) | with_reducible refine ev_bind ?_ | (with_reducible refine ev_nx ?_; first | simp only [hup_s, hup_c, hup_k, ne_eq, Nat.reduceEqDiff, not_false_eq_true] | dsimp only | skip) | (with_reducible refine ev_some ?_; first | simp only [hup_s, hup_c, hup_k, ne_eq, Nat.reduceEqDiff, not_false_eq_true] | dsimp only | skip) | (with_reducible refine ev_it ?_ ?_; first | omega | trivial) | (with_reducible refine ev_ie ?_ ?_; first | omega | trivial) | with_reducible refine ev_if (fun _ => ?_) (fun _ => ?_) | rw [y1] | rw [y2]))
        exact ⟨trivial, by omega, RR_tell r hp hq⟩
    · have c5 : x = 0 := by omega
      subst c5
      obtain ⟨b, b0, b1, b2, b3, b4, b5⟩ := wr 5
      have : b = 5 := by
        have z : ¬ b = 0 := fun w => c4 (x3.mpr (fun k hk => by have u := (b4.mp w).2.2.2 k (by omega); rw [(q3 k (by omega)).2] at u; exact u))
        omega
      subst this
      simp only [F_X11_torn, F_X11_torn_0, F_X11_isTray, F_X11_isTray_0, F_X11_torn_31, F_X11_refused, F_X11_refused_0, F_X11_outside, F_X11_outside_0, F_X11_rowLack, F_X11_rowLack_0]
      simp only [Int.toNat_natCast]
      ((try simp only [hup_s, hup_c, hup_k, ne_eq, Nat.reduceEqDiff, not_false_eq_true]); repeat' (first | (with_reducible refine ev_ck ?_ ?_; first | omega | trivial) | with_reducible refine ev_bind ?_ | (with_reducible refine ev_nx ?_; first | simp only [hup_s, hup_c, hup_k, ne_eq, Nat.reduceEqDiff, not_false_eq_true] | dsimp only | skip) | (with_reducible refine ev_some ?_; first | simp only [hup_s, hup_c, hup_k, ne_eq, Nat.reduceEqDiff, not_false_eq_true] | dsimp only | skip) | (with_reducible refine ev_it ?_ ?_; first | omega | trivial) | (with_reducible refine ev_ie ?_ ?_; first | omega | trivial) | with_reducible refine ev_if (fun _ => ?_) (fun _ => ?_) | rw [x2]))
      simp only [F_X12_torn, F_X12_torn_0, F_X12_isFrom, F_X12_isFrom_0, F_X12_torn_29, F_X12_torn_30, F_X12_is, F_X12_is_0]
      ((try simp only [hup_s, hup_c, hup_k, ne_eq, Nat.reduceEqDiff, not_false_eq_true]); repeat' (first | (with_reducible refine ev_ck ?_ ?_; first | omega | trivial) | with_reducible refine ev_bind ?_ | (with_reducible refine ev_nx ?_; first | simp only [hup_s, hup_c, hup_k, ne_eq, Nat.reduceEqDiff, not_false_eq_true] | dsimp only | skip) | (with_reducible refine ev_some ?_; first | simp only [hup_s, hup_c, hup_k, ne_eq, Nat.reduceEqDiff, not_false_eq_true] | dsimp only | skip) | (with_reducible refine ev_it ?_ ?_; first | omega | trivial) | (with_reducible refine ev_ie ?_ ?_; first | omega | trivial) | with_reducible refine ev_if (fun _ => ?_) (fun _ => ?_) | rw [b0]))
      (first | (exfalso; omega) | (refine ⟨?_, ?_, RR_st (by omega) r⟩ <;> first | trivial | omega))
  · have wr : ∀ v : Int, _ := fun v => wrR (x1 := a1) (N := a2) (lo := -1) (hi := 99) (h := hup h 0 0 v) i1 (by omega) (by omega) (by omega) (by omega) (RR_row r v).1 (RR_row r v).2
    obtain ⟨b, b0, b1, b2, b3, b4, b5⟩ := wr 1
    have : b = 1 := b1.mpr c1
    subst this
    simp only [F_X11_torn, F_X11_torn_0, F_X11_isTray, F_X11_isTray_0, F_X11_torn_31, F_X11_refused, F_X11_refused_0, F_X11_outside, F_X11_outside_0, F_X11_rowLack, F_X11_rowLack_0]
    ((try simp only [hup_s, hup_c, hup_k, ne_eq, Nat.reduceEqDiff, not_false_eq_true]); repeat' (first | (with_reducible refine ev_ck ?_ ?_; first | omega | trivial) | with_reducible refine ev_bind ?_ | (with_reducible refine ev_nx ?_; first | simp only [hup_s, hup_c, hup_k, ne_eq, Nat.reduceEqDiff, not_false_eq_true] | dsimp only | skip) | (with_reducible refine ev_some ?_; first | simp only [hup_s, hup_c, hup_k, ne_eq, Nat.reduceEqDiff, not_false_eq_true] | dsimp only | skip) | (with_reducible refine ev_it ?_ ?_; first | omega | trivial) | (with_reducible refine ev_ie ?_ ?_; first | omega | trivial) | with_reducible refine ev_if (fun _ => ?_) (fun _ => ?_)))
    all_goals simp only [F_X12_torn, F_X12_torn_0, F_X12_isFrom, F_X12_isFrom_0, F_X12_torn_29, F_X12_torn_30, F_X12_is, F_X12_is_0]
    all_goals (((try simp only [hup_s, hup_c, hup_k, ne_eq, Nat.reduceEqDiff, not_false_eq_true]); repeat' (first | (with_reducible refine ev_ck ?_ ?_; first | omega | trivial) | with_reducible refine ev_bind ?_ | (with_reducible refine ev_nx ?_; first | simp only [hup_s, hup_c, hup_k, ne_eq, Nat.reduceEqDiff, not_false_eq_true] | dsimp only | skip) | (with_reducible refine ev_some ?_; first | simp only [hup_s, hup_c, hup_k, ne_eq, Nat.reduceEqDiff, not_false_eq_true] | dsimp only | skip) | (with_reducible refine ev_it ?_ ?_; first | omega | trivial) | (with_reducible refine ev_ie ?_ ?_; first | omega | trivial) | with_reducible refine ev_if (fun _ => ?_) (fun _ => ?_) | rw [b0])))
    all_goals (first | (exfalso; omega) | (refine ⟨?_, ?_, RR_st (by omega) r⟩ <;> first | trivial | omega))
