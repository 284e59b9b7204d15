def glO (c : Nat) (h : MH) (k : Nat) : Prop := (0 ≤ h c (2 * k) ∧ h c (2 * k) ≤ h 35 0 - 1) ∧ (0 ≤ h c (2 * k + 1) ∧ h c (2 * k + 1) ≤ 9999)
theorem gck_l {c N : Nat} {h : MH} (hN : N ≤ 20) (h0 : 0 ≤ h 35 0 ∧ h 35 0 ≤ 6) (hv : ∀ k, k < 2 * N → in64 (h c k)) : ∀ (d f j : Nat), j + d = N → d < f →
    ((∀ k, j ≤ k → k < N → glO c h k) ∧ F_X11_glass_55 f (N : Int) c (j : Int) h = (F_X11_thrownForGlass c (N : Int) h).bind fun q4 => (F_X11_answer q4.1 q4.2).bind fun q5 => some (q5.1, q5.2)) ∨ ((∃ k, j ≤ k ∧ k < N ∧ ¬ glO c h k) ∧ F_X11_glass_55 f (N : Int) c (j : Int) h = some (-1, hup h 0 0 5)) := by
  intro d
  induction d with
  | zero =>
    intro f j e hf
    obtain ⟨f, rfl⟩ : ∃ g, f = g + 1 := ⟨f - 1, by omega⟩
    refine Or.inl ⟨fun k q1 q2 => absurd q1 (by omega), ?_⟩
    rw [F_X11_glass_55]
    unfold ck
    rw [if_pos (by omega), if_pos (by omega), if_pos (by omega)]
  | succ d ih =>
    intro f j e hf
    obtain ⟨f, rfl⟩ : ∃ g, f = g + 1 := ⟨f - 1, by omega⟩
    have v1 := hv (2 * j) (by omega)
    have v2 := hv (2 * j + 1) (by omega)
    have st : F_X11_glass_55 (f + 1) (N : Int) c (j : Int) h = if 0 ≤ h c (2 * j) ∧ h c (2 * j) ≤ h 35 0 - 1 then (if 0 ≤ h c (2 * j + 1) ∧ h c (2 * j + 1) ≤ 9999 then F_X11_glass_55 f (N : Int) c ((j + 1 : Nat) : Int) h else some (-1, hup h 0 0 5)) else some (-1, hup h 0 0 5) := by
      rw [F_X11_glass_55]
      unfold F_X11_glass_107 F_X11_none F_X11_none_0 ck
      rw [if_pos (by omega), if_pos (by omega), if_neg (by omega), if_pos (by omega), if_pos (by omega), show (2 * (j : Int)).toNat = 2 * j by omega, show (2 * (j : Int) + 1).toNat = 2 * j + 1 by omega, out_eq v1 (by omega) (by omega), bind_eq]
      dsimp only
      by_cases q1 : 0 ≤ h c (2 * j) ∧ h c (2 * j) ≤ h 35 0 - 1
      · rw [if_pos q1, if_pos (by omega), if_neg (by omega), if_pos (by omega), out_eq v2 (by omega) (by omega), bind_eq, if_pos q1]
        dsimp only
        by_cases q2 : 0 ≤ h c (2 * j + 1) ∧ h c (2 * j + 1) ≤ 9999
        · rw [if_pos q2, if_pos (by omega), if_pos (by omega), if_pos q2, show (j : Int) + 1 = ((j + 1 : Nat) : Int) by omega]
        · rw [if_neg q2, if_pos (by omega), if_neg (by omega), if_neg q2, nx_eq, bind_eq]
      · rw [if_neg q1, if_pos (by omega), if_pos (by omega), if_neg q1, nx_eq, bind_eq]
    by_cases q : glO c h j
    · rcases ih f (j + 1) (by omega) (by omega) with ⟨p1, p2⟩ | ⟨⟨k, p1, p2, p3⟩, p4⟩
      · refine Or.inl ⟨fun k k1 k2 => ?_, by rw [st, if_pos q.1, if_pos q.2]; exact p2⟩
        by_cases ek : k = j
        · subst ek; exact q
        · exact p1 k (by omega) k2
      · exact Or.inr ⟨⟨k, by omega, p2, p3⟩, by rw [st, if_pos q.1, if_pos q.2]; exact p4⟩
    · refine Or.inr ⟨⟨j, by omega, by omega, q⟩, ?_⟩
      rw [st]
      by_cases q1 : 0 ≤ h c (2 * j) ∧ h c (2 * j) ≤ h 35 0 - 1
      · rw [if_pos q1, if_neg (fun q2 => q ⟨q1, q2⟩)]
      · rw [if_neg q1]
theorem gmk_l {t N : Nat} {g : MH} (ht : t < 4) (hN : N ≤ 20) (h0 : in64 (g 142 0)) (hv : ∀ k, k < 2 * N → in64 (g 145 (60 * t + k))) : ∀ (d f j : Nat) (fl : Int), (fl = 0 ∨ fl = 1) → j + d = N → d < f →
    ∃ b : Int, (b = 0 ∨ b = 1) ∧ F_X12_glass_28 f (t : Int) (N : Int) 0 fl (j : Int) g = F_X12_glass_77 (t : Int) (N : Int) 0 b g ∧ (b = 1 ↔ fl = 1 ∧ ∀ k, j ≤ k → k < N → 0 ≤ g 145 (60 * t + 2 * k) ∧ g 145 (60 * t + 2 * k) < g 142 0) := by
  intro d
  induction d with
  | zero =>
    intro f j fl hfl e hf
    obtain ⟨f, rfl⟩ : ∃ g, f = g + 1 := ⟨f - 1, by omega⟩
    refine ⟨fl, hfl, ?_, ⟨fun q => ⟨q, fun k k1 k2 => absurd k1 (by omega)⟩, fun q => q.1⟩⟩
    rw [F_X12_glass_28]
    unfold ck
    rw [if_pos (by omega), if_pos (by omega), if_pos (by omega)]
  | succ d ih =>
    intro f j fl hfl e hf
    obtain ⟨f, rfl⟩ : ∃ g, f = g + 1 := ⟨f - 1, by omega⟩
    have v1 := hv (2 * j) (by omega)
    have st : F_X12_glass_28 (f + 1) (t : Int) (N : Int) 0 fl (j : Int) g = F_X12_glass_28 f (t : Int) (N : Int) 0 (if fl = 1 ∧ 0 ≤ g 145 (60 * t + 2 * j) ∧ g 145 (60 * t + 2 * j) < g 142 0 then 1 else 0) ((j + 1 : Nat) : Int) g := by
      rw [F_X12_glass_28]
      unfold F_X12_glass_68 F_X12_glass_69 F_X12_isMachine F_X12_isMachine_0 ck
      rw [if_pos (by omega), if_pos (by omega), if_neg (by omega), if_pos (by omega), if_neg (by omega), if_pos (by omega), show (j : Int) + 1 = ((j + 1 : Nat) : Int) by omega]
      rcases hfl with q | q
      · rw [if_pos q, if_neg (by omega)]
      · rw [if_neg (by omega), if_pos (by omega), show (60 * (t : Int) + 2 * (j : Int)).toNat = 60 * t + 2 * j by omega, if_pos v1]
        by_cases q1 : g 145 (60 * t + 2 * j) < 0
        · rw [if_pos q1, bind_eq]
          dsimp only
          rw [if_pos (by omega), if_pos rfl, if_neg (show ¬ (fl = 1 ∧ 0 ≤ g 145 (60 * t + 2 * j) ∧ g 145 (60 * t + 2 * j) < g 142 0) by omega)]
        · rw [if_neg q1, if_pos h0]
          by_cases q2 : g 142 0 ≤ g 145 (60 * t + 2 * j)
          · rw [if_pos q2, bind_eq]
            dsimp only
            rw [if_pos (by omega), if_pos rfl, if_neg (show ¬ (fl = 1 ∧ 0 ≤ g 145 (60 * t + 2 * j) ∧ g 145 (60 * t + 2 * j) < g 142 0) by omega)]
          · rw [if_neg q2, bind_eq]
            dsimp only
            rw [if_pos (by omega), if_neg (by omega), if_pos (show fl = 1 ∧ 0 ≤ g 145 (60 * t + 2 * j) ∧ g 145 (60 * t + 2 * j) < g 142 0 by omega)]
    obtain ⟨b, b1, b2, b3⟩ := ih f (j + 1) (if fl = 1 ∧ 0 ≤ g 145 (60 * t + 2 * j) ∧ g 145 (60 * t + 2 * j) < g 142 0 then 1 else 0) (by split <;> omega) (by omega) (by omega)
    refine ⟨b, b1, by rw [st]; exact b2, b3.trans ⟨fun ⟨q1, q2⟩ => ?_, fun ⟨q1, q2⟩ => ?_⟩⟩
    · have q3 : fl = 1 ∧ 0 ≤ g 145 (60 * t + 2 * j) ∧ g 145 (60 * t + 2 * j) < g 142 0 := by
        by_cases x : fl = 1 ∧ 0 ≤ g 145 (60 * t + 2 * j) ∧ g 145 (60 * t + 2 * j) < g 142 0
        · exact x
        · rw [if_neg x] at q1; omega
      refine ⟨q3.1, fun k k1 k2 => ?_⟩
      by_cases ek : k = j
      · subst ek; exact q3.2
      · exact q2 k (by omega) k2
    · refine ⟨by rw [if_pos ⟨q1, q2 j (by omega) (by omega)⟩], fun k k1 k2 => q2 k (by omega) k2⟩
theorem o_glass : Ob_glass RR := by
  intro n h a1 a2 hn r i1 i2
  refine ob_ev ?_
  have r2 := r.2.1
  obtain ⟨F, X⟩ := PR_FR.mp r.2.2.2.1
  have F1 := F.1
  simp only [Nat.zero_add, show 34 + 1 = 35 from rfl] at F1
  have e1 : ∀ v : Int, ∀ k, hup h 0 0 v 144 k = h 144 k := fun v k => by rw [hup_c _ _ _ _ _ _ (by decide)]
  have e2 : ∀ v : Int, ∀ k, hup h 0 0 v 145 k = h 145 k := fun v k => by rw [hup_c _ _ _ _ _ _ (by decide)]
  have e3 : ∀ v : Int, ∀ k, hup h 0 0 v 142 k = h 142 k := fun v k => by rw [hup_c _ _ _ _ _ _ (by decide)]
  -- what stands once the other has seen a bad row
  have bad : ∀ (v s : Int) (f : Nat), (s = 1 ∨ s = 2 ∨ s = 3 ∨ s = 5) → in32 a2 → F_X12_glass_28 (f + 1) a1 a2 s 1 0 (hup h 0 0 v) = some (-1, hup (hup h 0 0 v) 141 1 s) := fun v s f hs h2 => by
    rw [F_X12_glass_28]
    unfold F_X12_glass_77 F_X12_glass_86 F_X12_glass_96 F_X12_refuse F_X12_refuse_0 ck
    have k1 : in32 s := by omega
    rw [if_pos (by omega), if_pos h2]
    by_cases q : a2 ≤ 0
    · rw [if_pos q, if_pos k1, if_pos (by omega), if_pos k1, if_neg (by omega), nx_eq, bind_eq]
    · rw [if_neg q, if_pos k1, if_pos (by omega), if_pos k1, if_pos (by omega), if_pos k1, if_neg (by omega), nx_eq, bind_eq]
  have B20 : (20000 : Nat) = 19999 + 1 := rfl
  by_cases c0 : 1 ≤ a2 ∧ a2 ≤ 20
  rotate_left
  · have w0 : F_X12_glass a1 a2 (hup h 0 0 1) = some (-1, hup (hup h 0 0 1) 141 1 1) := by
      unfold F_X12_glass F_X12_glass_0 F_X12_wrongRow F_X12_wrongRow_0 ck
      rw [if_pos i2, from_eq (by omega) (by omega) (by omega), bind_eq]
      dsimp only
      rw [if_neg c0, if_pos (by omega), if_pos rfl, bind_eq]
      exact bad 1 1 19999 (by omega) i2
    simp only [F_X11_glass, F_X11_glass_0, F_X11_isTray, F_X11_isTray_0, F_X11_glass_19, F_X11_none, F_X11_none_0, F_X11_outside, F_X11_outside_0]
    ((try simp only [hup_s, hup_c, hup_k, ne_eq, Nat.reduceEqDiff, not_false_eq_true]); repeat' (first | (with_reducible refine ev_ck ?_ ?_; first | omega | trivial) | with_reducible refine ev_bind ?_ | (with_reducible refine ev_nx ?_; first | simp only [hup_s, hup_c, hup_k, ne_eq, Nat.reduceEqDiff, not_false_eq_true] | dsimp only | skip) | (with_reducible refine ev_some ?_; first | simp only [hup_s, hup_c, hup_k, ne_eq, Nat.reduceEqDiff, not_false_eq_true] | dsimp only | skip) | (with_reducible refine ev_it ?_ ?_; first | omega | trivial) | (with_reducible refine ev_ie ?_ ?_; first | omega | trivial) | with_reducible refine ev_if (fun _ => ?_) (fun _ => ?_)))
    all_goals (try (exfalso; omega))
    all_goals rw [w0]
    all_goals ((try simp only [hup_s, hup_c, hup_k, ne_eq, Nat.reduceEqDiff, not_false_eq_true]); repeat' (first | (with_reducible refine ev_ck ?_ ?_; first | omega | trivial) | with_reducible refine ev_bind ?_ | (with_reducible refine ev_nx ?_; first | simp only [hup_s, hup_c, hup_k, ne_eq, Nat.reduceEqDiff, not_false_eq_true] | dsimp only | skip) | (with_reducible refine ev_some ?_; first | simp only [hup_s, hup_c, hup_k, ne_eq, Nat.reduceEqDiff, not_false_eq_true] | dsimp only | skip) | (with_reducible refine ev_it ?_ ?_; first | omega | trivial) | (with_reducible refine ev_ie ?_ ?_; first | omega | trivial) | with_reducible refine ev_if (fun _ => ?_) (fun _ => ?_)))
    all_goals (first | (exfalso; omega) | (refine ⟨?_, ?_, RR_st (by omega) r⟩ <;> first | trivial | omega))
  have wr : ∀ v : Int, _ := fun v => wrR (x1 := a1) (N := 2 * a2) (lo := 0) (hi := 9999) (h := hup h 0 0 v) i1 (by omega) (by omega) (by omega) (by omega) (RR_row r v).1 (RR_row r v).2
  have w1 : ∀ (v b : Int), F_X12_wrongRow 1 a1 (2 * a2) 0 9999 (hup h 0 0 v) = some (b, hup h 0 0 v) → F_X12_glass a1 a2 (hup h 0 0 v) = F_X12_glass_28 20000 a1 a2 b 1 0 (hup h 0 0 v) := fun v b hb => by
    unfold F_X12_glass F_X12_glass_0 ck
    rw [if_pos i2, from_eq (by omega) (by omega) (by omega), bind_eq]
    dsimp only
    rw [if_pos c0, hb, bind_eq]
  by_cases c1 : 0 ≤ a1 ∧ a1 < 4
  rotate_left
  · obtain ⟨b, b0, b1, b2, b3, b4, b5⟩ := wr 1
    have : b = 1 := b1.mpr c1
    subst this
    have w0 := (w1 1 1 b0).trans (bad 1 1 19999 (by omega) i2)
    simp only [F_X11_glass, F_X11_glass_0, F_X11_isTray, F_X11_isTray_0, F_X11_glass_19, F_X11_none, F_X11_none_0, F_X11_outside, F_X11_outside_0]
    ((try simp only [hup_s, hup_c, hup_k, ne_eq, Nat.reduceEqDiff, not_false_eq_true]); repeat' (first | (with_reducible refine ev_ck ?_ ?_; first | omega | trivial) | with_reducible refine ev_bind ?_ | (with_reducible refine ev_nx ?_; first | simp only [hup_s, hup_c, hup_k, ne_eq, Nat.reduceEqDiff, not_false_eq_true] | dsimp only | skip) | (with_reducible refine ev_some ?_; first | simp only [hup_s, hup_c, hup_k, ne_eq, Nat.reduceEqDiff, not_false_eq_true] | dsimp only | skip) | (with_reducible refine ev_it ?_ ?_; first | omega | trivial) | (with_reducible refine ev_ie ?_ ?_; first | omega | trivial) | with_reducible refine ev_if (fun _ => ?_) (fun _ => ?_)))
    all_goals (try (exfalso; omega))
    all_goals rw [w0]
    all_goals ((try simp only [hup_s, hup_c, hup_k, ne_eq, Nat.reduceEqDiff, not_false_eq_true]); repeat' (first | (with_reducible refine ev_ck ?_ ?_; first | omega | trivial) | with_reducible refine ev_bind ?_ | (with_reducible refine ev_nx ?_; first | simp only [hup_s, hup_c, hup_k, ne_eq, Nat.reduceEqDiff, not_false_eq_true] | dsimp only | skip) | (with_reducible refine ev_some ?_; first | simp only [hup_s, hup_c, hup_k, ne_eq, Nat.reduceEqDiff, not_false_eq_true] | dsimp only | skip) | (with_reducible refine ev_it ?_ ?_; first | omega | trivial) | (with_reducible refine ev_ie ?_ ?_; first | omega | trivial) | with_reducible refine ev_if (fun _ => ?_) (fun _ => ?_)))
    all_goals (first | (exfalso; omega) | (refine ⟨?_, ?_, RR_st (by omega) r⟩ <;> first | trivial | omega))
  obtain ⟨t, e⟩ : ∃ t : Nat, a1 = t := ⟨a1.toNat, by omega⟩
  subst e
  obtain ⟨q1, q2, q3⟩ := r2 t (by omega)
  simp only [Int.toNat_natCast, e1, e2] at wr
  by_cases c2 : h 7 t = -1
  · obtain ⟨b, b0, b1, b2, b3, b4, b5⟩ := wr 2
    have : b = 2 := b2.mpr ⟨c1, by omega⟩
    subst this
    have w0 := (w1 2 2 b0).trans (bad 2 2 19999 (by omega) i2)
    simp only [F_X11_glass, F_X11_glass_0, F_X11_isTray, F_X11_isTray_0, F_X11_glass_19, F_X11_none, F_X11_none_0, F_X11_outside, F_X11_outside_0, F_X11_rowLack, F_X11_rowLack_0]
    simp only [Int.toNat_natCast]
    ((try simp only [hup_s, hup_c, hup_k, ne_eq, Nat.reduceEqDiff, not_false_eq_true]); repeat' (first | (with_reducible refine ev_ck ?_ ?_; first | omega | trivial) | with_reducible refine ev_bind ?_ | (with_reducible refine ev_nx ?_; first | simp only [hup_s, hup_c, hup_k, ne_eq, Nat.reduceEqDiff, not_false_eq_true] | dsimp only | skip) | (with_reducible refine ev_some ?_; first | simp only [hup_s, hup_c, hup_k, ne_eq, Nat.reduceEqDiff, not_false_eq_true] | dsimp only | skip) | (with_reducible refine ev_it ?_ ?_; first | omega | trivial) | (with_reducible refine ev_ie ?_ ?_; first | omega | trivial) | with_reducible refine ev_if (fun _ => ?_) (fun _ => ?_)))
    rw [w0]
    ((try simp only [hup_s, hup_c, hup_k, ne_eq, Nat.reduceEqDiff, not_false_eq_true]); repeat' (first | (with_reducible refine ev_ck ?_ ?_; first | omega | trivial) | with_reducible refine ev_bind ?_ | (with_reducible refine ev_nx ?_; first | simp only [hup_s, hup_c, hup_k, ne_eq, Nat.reduceEqDiff, not_false_eq_true] | dsimp only | skip) | (with_reducible refine ev_some ?_; first | simp only [hup_s, hup_c, hup_k, ne_eq, Nat.reduceEqDiff, not_false_eq_true] | dsimp only | skip) | (with_reducible refine ev_it ?_ ?_; first | omega | trivial) | (with_reducible refine ev_ie ?_ ?_; first | omega | trivial) | with_reducible refine ev_if (fun _ => ?_) (fun _ => ?_)))
    (first | (exfalso; omega) | (refine ⟨?_, ?_, RR_st (by omega) r⟩ <;> first | trivial | omega))
  by_cases c3 : 2 * a2 ≤ h 7 t
  rotate_left
  · obtain ⟨b, b0, b1, b2, b3, b4, b5⟩ := wr 3
    have : b = 3 := b3.mpr ⟨c1, by omega, by omega⟩
    subst this
    have w0 := (w1 3 3 b0).trans (bad 3 3 19999 (by omega) i2)
    simp only [F_X11_glass, F_X11_glass_0, F_X11_isTray, F_X11_isTray_0, F_X11_glass_19, F_X11_none, F_X11_none_0, F_X11_outside, F_X11_outside_0, F_X11_rowLack, F_X11_rowLack_0]
    simp only [Int.toNat_natCast]
    ((try simp only [hup_s, hup_c, hup_k, ne_eq, Nat.reduceEqDiff, not_false_eq_true]); repeat' (first | (with_reducible refine ev_ck ?_ ?_; first | omega | trivial) | with_reducible refine ev_bind ?_ | (with_reducible refine ev_nx ?_; first | simp only [hup_s, hup_c, hup_k, ne_eq, Nat.reduceEqDiff, not_false_eq_true] | dsimp only | skip) | (with_reducible refine ev_some ?_; first | simp only [hup_s, hup_c, hup_k, ne_eq, Nat.reduceEqDiff, not_false_eq_true] | dsimp only | skip) | (with_reducible refine ev_it ?_ ?_; first | omega | trivial) | (with_reducible refine ev_ie ?_ ?_; first | omega | trivial) | with_reducible refine ev_if (fun _ => ?_) (fun _ => ?_)))
    rw [w0]
    ((try simp only [hup_s, hup_c, hup_k, ne_eq, Nat.reduceEqDiff, not_false_eq_true]); repeat' (first | (with_reducible refine ev_ck ?_ ?_; first | omega | trivial) | with_reducible refine ev_bind ?_ | (with_reducible refine ev_nx ?_; first | simp only [hup_s, hup_c, hup_k, ne_eq, Nat.reduceEqDiff, not_false_eq_true] | dsimp only | skip) | (with_reducible refine ev_some ?_; first | simp only [hup_s, hup_c, hup_k, ne_eq, Nat.reduceEqDiff, not_false_eq_true] | dsimp only | skip) | (with_reducible refine ev_it ?_ ?_; first | omega | trivial) | (with_reducible refine ev_ie ?_ ?_; first | omega | trivial) | with_reducible refine ev_if (fun _ => ?_) (fun _ => ?_)))
    (first | (exfalso; omega) | (refine ⟨?_, ?_, RR_st (by omega) r⟩ <;> first | trivial | omega))
  obtain ⟨N, eN⟩ : ∃ N : Nat, a2 = N := ⟨a2.toNat, by omega⟩
  subst eN
  have gm : ∀ v : Int, _ := fun v => gmk_l (t := t) (N := N) (g := hup h 0 0 v) (by omega) (by omega) (by rw [e3]; omega) (fun k hk => by rw [e2, (q3 k (by omega)).2]; exact (q3 k (by omega)).1) N 20000 0 1 (Or.inr rfl) (by omega) (by omega)
  rcases gck_l (c := 2 + t) (N := N) (h := h) (by omega) (by omega) (fun k hk => (q3 k (by omega)).1) N 20000 0 (by omega) (by omega) with ⟨p1, p2⟩ | ⟨⟨k, k1, k2, k3⟩, p2⟩
  · obtain ⟨b, b0, b1, b2, b3, b4, b5⟩ := wr 0
    have : b = 0 := b4.mpr ⟨c1, by omega, by omega, fun k hk => by
      rw [(q3 k (by omega)).2]
      have z := p1 (k / 2) (by omega) (by omega)
      unfold glO at z
      rcases Nat.mod_two_eq_zero_or_one k with m | m
      · have ek : k = 2 * (k / 2) := by omega
        rw [ek]; omega
      · have ek : k = 2 * (k / 2) + 1 := by omega
        rw [ek]; exact z.2⟩
    subst this
    obtain ⟨b, d1, d2, d3⟩ := gm 0
    have : b = 1 := d3.mpr ⟨rfl, fun k _ k2 => by
      rw [e2, e3, (q3 (2 * k) (by omega)).2]
      have z := (p1 k (by omega) k2).1
      omega⟩
    subst this
    have V : glV (2 + t) N h := fun k hk => by
      have z := p1 k (by omega) hk
      unfold glO at z
      obtain ⟨mm, em⟩ : ∃ mm : Nat, h (2 + t) (2 * k) = (mm : Int) := ⟨(h (2 + t) (2 * k)).toNat, by omega⟩
      have y := (X.2.1 mm (by show (mm : Int) < h 35 0; omega)).1
      refine ⟨by omega, z.2, ?_⟩
      unfold glR
      rw [em, Int.toNat_natCast]
      exact ⟨y.1, y.2.1⟩
    obtain ⟨x, x1, x2⟩ := gout_l (c := 2 + t) (t := t) (N := N) (h := h) (by omega) (by omega) V N 20000 20000 0 0 (by omega) (by omega) (by omega)
    have r12 := r.2.2.2.2.2.2.2.2.2.2.2
    have z0 : mct (hup h 0 0 0 160) 10200 = 0 := by
      have := mct_st (m := hup h 0 0 0 160) (a := 0) (c := 0) 10200 (fun v _ hv => by rw [hup_n _ _ _ _ _ _ (by omega)]; exact r12 v (by omega))
      rw [Nat.zero_add] at this
      rw [this, mct]; omega
    obtain ⟨g', y1, y2, y3⟩ := x2 (hup h 0 0 0) (fun k hk => by rw [e2]; exact (q3 k (by omega)).2) (fun k hk => by
      have z := p1 k (by omega) hk
      unfold glO at z
      obtain ⟨mm, em⟩ : ∃ mm : Nat, h (2 + t) (2 * k) = (mm : Int) := ⟨(h (2 + t) (2 * k)).toNat, by omega⟩
      have y := (X.2.1 mm (by show (mm : Int) < h 35 0; omega)).1
      unfold glR
      rw [e3, em, Int.toNat_natCast]
      have := y.2.2
      rw [Nat.zero_add] at this
      exact this) (fun u hu => by
      rw [hup_n _ _ _ _ _ _ (by omega), r12 u hu]
      exact ⟨Or.inl rfl, ⟨fun q => absurd q (by omega), fun ⟨i, q, _⟩ => absurd q (by omega)⟩⟩) z0.symm
    have x1' : F_X11_thrownForGlass (2 + t) (N : Int) h = some (x, h) := x1
    have w0 : F_X12_glass (t : Int) (N : Int) (hup h 0 0 0) = some (x, hup (hfl g' 160 10200 0) 141 1 0) := by
      rw [w1 0 0 b0]
      rw [show ((0 : Nat) : Int) = 0 from rfl] at d2 y1
      rw [d2]
      unfold F_X12_glass_77 ck
      rw [if_pos (by omega), if_neg (by omega), if_pos (by omega), if_pos (by omega)]
      exact y1
    rw [show ((0 : Nat) : Int) = 0 from rfl, x1', bind_eq] at p2
    unfold F_X11_answer F_X11_answer_0 at p2
    dsimp only at p2
    rw [nx_eq, bind_eq] at p2
    simp only [F_X11_glass, F_X11_glass_0, F_X11_isTray, F_X11_isTray_0, F_X11_glass_19, F_X11_none, F_X11_none_0, F_X11_outside, F_X11_outside_0, F_X11_rowLack, F_X11_rowLack_0]
    simp only [Int.toNat_natCast]
    ((try simp only [hup_s, hup_c, hup_k, ne_eq, Nat.reduceEqDiff, not_false_eq_true]); repeat' (first | (with_reducible refine ev_ck ?_ ?_; first | omega | trivial) | with_reducible refine ev_bind ?_ | (with_reducible refine ev_nx ?_; first | simp only [hup_s, hup_c, hup_k, ne_eq, Nat.reduceEqDiff, not_false_eq_true] | dsimp only | skip) | (with_reducible refine ev_some ?_; first | simp only [hup_s, hup_c, hup_k, ne_eq, Nat.reduceEqDiff, not_false_eq_true] | dsimp only | skip) | (with_reducible refine ev_it ?_ ?_; first | omega | trivial) | (with_reducible refine ev_ie ?_ ?_; first | omega | trivial) | with_reducible refine ev_if (fun _ => ?_) (fun _ => ?_) | rw [p2]))
    rw [w0]
    ((try simp only [hup_s, hup_c, hup_k, ne_eq, Nat.reduceEqDiff, not_false_eq_true]); repeat' (first | (with_reducible refine ev_ck ?_ ?_; first | omega | trivial) | with_reducible refine ev_bind ?_ | (with_reducible refine ev_nx ?_; first | simp only [hup_s, hup_c, hup_k, ne_eq, Nat.reduceEqDiff, not_false_eq_true] | dsimp only | skip) | (with_reducible refine ev_some ?_; first | simp only [hup_s, hup_c, hup_k, ne_eq, Nat.reduceEqDiff, not_false_eq_true] | dsimp only | skip) | (with_reducible refine ev_it ?_ ?_; first | omega | trivial) | (with_reducible refine ev_ie ?_ ?_; first | omega | trivial) | with_reducible refine ev_if (fun _ => ?_) (fun _ => ?_)))
    exact ⟨by first | trivial | omega, by omega, RR_marks (by omega) r y3 (fun u q1 q2 => absurd q1 (by omega))⟩
  · have w0 : F_X12_glass (t : Int) (N : Int) (hup h 0 0 5) = some (-1, hup (hup h 0 0 5) 141 1 5) := by
      obtain ⟨b, b0, b1, b2, b3, b4, b5⟩ := wr 5
      by_cases c4 : b = 0
      · subst c4
        have b4' := (b4.mp rfl).2.2.2
        obtain ⟨b, d1, d2, d3⟩ := gm 5
        have : b = 0 := by
          rcases d1 with q | q
          · exact q
          · exfalso
            have z1 := (d3.mp q).2 k (by omega) k2
            have z2 := b4' (2 * k + 1) (by omega)
            rw [e2, e3, (q3 (2 * k) (by omega)).2] at z1
            rw [(q3 (2 * k + 1) (by omega)).2] at z2
            exact k3 ⟨by omega, z2⟩
        subst this
        rw [w1 5 0 b0]
        rw [show ((0 : Nat) : Int) = 0 from rfl] at d2
        rw [d2]
        unfold F_X12_glass_77 F_X12_glass_86 F_X12_glass_96 F_X12_refuse F_X12_refuse_0 ck
        rw [if_pos (by omega), if_neg (by omega), if_pos (by omega), if_neg (by omega), if_pos (by omega), if_pos (by omega), nx_eq, bind_eq]
      · have : b = 5 := by
          rcases b5 with q | q | q | q | q
          · exact absurd q c4
          · exact absurd c1 (b1.mp q)
          · have := (b2.mp q).2; omega
          · have := (b3.mp q).2; omega
          · exact q
        subst this
        exact (w1 5 5 b0).trans (bad 5 5 19999 (by omega) i2)
    rw [show ((0 : Nat) : Int) = 0 from rfl] at p2
    simp only [F_X11_glass, F_X11_glass_0, F_X11_isTray, F_X11_isTray_0, F_X11_glass_19, F_X11_none, F_X11_none_0, F_X11_outside, F_X11_outside_0, F_X11_rowLack, F_X11_rowLack_0]
    simp only [Int.toNat_natCast]
    ((try simp only [hup_s, hup_c, hup_k, ne_eq, Nat.reduceEqDiff, not_false_eq_true]); repeat' (first | (with_reducible refine ev_ck ?_ ?_; first | omega | trivial) | with_reducible refine ev_bind ?_ | (with_reducible refine ev_nx ?_; first | simp only [hup_s, hup_c, hup_k, ne_eq, Nat.reduceEqDiff, not_false_eq_true] | dsimp only | skip) | (with_reducible refine ev_some ?_; first | simp only [hup_s, hup_c, hup_k, ne_eq, Nat.reduceEqDiff, not_false_eq_true] | dsimp only | skip) | (with_reducible refine ev_it ?_ ?_; first | omega | trivial) | (with_reducible refine ev_ie ?_ ?_; first | omega | trivial) | with_reducible refine ev_if (fun _ => ?_) (fun _ => ?_) | rw [p2]))
    rw [w0]
    ((try simp only [hup_s, hup_c, hup_k, ne_eq, Nat.reduceEqDiff, not_false_eq_true]); repeat' (first | (with_reducible refine ev_ck ?_ ?_; first | omega | trivial) | with_reducible refine ev_bind ?_ | (with_reducible refine ev_nx ?_; first | simp only [hup_s, hup_c, hup_k, ne_eq, Nat.reduceEqDiff, not_false_eq_true] | dsimp only | skip) | (with_reducible refine ev_some ?_; first | simp only [hup_s, hup_c, hup_k, ne_eq, Nat.reduceEqDiff, not_false_eq_true] | dsimp only | skip) | (with_reducible refine ev_it ?_ ?_; first | omega | trivial) | (with_reducible refine ev_ie ?_ ?_; first | omega | trivial) | with_reducible refine ev_if (fun _ => ?_) (fun _ => ?_)))
    (first | (exfalso; omega) | (refine ⟨?_, ?_, RR_st (by omega) r⟩ <;> first | trivial | omega))
