theorem h372 {x6 x7 y : Int} {g : MH} (hy : g 141 40 = y) (h1 : 1 ≤ y ∧ y ≤ 30000) (hx : in32 x7) : F_X12_heads_372 x6 x7 g = some (x7, hup (hup g 141 41 x7) 141 1 0) := by
  unfold F_X12_heads_372 F_X12_gives F_X12_gives_0 ck
  rw [hy, if_pos (by omega), if_pos (by omega), nx_eq, if_pos hx, nx_eq, bind_eq]
theorem RR_heads {n : Nat} {sz y : Int} {h hF g : MH} (r : RR n h) (hx : ∀ c k, c ≠ 73 → c ≠ 74 → hF c k = h c k) (s1 : hF 73 1 = sz) (s2 : hF 73 2 = y) (hs : 0 ≤ sz ∧ sz ≤ 2) (hy : 1 ≤ y ∧ y ≤ 20736) (gx : ∀ c k, c ≠ 154 → c ≠ 158 → c ≠ 155 → c ≠ 156 → c ≠ 157 → c ≠ 159 → ¬ (c = 141 ∧ (k = 1 ∨ k = 39 ∨ k = 40 ∨ k = 41)) → g c k = hup hF 0 0 0 c k) (g40 : g 141 40 = y) (g41 : g 141 41 = sz) (g1 : g 141 1 = 0) (f1 : 1 ≤ sz → (0 ≤ hF 73 3 ∧ hF 73 3 < 144) ∧ g 159 0 = (hF 73 3).tdiv 24 ∧ g 159 1 = (hF 73 3).tmod 24) (f2 : sz = 2 → (0 ≤ hF 73 4 ∧ hF 73 4 < 144) ∧ g 159 2 = (hF 73 4).tdiv 24 ∧ g 159 3 = (hF 73 4).tmod 24) : RR (n + 1) g := by
  have V : ∀ c k, c ≠ 154 → c ≠ 158 → c ≠ 155 → c ≠ 156 → c ≠ 157 → c ≠ 159 → c ≠ 73 → c ≠ 74 → ¬ (c = 141 ∧ (k = 1 ∨ k = 39 ∨ k = 40 ∨ k = 41)) → ¬ (c = 0 ∧ k = 0) → g c k = h c k := fun c k w1 w2 w3 w4 w5 w6 w7 w8 w9 w10 => by
    rw [gx c k w1 w2 w3 w4 w5 w6 w9, hup_n _ _ _ _ _ _ w10, hx c k w7 w8]
  have U : ∀ k, g 73 k = hF 73 k := fun k => by rw [gx 73 k (by omega) (by omega) (by omega) (by omega) (by omega) (by omega) (by omega), hup_n _ _ _ _ _ _ (by omega)]
  refine RR_9 (h := h) ?_ ?_ ?_ (RR_mono _ _ r)
  · intro c k q
    obtain ⟨q, qq⟩ := q
    unfold Zall Z2 Z3 Zp Zs Z6 Z7 Z8 Z9 Z10 Z11 Z12 at q
    unfold Z9 at qq
    exact V c k (by omega) (by omega) (by omega) (by omega) (by omega) (by omega) (by omega) (by omega) (by omega) (by omega)
  · obtain ⟨⟨-, s2, s3⟩, -⟩ := r
    unfold R1
    rw [gx 0 0 (by omega) (by omega) (by omega) (by omega) (by omega) (by omega) (by omega), hup_s, g1, V 0 1 (by omega) (by omega) (by omega) (by omega) (by omega) (by omega) (by omega) (by omega) (by omega) (by omega), V 0 2 (by omega) (by omega) (by omega) (by omega) (by omega) (by omega) (by omega) (by omega) (by omega) (by omega), V 141 2 (by omega) (by omega) (by omega) (by omega) (by omega) (by omega) (by omega) (by omega) (by omega) (by omega), V 141 3 (by omega) (by omega) (by omega) (by omega) (by omega) (by omega) (by omega) (by omega) (by omega) (by omega)]
    exact ⟨⟨by omega, by omega, rfl⟩, s2, s3⟩
  · right
    rw [U 1, U 2, U 3, U 4, s1, s2, g40, g41]
    refine ⟨⟨hy.1, hy.2, rfl⟩, ⟨hs.1, hs.2, rfl⟩, fun q => ?_, fun q => ?_⟩
    · obtain ⟨z1, z2, z3⟩ := f1 q; exact ⟨z1.1, z1.2, z2, z3⟩
    · obtain ⟨z1, z2, z3⟩ := f2 q; exact ⟨z1.1, z1.2, z2, z3⟩
theorem o_heads : Ob_heads RR := by
  intro n0 h a1 a2 a3 hn r i1 i2 i3
  refine ob_ev ?_
  have r2 := r.2.1
  obtain ⟨F, X⟩ := PR_FR.mp r.2.2.2.1
  have F1 := F.1
  have X2 := X.2.1
  simp only [Nat.zero_add, show 34 + 1 = 35 from rfl, show 34 + 13 = 47 from rfl] at F1 X2
  have e1 : ∀ v : Int, ∀ k, hup h 0 0 v 144 k = h 144 k := fun v k => by rw [hup_c _ _ _ _ _ _ (by decide)]
  have e2 : ∀ v : Int, ∀ k, hup h 0 0 v 145 k = h 145 k := fun v k => by rw [hup_c _ _ _ _ _ _ (by decide)]
  have bad : ∀ (v s : Int) (f : Nat), (s = 1 ∨ s = 2 ∨ s = 3 ∨ s = 5) → F_X12_heads_48 (f + 1) a1 a2 a3 s 1 1 (hup h 0 0 v) = some (-1, hup (hup h 0 0 v) 141 1 s) := fun v s f hs => by
    rw [F_X12_heads_48]
    unfold F_X12_heads_107 F_X12_heads_117 F_X12_heads_129 F_X12_refuse F_X12_refuse_0 ck
    have k1 : in32 s := by omega
    rw [if_pos (by omega), if_pos i3]
    by_cases q : a3 ≤ 1
    · rw [if_pos q, if_pos k1, if_pos (by omega), if_pos k1, if_neg (by omega), nx_eq, bind_eq]
    · rw [if_neg q, if_pos k1, if_pos (by omega), if_pos k1, if_pos (by omega), if_pos k1, if_neg (by omega), nx_eq, bind_eq]
  by_cases c0 : 1 ≤ a1 ∧ a1 ≤ 9999 ∧ 0 ≤ a3 ∧ a3 ≤ 60
  rotate_left
  · have w0 : F_X12_heads a1 a2 a3 (hup h 0 0 1) = some (-1, hup (hup h 0 0 1) 141 1 1) := by
      have w30 : F_X12_heads_29 a1 a2 a3 (hup h 0 0 1) = some (-1, hup (hup h 0 0 1) 141 1 1) := by
        unfold F_X12_heads_29 F_X12_heads_30 F_X12_wrongRow F_X12_wrongRow_0 ck
        rw [if_pos i1, if_pos (by omega), if_pos rfl, bind_eq]
        exact bad 1 1 19999 (by omega)
      unfold F_X12_heads F_X12_heads_0 ck
      rw [if_pos i1, from_eq (by omega) (by omega) (by omega), bind_eq]
      dsimp only
      by_cases q : 1 ≤ a1 ∧ a1 ≤ 9999
      · rw [if_pos q, if_pos (by omega), if_neg (by omega), if_pos i3, from_eq (by omega) (by omega) (by omega), bind_eq]
        dsimp only
        rw [if_neg (show ¬ (0 ≤ a3 ∧ a3 ≤ 60) by omega), if_pos (by omega), if_pos rfl]
        exact w30
      · rw [if_neg q, if_pos (by omega), if_pos rfl]
        exact w30
    simp only [F_X11_heads, F_X11_heads_0, F_X11_outside, F_X11_outside_0, F_X11_heads_31, F_X11_none, F_X11_none_0, F_X11_isTray, F_X11_isTray_0, F_X11_answer, F_X11_answer_0]
    ((try simp only [hup_s, hup_c, hup_k, ne_eq, Nat.reduceEqDiff, not_false_eq_true]); repeat' (first | (with_reducible refine ev_ck ?_ ?_; first | omega | trivial) | with_reducible refine ev_bind ?_ | (with_reducible refine ev_nx ?_; first | simp only [hup_s, hup_c, hup_k, ne_eq, Nat.reduceEqDiff, not_false_eq_true] | dsimp only | skip) | (with_reducible refine ev_some ?_; first | simp only [hup_s, hup_c, hup_k, ne_eq, Nat.reduceEqDiff, not_false_eq_true] | dsimp only | skip) | (with_reducible refine ev_it ?_ ?_; first | omega | trivial) | (with_reducible refine ev_ie ?_ ?_; first | omega | trivial) | with_reducible refine ev_if (fun _ => ?_) (fun _ => ?_)))
    all_goals (try (exfalso; omega))
    all_goals rw [w0]
    all_goals ((try simp only [hup_s, hup_c, hup_k, ne_eq, Nat.reduceEqDiff, not_false_eq_true]); repeat' (first | (with_reducible refine ev_ck ?_ ?_; first | omega | trivial) | with_reducible refine ev_bind ?_ | (with_reducible refine ev_nx ?_; first | simp only [hup_s, hup_c, hup_k, ne_eq, Nat.reduceEqDiff, not_false_eq_true] | dsimp only | skip) | (with_reducible refine ev_some ?_; first | simp only [hup_s, hup_c, hup_k, ne_eq, Nat.reduceEqDiff, not_false_eq_true] | dsimp only | skip) | (with_reducible refine ev_it ?_ ?_; first | omega | trivial) | (with_reducible refine ev_ie ?_ ?_; first | omega | trivial) | with_reducible refine ev_if (fun _ => ?_) (fun _ => ?_)))
    all_goals (first | (exfalso; omega) | (refine ⟨?_, ?_, RR_st (by omega) r⟩ <;> first | trivial | omega))
  have wr : ∀ v : Int, _ := fun v => wrR (x1 := a2) (N := a3) (lo := 0) (hi := a1 - 1) (h := hup h 0 0 v) i2 i3 (by omega) (by omega) (by omega) (RR_row r v).1 (RR_row r v).2
  have w1 : ∀ (v b : Int), F_X12_wrongRow 1 a2 a3 0 (a1 - 1) (hup h 0 0 v) = some (b, hup h 0 0 v) → F_X12_heads a1 a2 a3 (hup h 0 0 v) = F_X12_heads_48 20000 a1 a2 a3 b 1 1 (hup h 0 0 v) := fun v b hb => by
    unfold F_X12_heads F_X12_heads_0 F_X12_heads_30 ck
    rw [if_pos i1, from_eq (by omega) (by omega) (by omega), bind_eq]
    dsimp only
    rw [if_pos (show 1 ≤ a1 ∧ a1 ≤ 9999 by omega), if_pos (by omega), if_neg (by omega), if_pos i3, from_eq (by omega) (by omega) (by omega), bind_eq]
    dsimp only
    rw [if_pos (show 0 ≤ a3 ∧ a3 ≤ 60 by omega), if_pos (by omega), if_neg (by omega), if_pos i1, hb, bind_eq]
  by_cases c1 : 0 ≤ a2 ∧ a2 < 4
  rotate_left
  · obtain ⟨b, b0, b1, b2, b3, b4, b5⟩ := wr 1
    have : b = 1 := b1.mpr c1
    subst this
    have w0 := (w1 1 1 b0).trans (bad 1 1 19999 (by omega))
    simp only [F_X11_heads, F_X11_heads_0, F_X11_outside, F_X11_outside_0, F_X11_heads_31, F_X11_none, F_X11_none_0, F_X11_isTray, F_X11_isTray_0, F_X11_answer, F_X11_answer_0]
    ((try simp only [hup_s, hup_c, hup_k, ne_eq, Nat.reduceEqDiff, not_false_eq_true]); repeat' (first | (with_reducible refine ev_ck ?_ ?_; first | omega | trivial) | with_reducible refine ev_bind ?_ | (with_reducible refine ev_nx ?_; first | simp only [hup_s, hup_c, hup_k, ne_eq, Nat.reduceEqDiff, not_false_eq_true] | dsimp only | skip) | (with_reducible refine ev_some ?_; first | simp only [hup_s, hup_c, hup_k, ne_eq, Nat.reduceEqDiff, not_false_eq_true] | dsimp only | skip) | (with_reducible refine ev_it ?_ ?_; first | omega | trivial) | (with_reducible refine ev_ie ?_ ?_; first | omega | trivial) | with_reducible refine ev_if (fun _ => ?_) (fun _ => ?_)))
    all_goals (try (exfalso; omega))
    all_goals rw [w0]
    all_goals ((try simp only [hup_s, hup_c, hup_k, ne_eq, Nat.reduceEqDiff, not_false_eq_true]); repeat' (first | (with_reducible refine ev_ck ?_ ?_; first | omega | trivial) | with_reducible refine ev_bind ?_ | (with_reducible refine ev_nx ?_; first | simp only [hup_s, hup_c, hup_k, ne_eq, Nat.reduceEqDiff, not_false_eq_true] | dsimp only | skip) | (with_reducible refine ev_some ?_; first | simp only [hup_s, hup_c, hup_k, ne_eq, Nat.reduceEqDiff, not_false_eq_true] | dsimp only | skip) | (with_reducible refine ev_it ?_ ?_; first | omega | trivial) | (with_reducible refine ev_ie ?_ ?_; first | omega | trivial) | with_reducible refine ev_if (fun _ => ?_) (fun _ => ?_)))
    all_goals (first | (exfalso; omega) | (refine ⟨?_, ?_, RR_st (by omega) r⟩ <;> first | trivial | omega))
  obtain ⟨t, e⟩ : ∃ t : Nat, a2 = t := ⟨a2.toNat, by omega⟩
  subst e
  obtain ⟨q1, q2, q3⟩ := r2 t (by omega)
  simp only [Int.toNat_natCast, e1, e2] at wr
  by_cases c2 : h 7 t = -1
  · obtain ⟨b, b0, b1, b2, b3, b4, b5⟩ := wr 2
    have : b = 2 := b2.mpr ⟨c1, by omega⟩
    subst this
    have w0 := (w1 2 2 b0).trans (bad 2 2 19999 (by omega))
    simp only [F_X11_heads, F_X11_heads_0, F_X11_outside, F_X11_outside_0, F_X11_heads_31, F_X11_none, F_X11_none_0, F_X11_isTray, F_X11_isTray_0, F_X11_rowLack, F_X11_rowLack_0, F_X11_answer, F_X11_answer_0]
    simp only [Int.toNat_natCast]
    ((try simp only [hup_s, hup_c, hup_k, ne_eq, Nat.reduceEqDiff, not_false_eq_true]); repeat' (first | (with_reducible refine ev_ck ?_ ?_; first | omega | trivial) | with_reducible refine ev_bind ?_ | (with_reducible refine ev_nx ?_; first | simp only [hup_s, hup_c, hup_k, ne_eq, Nat.reduceEqDiff, not_false_eq_true] | dsimp only | skip) | (with_reducible refine ev_some ?_; first | simp only [hup_s, hup_c, hup_k, ne_eq, Nat.reduceEqDiff, not_false_eq_true] | dsimp only | skip) | (with_reducible refine ev_it ?_ ?_; first | omega | trivial) | (with_reducible refine ev_ie ?_ ?_; first | omega | trivial) | with_reducible refine ev_if (fun _ => ?_) (fun _ => ?_)))
    rw [w0]
    ((try simp only [hup_s, hup_c, hup_k, ne_eq, Nat.reduceEqDiff, not_false_eq_true]); repeat' (first | (with_reducible refine ev_ck ?_ ?_; first | omega | trivial) | with_reducible refine ev_bind ?_ | (with_reducible refine ev_nx ?_; first | simp only [hup_s, hup_c, hup_k, ne_eq, Nat.reduceEqDiff, not_false_eq_true] | dsimp only | skip) | (with_reducible refine ev_some ?_; first | simp only [hup_s, hup_c, hup_k, ne_eq, Nat.reduceEqDiff, not_false_eq_true] | dsimp only | skip) | (with_reducible refine ev_it ?_ ?_; first | omega | trivial) | (with_reducible refine ev_ie ?_ ?_; first | omega | trivial) | with_reducible refine ev_if (fun _ => ?_) (fun _ => ?_)))
    (first | (exfalso; omega) | (refine ⟨?_, ?_, RR_st (by omega) r⟩ <;> first | trivial | omega))
  by_cases c3 : a3 ≤ h 7 t
  rotate_left
  · obtain ⟨b, b0, b1, b2, b3, b4, b5⟩ := wr 3
    have : b = 3 := b3.mpr ⟨c1, by omega, by omega⟩
    subst this
    have w0 := (w1 3 3 b0).trans (bad 3 3 19999 (by omega))
    simp only [F_X11_heads, F_X11_heads_0, F_X11_outside, F_X11_outside_0, F_X11_heads_31, F_X11_none, F_X11_none_0, F_X11_isTray, F_X11_isTray_0, F_X11_rowLack, F_X11_rowLack_0, F_X11_answer, F_X11_answer_0]
    simp only [Int.toNat_natCast]
    ((try simp only [hup_s, hup_c, hup_k, ne_eq, Nat.reduceEqDiff, not_false_eq_true]); repeat' (first | (with_reducible refine ev_ck ?_ ?_; first | omega | trivial) | with_reducible refine ev_bind ?_ | (with_reducible refine ev_nx ?_; first | simp only [hup_s, hup_c, hup_k, ne_eq, Nat.reduceEqDiff, not_false_eq_true] | dsimp only | skip) | (with_reducible refine ev_some ?_; first | simp only [hup_s, hup_c, hup_k, ne_eq, Nat.reduceEqDiff, not_false_eq_true] | dsimp only | skip) | (with_reducible refine ev_it ?_ ?_; first | omega | trivial) | (with_reducible refine ev_ie ?_ ?_; first | omega | trivial) | with_reducible refine ev_if (fun _ => ?_) (fun _ => ?_)))
    rw [w0]
    ((try simp only [hup_s, hup_c, hup_k, ne_eq, Nat.reduceEqDiff, not_false_eq_true]); repeat' (first | (with_reducible refine ev_ck ?_ ?_; first | omega | trivial) | with_reducible refine ev_bind ?_ | (with_reducible refine ev_nx ?_; first | simp only [hup_s, hup_c, hup_k, ne_eq, Nat.reduceEqDiff, not_false_eq_true] | dsimp only | skip) | (with_reducible refine ev_some ?_; first | simp only [hup_s, hup_c, hup_k, ne_eq, Nat.reduceEqDiff, not_false_eq_true] | dsimp only | skip) | (with_reducible refine ev_it ?_ ?_; first | omega | trivial) | (with_reducible refine ev_ie ?_ ?_; first | omega | trivial) | with_reducible refine ev_if (fun _ => ?_) (fun _ => ?_)))
    (first | (exfalso; omega) | (refine ⟨?_, ?_, RR_st (by omega) r⟩ <;> first | trivial | omega))
  obtain ⟨w, ew⟩ : ∃ w : Nat, a3 = w := ⟨a3.toNat, by omega⟩
  obtain ⟨B, eB⟩ : ∃ B : Nat, a1 = B := ⟨a1.toNat, by omega⟩
  subst ew eB
  obtain ⟨x, x1, x2, x3⟩ := ris_g (c := 2 + t) (N := w) (lim := (B : Int) - 1) (h := h) (by omega) (by omega) (fun k hk => (q3 k (by omega)).1) w 20000 0 (by omega) (by omega) (fun k hk => absurd hk (by omega))
  have x2' : F_X11_rises (2 + t) (w : Int) ((B : Int) - 1) h = some (x, h) := x2
  have hd : ∀ v : Int, _ := fun v => hdC (t := t) (N := w) (x := (B : Int)) (h := hup h 0 0 v) (by omega) (by omega) (by omega) (fun k hk => by rw [e2, (q3 k (by omega)).2]; exact (q3 k (by omega)).1) (w - 1) 20000 1 1 (Or.inr rfl) (by omega) (by omega) (by omega)
  by_cases c4 : x = 1
  rotate_left
  · have c5 : x = 0 := by omega
    subst c5
    have nr : ¬ risG ((B : Int) - 1) (h (2 + t)) w := fun z => c4 (x3.mpr z)
    have w0 : F_X12_heads (B : Int) (t : Int) (w : Int) (hup h 0 0 5) = some (-1, hup (hup h 0 0 5) 141 1 5) := by
      obtain ⟨b, b0, b1, b2, b3, b4, b5⟩ := wr 5
      by_cases cb : b = 0
      · subst cb
        have b4' := (b4.mp rfl).2.2.2
        obtain ⟨b, d1, d2, d3⟩ := hd 5
        have : b = 0 := by
          rcases d1 with q | q
          · exact q
          · exfalso
            have z := (d3.mp q).2
            refine nr (fun k hk => ⟨?_, fun k0 => ?_⟩)
            · have := b4' k (by omega)
              rw [(q3 k (by omega)).2] at this
              exact this
            · have := z k (by omega) hk
              rw [e2, e2, (q3 k (by omega)).2, (q3 (k - 1) (by omega)).2] at this
              exact this
        subst this
        rw [w1 5 0 b0]
        rw [show ((1 : Nat) : Int) = 1 from rfl] at d2
        rw [d2]
        unfold F_X12_heads_107 F_X12_heads_117 F_X12_heads_129 F_X12_refuse F_X12_refuse_0 ck
        rw [if_pos (by omega), if_neg (by omega), if_pos (by omega), if_neg (by omega), if_pos (by omega), if_pos (by omega), nx_eq, bind_eq]
      · have : b = 5 := by
          rcases b5 with q | q | q | q | q
          · exact absurd q cb
          · exact absurd c1 (b1.mp q)
          · have := (b2.mp q).2; omega
          · have := (b3.mp q).2; omega
          · exact q
        subst this
        exact (w1 5 5 b0).trans (bad 5 5 19999 (by omega))
    simp only [F_X11_heads, F_X11_heads_0, F_X11_outside, F_X11_outside_0, F_X11_heads_31, F_X11_none, F_X11_none_0, F_X11_isTray, F_X11_isTray_0, F_X11_rowLack, F_X11_rowLack_0, F_X11_answer, F_X11_answer_0]
    simp only [Int.toNat_natCast]
    ((try simp only [hup_s, hup_c, hup_k, ne_eq, Nat.reduceEqDiff, not_false_eq_true]); repeat' (first | (with_reducible refine ev_ck ?_ ?_; first | omega | trivial) | with_reducible refine ev_bind ?_ | (with_reducible refine ev_nx ?_; first | simp only [hup_s, hup_c, hup_k, ne_eq, Nat.reduceEqDiff, not_false_eq_true] | dsimp only | skip) | (with_reducible refine ev_some ?_; first | simp only [hup_s, hup_c, hup_k, ne_eq, Nat.reduceEqDiff, not_false_eq_true] | dsimp only | skip) | (with_reducible refine ev_it ?_ ?_; first | omega | trivial) | (with_reducible refine ev_ie ?_ ?_; first | omega | trivial) | with_reducible refine ev_if (fun _ => ?_) (fun _ => ?_) | rw [x2']))
    rw [w0]
    ((try simp only [hup_s, hup_c, hup_k, ne_eq, Nat.reduceEqDiff, not_false_eq_true]); repeat' (first | (with_reducible refine ev_ck ?_ ?_; first | omega | trivial) | with_reducible refine ev_bind ?_ | (with_reducible refine ev_nx ?_; first | simp only [hup_s, hup_c, hup_k, ne_eq, Nat.reduceEqDiff, not_false_eq_true] | dsimp only | skip) | (with_reducible refine ev_some ?_; first | simp only [hup_s, hup_c, hup_k, ne_eq, Nat.reduceEqDiff, not_false_eq_true] | dsimp only | skip) | (with_reducible refine ev_it ?_ ?_; first | omega | trivial) | (with_reducible refine ev_ie ?_ ?_; first | omega | trivial) | with_reducible refine ev_if (fun _ => ?_) (fun _ => ?_)))
    (first | (exfalso; omega) | (refine ⟨?_, ?_, RR_st (by omega) r⟩ <;> first | trivial | omega))
  subst c4
  have ris := x3.mp rfl
  -- the numbers
  obtain ⟨n, en⟩ : ∃ n : Nat, h 35 0 = (n : Int) := ⟨(h 35 0).toNat, by omega⟩
  generalize eHm : (fun m => (h 47 m).toNat) = Hm
  generalize eW : (fun i => (h (2 + t) i).toNat) = W
  have hHm : ∀ m, m < n → h 47 m = (Hm m : Int) ∧ 1 ≤ Hm m ∧ Hm m ≤ 24 := fun m hm => by
    have := (X2 m (by omega)).1
    rw [← eHm]
    dsimp only
    omega
  have hWv : ∀ i, i < w → h (2 + t) i = (W i : Int) ∧ W i < B := fun i hi => by
    have := (ris i hi).1
    rw [← eW]
    dsimp only
    omega
  have hW1 : ∀ i, i + 1 < w → W i < W (i + 1) := fun i hi => by
    have a := (ris (i + 1) hi).2 (by omega)
    rw [show i + 1 - 1 = i by omega, (hWv i (by omega)).1, (hWv (i + 1) hi).1] at a
    omega
  have hWm : ∀ i j, i < j → j < w → W i < W j := by
    intro i j
    induction j with
    | zero => intro q; omega
    | succ j ih =>
      intro q1 q2
      have := hW1 j q2
      by_cases z : i = j
      · subst z; exact this
      · have := ih (by omega) (by omega); omega
  clear eHm eW
  -- what the other does up to its list
  have other : ∀ (hx : MH) (s : Int), (∀ c k, c ≠ 73 → c ≠ 74 → hx c k = h c k) → ∃ G : MH, F_X12_heads (B : Int) (t : Int) (w : Int) (hup hx 0 0 s) = F_X12_heads_225 (w : Int) (h 141 40) (if w = 0 then 1 else 0) G ∧ GE n w B Hm W G ∧ ∀ c k, c ≠ 154 → c ≠ 158 → c ≠ 155 → c ≠ 156 → c ≠ 157 → ¬ (c = 141 ∧ k = 39) → G c k = hup hx 0 0 s c k := fun hx s hf => by
    have f7 : ∀ c k, 100 < c → hup hx 0 0 s c k = h c k := fun c k q => by rw [hup_n _ _ _ _ _ _ (by omega), hf c k (by omega) (by omega)]
    have b0 : F_X12_wrongRow 1 (t : Int) (w : Int) 0 ((B : Int) - 1) (hup hx 0 0 s) = some (0, hup hx 0 0 s) := by
      obtain ⟨b', d0, d1, d2, d3, d4, d5⟩ := wrR (x1 := (t : Int)) (N := (w : Int)) (lo := 0) (hi := (B : Int) - 1) (h := hup hx 0 0 s) i2 i3 (by omega) (by omega) (by omega) (fun t ht => by
        rw [f7 _ _ (by omega)]; have := (r2 t ht).2.1; omega) (fun t k ht hk => by
        rw [f7 _ _ (by omega)] at hk ⊢
        have z := r2 t ht
        rw [(z.2.2 k (by omega)).2]; exact (z.2.2 k (by omega)).1)
      have : b' = 0 := d4.mpr ⟨c1, by rw [Int.toNat_natCast, f7 _ _ (by omega)]; omega, by rw [Int.toNat_natCast, f7 _ _ (by omega)]; omega, fun k hk => by rw [Int.toNat_natCast, f7 _ _ (by omega), (q3 k (by omega)).2]; exact (ris k (by omega)).1⟩
      rw [this] at d0
      exact d0
    obtain ⟨b, d1, d2, d3⟩ := hdC (t := t) (N := w) (x := (B : Int)) (h := hup hx 0 0 s) (by omega) (by omega) (by omega) (fun k hk => by rw [f7 _ _ (by omega), (q3 k (by omega)).2]; exact (q3 k (by omega)).1) (w - 1) 20000 1 1 (Or.inr rfl) (by omega) (by omega) (by omega)
    have db : b = 1 := d3.mpr ⟨rfl, fun k k1 k2 => by
      rw [f7 _ _ (by omega), f7 _ _ (by omega), (q3 k (by omega)).2, (q3 (k - 1) (by omega)).2]
      exact (ris k k2).2 (by omega)⟩
    subst db
    obtain ⟨g1, m1, m2, m3⟩ := mk136 (t := t) (w := w) (show 1 ≤ B ∧ B ≤ 9999 by omega) B 20000 0 (hup hx 0 0 s) (by omega) (by omega)
    obtain ⟨e', g2, p1, p2, p3, p4⟩ := mk159 (W := W) (show t < 4 by omega) (by omega) (show 1 ≤ B ∧ B ≤ 9999 by omega) (fun i hi => (hWv i hi).2) w 20000 0 g1 (by omega) (by omega) (fun i hi => by rw [m3 _ _ (by omega), f7 _ _ (by omega), (q3 i (by omega)).2]; exact (hWv i hi).1) (fun v hv => by rw [m2 v (by omega) hv]; exact ⟨Or.inl rfl, ⟨fun z => absurd z (by omega), fun ⟨i, z, _⟩ => absurd z (by omega)⟩⟩) (fun i hi => absurd hi (by omega))
    have k2 : ∀ c k, c ≠ 154 → c ≠ 158 → g2 c k = hup hx 0 0 s c k := fun c k z1 z2 => by rw [p4 c k z1 z2, m3 c k (by omega)]
    obtain ⟨g3, t1, t2, t3⟩ := th7 (n := n) (w := w) (B := B) (Hm := Hm) (W := W) (by omega) (by omega) (fun m hm => (hHm m hm).2) hWm (fun i hi => (hWv i hi).2) n 20000 0 (hup g2 141 39 0) (by omega) (by omega) (by rw [hup_n _ _ _ _ _ _ (by omega), k2 _ _ (by omega) (by omega), f7 _ _ (by omega)]; omega) (fun m hm => by
      rw [hup_n _ _ _ _ _ _ (by omega), k2 _ _ (by omega) (by omega), f7 _ _ (by omega), (X2 m (by omega)).1.2.2]
      exact (hHm m hm).1) ⟨by rw [hup_s]; rfl, fun k hk => absurd hk (by omega)⟩ (fun v hv => by rw [hup_n _ _ _ _ _ _ (by omega)]; exact p2 v hv)
    have k3 : ∀ c k, c ≠ 155 → c ≠ 156 → c ≠ 157 → ¬ (c = 141 ∧ k = 39) → g3 c k = g2 c k := fun c k z1 z2 z3 z4 => by rw [t3 c k z1 z2 z3 z4, hup_n _ _ _ _ _ _ z4]
    refine ⟨g3, ?_, ⟨t2, fun m hm => ?_, fun i hi => ?_⟩, fun c k z1 z2 z3 z4 z5 z6 => by rw [k3 c k z3 z4 z5 z6, k2 c k z1 z2]⟩
    · have th : F_X12_takesHeads (B : Int) g2 = some g3 := by
        unfold F_X12_takesHeads F_X12_takesHeads_0
        rw [nx_eq]
        exact t1
      have fw : F_X12_heads (B : Int) (t : Int) (w : Int) (hup hx 0 0 s) = F_X12_heads_48 20000 (B : Int) (t : Int) (w : Int) 0 1 1 (hup hx 0 0 s) := by
        unfold F_X12_heads F_X12_heads_0 F_X12_heads_30 ck
        rw [if_pos i1, from_eq (by omega) (by omega) (by omega), bind_eq]
        dsimp only
        rw [if_pos (show 1 ≤ (B : Int) ∧ (B : Int) ≤ 9999 by omega), if_pos (by omega), if_neg (by omega), if_pos i3, from_eq (by omega) (by omega) (by omega), bind_eq]
        dsimp only
        rw [if_pos (show 0 ≤ (w : Int) ∧ (w : Int) ≤ 60 by omega), if_pos (by omega), if_neg (by omega), if_pos i1, b0, bind_eq]
      rw [show ((1 : Nat) : Int) = 1 from rfl] at d2
      rw [show ((0 : Nat) : Int) = 0 from rfl] at m1 p1
      have o40 : g3 141 40 = h 141 40 := by rw [k3 _ _ (by omega) (by omega) (by omega) (by omega), k2 _ _ (by omega) (by omega), f7 _ _ (by omega)]
      rw [fw, d2]
      unfold F_X12_heads_107 ck
      rw [if_pos (by omega), if_neg (by omega), if_pos (by omega), if_pos (by omega), m1, p1, F_X12_heads_159]
      unfold ck
      rw [if_pos (by omega), if_pos (by omega), if_pos (by omega), th, bind_eq, nx_eq, o40]
      by_cases z : w = 0
      · rw [if_neg (by omega), if_pos z]
      · rw [if_pos (by omega), if_neg z]
    · rw [k3 _ _ (by omega) (by omega) (by omega) (by omega), k2 _ _ (by omega) (by omega), f7 _ _ (by omega)]
      have := (X2 m (by omega)).1.2.2
      rw [this]
      exact (hHm m hm).1
    · rw [k3 _ _ (by omega) (by omega) (by omega) (by omega)]
      have := (hWv i hi).2
      exact ⟨p3 i hi, by omega⟩
  by_cases cw : w = 0
  · -- no wrong bottle
    subst cw
    obtain ⟨G, o1, o2, o3⟩ := other (hup (hup h 73 1 0) 73 2 1) 0 (fun c k z1 z2 => by rw [hup_n _ _ _ _ _ _ (by omega), hup_n _ _ _ _ _ _ (by omega)])
    have fi : F_X2_finds 34 (2 + t) ((0 : Nat) : Int) (B : Int) h = some (1, hup (hup h 73 1 0) 73 2 1) := by
      unfold F_X2_finds F_X2_finds_0 ck
      rw [if_pos (by omega), if_neg (by omega), nx_eq, nx_eq]
    have t1 := o2.1.1
    have rl := cn_le (fit n 0 B Hm W) 144
    unfold rkf at t1
    rw [if_pos rfl] at o1
    have w0 : F_X12_heads (B : Int) (t : Int) ((0 : Nat) : Int) (hup (hup (hup h 73 1 0) 73 2 1) 0 0 0) = some (0, hup (hup (hup G 141 40 1) 141 41 0) 141 1 0) := by
      have z := h372 (x6 := h 141 40) (x7 := 0) (y := 1) (g := hup G 141 40 1) (hup_s _ _ _ _) (by omega) (by omega)
      have l : F_X12_heads_272 0 (h 141 40) 0 (hup G 141 40 1) = some (0, hup (hup (hup G 141 40 1) 141 41 0) 141 1 0) := by
        unfold F_X12_heads_272 F_X12_heads_286 ck
        rw [hup_s, if_pos (by omega), if_neg (by omega), if_pos (by omega), if_pos (by omega), if_pos (by omega), if_pos (by omega)]
        exact z
      rw [o1]
      unfold F_X12_heads_225
      rw [nx_eq, show ((0 : Nat) : Int) = 0 from rfl, show (20000 : Nat) = 19999 + 1 from rfl, F_X12_heads_234]
      unfold ck
      rw [hup_n _ _ _ _ _ _ (show ¬ (141 = 141 ∧ 39 = 40) by omega), t1, if_pos (by omega), if_pos (by omega)]
      by_cases z : ((cn (fit n 0 B Hm W) 144 : Nat) : Int) ≤ 0
      · rw [if_pos z]; exact l
      · rw [if_neg z, if_pos (by omega), if_pos (by omega)]; exact l
    simp only [F_X11_heads, F_X11_heads_0, F_X11_outside, F_X11_outside_0, F_X11_heads_31, F_X11_none, F_X11_none_0, F_X11_isTray, F_X11_isTray_0, F_X11_rowLack, F_X11_rowLack_0, F_X11_answer, F_X11_answer_0]
    simp only [Int.toNat_natCast]
    ((try simp only [hup_s, hup_c, hup_k, ne_eq, Nat.reduceEqDiff, not_false_eq_true]); repeat' (first | (with_reducible refine ev_ck ?_ ?_; first | omega | trivial) | with_reducible refine ev_bind ?_ | (with_reducible refine ev_nx ?_; first | simp only [hup_s, hup_c, hup_k, ne_eq, Nat.reduceEqDiff, not_false_eq_true] | dsimp only | skip) | (with_reducible refine ev_some ?_; first | simp only [hup_s, hup_c, hup_k, ne_eq, Nat.reduceEqDiff, not_false_eq_true] | dsimp only | skip) | (with_reducible refine ev_it ?_ ?_; first | omega | trivial) | (with_reducible refine ev_ie ?_ ?_; first | omega | trivial) | with_reducible refine ev_if (fun _ => ?_) (fun _ => ?_) | rw [x2'] | rw [fi]))
    rw [w0]
    ((try simp only [hup_s, hup_c, hup_k, ne_eq, Nat.reduceEqDiff, not_false_eq_true]); repeat' (first | (with_reducible refine ev_ck ?_ ?_; first | omega | trivial) | with_reducible refine ev_bind ?_ | (with_reducible refine ev_nx ?_; first | simp only [hup_s, hup_c, hup_k, ne_eq, Nat.reduceEqDiff, not_false_eq_true] | dsimp only | skip) | (with_reducible refine ev_some ?_; first | simp only [hup_s, hup_c, hup_k, ne_eq, Nat.reduceEqDiff, not_false_eq_true] | dsimp only | skip) | (with_reducible refine ev_it ?_ ?_; first | omega | trivial) | (with_reducible refine ev_ie ?_ ?_; first | omega | trivial) | with_reducible refine ev_if (fun _ => ?_) (fun _ => ?_)))
    refine ⟨by first | trivial | omega, by omega, RR_heads (hF := hup (hup h 73 1 0) 73 2 1) (sz := 0) (y := 1) r (fun c k z1 z2 => by rw [hup_n _ _ _ _ _ _ (by omega), hup_n _ _ _ _ _ _ (by omega)]) (by rw [hup_n _ _ _ _ _ _ (by omega), hup_s]) (hup_s _ _ _ _) (by omega) (by omega) (fun c k z1 z2 z3 z4 z5 z6 z7 => ?_) ?_ ?_ (hup_s _ _ _ _) (fun q => absurd q (by omega)) (fun q => absurd q (by omega))⟩
    · rw [hup_n _ _ _ _ _ _ (by omega), hup_n _ _ _ _ _ _ (by omega), hup_n _ _ _ _ _ _ (by omega), o3 c k z1 z2 z3 z4 z5 (by omega)]
    · rw [hup_n _ _ _ _ _ _ (by omega), hup_n _ _ _ _ _ _ (by omega), hup_s]
    · rw [hup_n _ _ _ _ _ _ (by omega), hup_s]
  -- some are wrong
  obtain ⟨e', h1, f1, f2, f3⟩ := fin_l (c := 2 + t) (n := n) (w := w) (B := B) (Hm := Hm) (W := W) (by omega) (by omega) (by omega) (by omega) (fun m hm => (hHm m hm).2) 144 20000 0 h (by omega) (by omega) en (fun m hm => (hHm m hm).1) (fun i hi => ⟨(hWv i hi).1, by have := (hWv i hi).2; omega⟩)
  have h1c : ∀ j, j < 144 → h1 74 j = cvr n w B Hm W j := fun j hj => f2 j (by omega) hj
  have pb : (2 : Nat) ^ w ≤ 1152921504606846976 := by
    have e : 2 ^ w ≤ 2 ^ 60 := Nat.pow_le_pow_right (by omega) (show w ≤ 60 by omega)
    have e2 : (2 : Nat) ^ 60 = 1152921504606846976 := by decide
    omega
  have sw := shl64n w (by omega)
  rw [show ((0 : Nat) : Int) = 0 from rfl] at f1
  obtain ⟨y1, h2, g1, g2, g3, g4, g5⟩ := one_l (n := n) (w := w) (B := B) (Hm := Hm) (W := W) (by omega) (by omega) 144 20000 20000 0 0 h1 (by omega) (by omega) (by omega) (by omega) h1c
  rw [show ((0 : Nat) : Int) = 0 from rfl] at g1
  have fo : F_X2_findsOne (((2 ^ w : Nat) : Int) - 1) h1 = if y1 = 0 then some (0, h2) else some (1, hup (hup h2 73 1 1) 73 2 (y1 : Int)) := g1
  have rk0 : rkf n w B Hm W 0 = 0 := rfl
  by_cases cy : y1 = 0
  rotate_left
  · -- one head
    rw [if_neg cy] at fo
    have fi : F_X2_finds 34 (2 + t) (w : Int) (B : Int) h = some (1, hup (hup h2 73 1 1) 73 2 (y1 : Int)) := by
      unfold F_X2_finds F_X2_finds_0 ck
      rw [if_pos (by omega), if_pos (by omega), f1, F_X2_finds_19]
      unfold ck
      rw [if_pos (by omega), if_pos (by omega), nx_eq, sw, fo, bind_eq]
      dsimp only
      rw [if_pos (by omega), if_pos (by omega)]
    have hF : ∀ c k, c ≠ 73 → c ≠ 74 → hup (hup h2 73 1 1) 73 2 (y1 : Int) c k = h c k := fun c k z1 z2 => by rw [hup_n _ _ _ _ _ _ (by omega), hup_n _ _ _ _ _ _ (by omega), g3 c k (by omega), f3 c k (by omega)]
    obtain ⟨G, o1, o2, o3⟩ := other (hup (hup h2 73 1 1) 73 2 (y1 : Int)) 0 hF
    rw [if_neg cw] at o1
    have KG : KF G (hup G 141 40 0) := fun c k z1 z2 => hup_n _ _ _ _ _ _ z2
    obtain ⟨G2, u1, u2, u3, u4⟩ := g5 (h 141 40) (hup G 141 40 0) (TL_n KG o2.1) ⟨hup_s _ _ _ _, fun q => absurd q (by omega)⟩
    rw [rk0, show ((0 : Nat) : Int) = 0 from rfl] at u1
    have w0 : F_X12_heads (B : Int) (t : Int) (w : Int) (hup (hup (hup h2 73 1 1) 73 2 (y1 : Int)) 0 0 0) = some (1, hup (hup G2 141 41 1) 141 1 0) := by
      have z := h372 (x6 := h 141 40) (x7 := 1) (y := (y1 : Int)) (g := G2) u2.1 (by omega) (by omega)
      have u21 := u2.1
      rw [o1]
      unfold F_X12_heads_225
      rw [nx_eq, u1]
      unfold F_X12_heads_272 F_X12_heads_286 ck
      rw [u21, if_pos (by omega), if_neg (by omega), if_pos (by omega), if_neg (by omega), if_pos (by omega), if_pos (by omega)]
      exact z
    have a73 : hup (hup h2 73 1 1) 73 2 (y1 : Int) 73 1 = 1 := by rw [hup_n _ _ _ _ _ _ (by omega), hup_s]
    have b73 : hup (hup h2 73 1 1) 73 2 (y1 : Int) 73 3 = h2 73 3 := by rw [hup_n _ _ _ _ _ _ (by omega), hup_n _ _ _ _ _ _ (by omega)]
    have c73 : hup (hup h2 73 1 1) 73 2 (y1 : Int) 73 2 = (y1 : Int) := hup_s _ _ _ _
    generalize hup (hup h2 73 1 1) 73 2 (y1 : Int) = hF' at *
    simp only [F_X11_heads, F_X11_heads_0, F_X11_outside, F_X11_outside_0, F_X11_heads_31, F_X11_none, F_X11_none_0, F_X11_isTray, F_X11_isTray_0, F_X11_rowLack, F_X11_rowLack_0, F_X11_answer, F_X11_answer_0]
    simp only [Int.toNat_natCast]
    ((try simp only [hup_s, hup_c, hup_k, ne_eq, Nat.reduceEqDiff, not_false_eq_true, a73]); repeat' (first | (with_reducible refine ev_ck ?_ ?_; first | omega | trivial) | with_reducible refine ev_bind ?_ | (with_reducible refine ev_nx ?_; first | simp only [hup_s, hup_c, hup_k, ne_eq, Nat.reduceEqDiff, not_false_eq_true, a73] | dsimp only | skip) | (with_reducible refine ev_some ?_; first | simp only [hup_s, hup_c, hup_k, ne_eq, Nat.reduceEqDiff, not_false_eq_true, a73] | dsimp only | skip) | (with_reducible refine ev_it ?_ ?_; first | omega | trivial) | (with_reducible refine ev_ie ?_ ?_; first | omega | trivial) | with_reducible refine ev_if (fun _ => ?_) (fun _ => ?_) | rw [x2'] | rw [fi]))
    rw [w0]
    ((try simp only [hup_s, hup_c, hup_k, ne_eq, Nat.reduceEqDiff, not_false_eq_true]); repeat' (first | (with_reducible refine ev_ck ?_ ?_; first | omega | trivial) | with_reducible refine ev_bind ?_ | (with_reducible refine ev_nx ?_; first | simp only [hup_s, hup_c, hup_k, ne_eq, Nat.reduceEqDiff, not_false_eq_true] | dsimp only | skip) | (with_reducible refine ev_some ?_; first | simp only [hup_s, hup_c, hup_k, ne_eq, Nat.reduceEqDiff, not_false_eq_true] | dsimp only | skip) | (with_reducible refine ev_it ?_ ?_; first | omega | trivial) | (with_reducible refine ev_ie ?_ ?_; first | omega | trivial) | with_reducible refine ev_if (fun _ => ?_) (fun _ => ?_)))
    obtain ⟨v1, v2, v3⟩ := u2.2 (by omega)
    refine ⟨by first | trivial | omega, by omega, RR_heads (hF := hF') (sz := 1) (y := (y1 : Int)) r hF a73 c73 (by omega) (by omega) (fun c k z1 z2 z3 z4 z5 z6 z7 => ?_) ?_ ?_ (hup_s _ _ _ _) (fun _ => ?_) (fun q => absurd q (by omega))⟩
    · rw [hup_n _ _ _ _ _ _ (by omega), hup_n _ _ _ _ _ _ (by omega), u3 c k z6 (by omega), KG c k z6 (by omega), o3 c k z1 z2 z3 z4 z5 (by omega)]
    · rw [hup_n _ _ _ _ _ _ (by omega), hup_n _ _ _ _ _ _ (by omega)]; exact u2.1
    · rw [hup_n _ _ _ _ _ _ (by omega), hup_s]
    · rw [b73, hup_n _ _ _ _ _ _ (by omega), hup_n _ _ _ _ _ _ (by omega), hup_n _ _ _ _ _ _ (by omega), hup_n _ _ _ _ _ _ (by omega)]
      exact ⟨v1, v2, v3⟩
  rw [if_pos cy] at fo
  have e21 := g4 cy
  rw [e21] at fo
  obtain ⟨y2, h3, k1, k2, k3, k4, k5⟩ := two_l (n := n) (w := w) (B := B) (Hm := Hm) (W := W) (by omega) (by omega) (fun m hm => (hHm m hm).2) 144 20000 20000 0 0 h1 (by omega) (by omega) (by omega) (by omega) h1c
  rw [show ((0 : Nat) : Int) = 0 from rfl] at k1
  have ft : F_X2_findsTwo (((2 ^ w : Nat) : Int) - 1) h1 = if y2 = 0 then some (0, h3) else some (1, hup (hup h3 73 1 2) 73 2 (y2 : Int)) := k1
  -- the other, on whatever heap
  have oth : ∀ (hx : MH) (s : Int), (∀ c k, c ≠ 73 → c ≠ 74 → hx c k = h c k) → ∃ G2 : MH, F_X12_heads (B : Int) (t : Int) (w : Int) (hup hx 0 0 s) = F_X12_heads_372 (h 141 40) 2 G2 ∧ FK2 (y2 : Int) h3 G2 ∧ (∀ c k, c ≠ 154 → c ≠ 158 → c ≠ 155 → c ≠ 156 → c ≠ 157 → c ≠ 159 → ¬ (c = 141 ∧ (k = 39 ∨ k = 40)) → G2 c k = hup hx 0 0 s c k) ∧ (y2 = 0 → ∀ k, G2 159 k = hup hx 0 0 s 159 k) := fun hx s hf => by
    obtain ⟨G, o1, o2, o3⟩ := other hx s hf
    rw [if_neg cw] at o1
    have KG : KF G (hup G 141 40 0) := fun c k z1 z2 => hup_n _ _ _ _ _ _ z2
    obtain ⟨G1, u1, u2, u3, u4⟩ := g5 (h 141 40) (hup G 141 40 0) (TL_n KG o2.1) ⟨hup_s _ _ _ _, fun q => absurd q (by omega)⟩
    rw [u4 cy, rk0, show ((0 : Nat) : Int) = 0 from rfl] at u1
    obtain ⟨G2, v1, v2, v3, v4⟩ := k5 (h 141 40) (hup G 141 40 0) (GE_n KG o2) ⟨⟨hup_s _ _ _ _, fun q => absurd q (by omega)⟩, fun q => absurd q (by omega)⟩
    rw [rk0, show ((0 : Nat) : Int) = 0 from rfl] at v1
    refine ⟨G2, ?_, v2, fun c k z1 z2 z3 z4 z5 z6 z7 => by rw [v3 c k z6 (by omega), KG c k z6 (by omega), o3 c k z1 z2 z3 z4 z5 (by omega)], fun q k => by rw [v4 q, hup_n _ _ _ _ _ _ (by omega), o3 _ _ (by omega) (by omega) (by omega) (by omega) (by omega) (by omega)]⟩
    rw [o1]
    unfold F_X12_heads_225
    rw [nx_eq, u1]
    unfold F_X12_heads_272 F_X12_heads_286 ck
    rw [hup_s, if_pos (by omega), if_pos (by omega), if_pos (by omega), if_neg (by omega)]
    exact v1
  by_cases cz : y2 = 0
  · -- none
    rw [if_pos cz] at ft
    have e3 := k4 cz
    rw [e3] at ft
    have fi : F_X2_finds 34 (2 + t) (w : Int) (B : Int) h = some (0, h1) := by
      unfold F_X2_finds F_X2_finds_0 ck
      rw [if_pos (by omega), if_pos (by omega), f1, F_X2_finds_19]
      unfold ck
      rw [if_pos (by omega), if_pos (by omega), nx_eq, sw, fo, bind_eq]
      dsimp only
      rw [if_pos (by omega), if_neg (by omega), ft, bind_eq]
      dsimp only
      rw [if_pos (by omega), if_pos rfl]
    obtain ⟨G2, o1, o2, o3, o4⟩ := oth h1 6 (fun c k z1 z2 => f3 c k (by omega))
    have w0 : F_X12_heads (B : Int) (t : Int) (w : Int) (hup h1 0 0 6) = some (-1, hup (hup G2 141 40 (h 141 40)) 141 1 6) := by
      have o21 := o2.1.1
      rw [o1]
      unfold F_X12_heads_372 F_X12_refuse F_X12_refuse_0 ck
      rw [o21, if_pos (by omega), if_neg (by omega), nx_eq, nx_eq, bind_eq]
    simp only [F_X11_heads, F_X11_heads_0, F_X11_outside, F_X11_outside_0, F_X11_heads_31, F_X11_none, F_X11_none_0, F_X11_isTray, F_X11_isTray_0, F_X11_rowLack, F_X11_rowLack_0, F_X11_answer, F_X11_answer_0]
    simp only [Int.toNat_natCast]
    ((try simp only [hup_s, hup_c, hup_k, ne_eq, Nat.reduceEqDiff, not_false_eq_true]); repeat' (first | (with_reducible refine ev_ck ?_ ?_; first | omega | trivial) | with_reducible refine ev_bind ?_ | (with_reducible refine ev_nx ?_; first | simp only [hup_s, hup_c, hup_k, ne_eq, Nat.reduceEqDiff, not_false_eq_true] | dsimp only | skip) | (with_reducible refine ev_some ?_; first | simp only [hup_s, hup_c, hup_k, ne_eq, Nat.reduceEqDiff, not_false_eq_true] | dsimp only | skip) | (with_reducible refine ev_it ?_ ?_; first | omega | trivial) | (with_reducible refine ev_ie ?_ ?_; first | omega | trivial) | with_reducible refine ev_if (fun _ => ?_) (fun _ => ?_) | rw [x2'] | rw [fi]))
    rw [w0]
    ((try simp only [hup_s, hup_c, hup_k, ne_eq, Nat.reduceEqDiff, not_false_eq_true]); repeat' (first | (with_reducible refine ev_ck ?_ ?_; first | omega | trivial) | with_reducible refine ev_bind ?_ | (with_reducible refine ev_nx ?_; first | simp only [hup_s, hup_c, hup_k, ne_eq, Nat.reduceEqDiff, not_false_eq_true] | dsimp only | skip) | (with_reducible refine ev_some ?_; first | simp only [hup_s, hup_c, hup_k, ne_eq, Nat.reduceEqDiff, not_false_eq_true] | dsimp only | skip) | (with_reducible refine ev_it ?_ ?_; first | omega | trivial) | (with_reducible refine ev_ie ?_ ?_; first | omega | trivial) | with_reducible refine ev_if (fun _ => ?_) (fun _ => ?_)))
    have V : ∀ c k, c ≠ 154 → c ≠ 158 → c ≠ 155 → c ≠ 156 → c ≠ 157 → c ≠ 74 → ¬ (c = 141 ∧ (k = 1 ∨ k = 39)) → ¬ (c = 0 ∧ k = 0) → hup (hup G2 141 40 (h 141 40)) 141 1 6 c k = h c k := fun c k z1 z2 z3 z4 z5 z6 z7 z8 => by
      rw [hup_n _ _ _ _ _ _ (by omega)]
      by_cases q : c = 141 ∧ k = 40
      · rw [q.1, q.2, hup_s]
      · rw [hup_n _ _ _ _ _ _ q]
        by_cases q2 : c = 159
        · subst q2
          rw [o4 cz k, hup_n _ _ _ _ _ _ z8, f3 _ _ (by omega)]
        · rw [o3 c k z1 z2 z3 z4 z5 q2 (by omega), hup_n _ _ _ _ _ _ z8, f3 c k (by omega)]
    refine ⟨by first | trivial | omega, by omega, RR_mono _ _ (RR_rest (h := h) ?_ ?_ r)⟩
    · intro c k q
      unfold Zall Z2 Z3 Zp Zs Z6 Z7 Z8 Z9 Z10 Z11 Z12 at q
      exact V c k (by omega) (by omega) (by omega) (by omega) (by omega) (by omega) (by omega) (by omega)
    · obtain ⟨⟨-, s2, s3⟩, -⟩ := r
      unfold R1
      rw [hup_s, V 0 1 (by omega) (by omega) (by omega) (by omega) (by omega) (by omega) (by omega) (by omega), V 0 2 (by omega) (by omega) (by omega) (by omega) (by omega) (by omega) (by omega) (by omega), V 141 2 (by omega) (by omega) (by omega) (by omega) (by omega) (by omega) (by omega) (by omega), V 141 3 (by omega) (by omega) (by omega) (by omega) (by omega) (by omega) (by omega) (by omega), hup_n _ _ _ _ 0 0 (by omega), hup_n _ _ _ _ 0 0 (by omega), o3 0 0 (by omega) (by omega) (by omega) (by omega) (by omega) (by omega) (by omega), hup_s]
      exact ⟨⟨by omega, by omega, rfl⟩, s2, s3⟩
  · -- two heads
    rw [if_neg cz] at ft
    have fi : F_X2_finds 34 (2 + t) (w : Int) (B : Int) h = some (1, hup (hup h3 73 1 2) 73 2 (y2 : Int)) := by
      unfold F_X2_finds F_X2_finds_0 ck
      rw [if_pos (by omega), if_pos (by omega), f1, F_X2_finds_19]
      unfold ck
      rw [if_pos (by omega), if_pos (by omega), nx_eq, sw, fo, bind_eq]
      dsimp only
      rw [if_pos (by omega), if_neg (by omega), ft, bind_eq]
      dsimp only
      rw [if_pos (by omega), if_neg (by omega)]
    have hF : ∀ c k, c ≠ 73 → c ≠ 74 → hup (hup h3 73 1 2) 73 2 (y2 : Int) c k = h c k := fun c k z1 z2 => by rw [hup_n _ _ _ _ _ _ (by omega), hup_n _ _ _ _ _ _ (by omega), k3 c k (by omega), f3 c k (by omega)]
    obtain ⟨G2, o1, o2, o3, o4⟩ := oth _ 0 hF
    have w0 : F_X12_heads (B : Int) (t : Int) (w : Int) (hup (hup (hup h3 73 1 2) 73 2 (y2 : Int)) 0 0 0) = some (2, hup (hup G2 141 41 2) 141 1 0) := by
      rw [o1]
      exact h372 (y := (y2 : Int)) o2.1.1 (by omega) (by omega)
    have a73 : hup (hup h3 73 1 2) 73 2 (y2 : Int) 73 1 = 2 := by rw [hup_n _ _ _ _ _ _ (by omega), hup_s]
    have b73 : hup (hup h3 73 1 2) 73 2 (y2 : Int) 73 3 = h3 73 3 := by rw [hup_n _ _ _ _ _ _ (by omega), hup_n _ _ _ _ _ _ (by omega)]
    have d73 : hup (hup h3 73 1 2) 73 2 (y2 : Int) 73 4 = h3 73 4 := by rw [hup_n _ _ _ _ _ _ (by omega), hup_n _ _ _ _ _ _ (by omega)]
    have c73 : hup (hup h3 73 1 2) 73 2 (y2 : Int) 73 2 = (y2 : Int) := hup_s _ _ _ _
    generalize hup (hup h3 73 1 2) 73 2 (y2 : Int) = hF' at *
    simp only [F_X11_heads, F_X11_heads_0, F_X11_outside, F_X11_outside_0, F_X11_heads_31, F_X11_none, F_X11_none_0, F_X11_isTray, F_X11_isTray_0, F_X11_rowLack, F_X11_rowLack_0, F_X11_answer, F_X11_answer_0]
    simp only [Int.toNat_natCast]
    ((try simp only [hup_s, hup_c, hup_k, ne_eq, Nat.reduceEqDiff, not_false_eq_true, a73]); repeat' (first | (with_reducible refine ev_ck ?_ ?_; first | omega | trivial) | with_reducible refine ev_bind ?_ | (with_reducible refine ev_nx ?_; first | simp only [hup_s, hup_c, hup_k, ne_eq, Nat.reduceEqDiff, not_false_eq_true, a73] | dsimp only | skip) | (with_reducible refine ev_some ?_; first | simp only [hup_s, hup_c, hup_k, ne_eq, Nat.reduceEqDiff, not_false_eq_true, a73] | dsimp only | skip) | (with_reducible refine ev_it ?_ ?_; first | omega | trivial) | (with_reducible refine ev_ie ?_ ?_; first | omega | trivial) | with_reducible refine ev_if (fun _ => ?_) (fun _ => ?_) | rw [x2'] | rw [fi]))
    rw [w0]
    ((try simp only [hup_s, hup_c, hup_k, ne_eq, Nat.reduceEqDiff, not_false_eq_true]); repeat' (first | (with_reducible refine ev_ck ?_ ?_; first | omega | trivial) | with_reducible refine ev_bind ?_ | (with_reducible refine ev_nx ?_; first | simp only [hup_s, hup_c, hup_k, ne_eq, Nat.reduceEqDiff, not_false_eq_true] | dsimp only | skip) | (with_reducible refine ev_some ?_; first | simp only [hup_s, hup_c, hup_k, ne_eq, Nat.reduceEqDiff, not_false_eq_true] | dsimp only | skip) | (with_reducible refine ev_it ?_ ?_; first | omega | trivial) | (with_reducible refine ev_ie ?_ ?_; first | omega | trivial) | with_reducible refine ev_if (fun _ => ?_) (fun _ => ?_)))
    obtain ⟨v1, v2, v3⟩ := o2.1.2 (by omega)
    obtain ⟨v4, v5, v6⟩ := o2.2 (by omega)
    refine ⟨by first | trivial | omega, by omega, RR_heads (hF := hF') (sz := 2) (y := (y2 : Int)) r hF a73 c73 (by omega) (by omega) (fun c k z1 z2 z3 z4 z5 z6 z7 => ?_) ?_ ?_ (hup_s _ _ _ _) (fun _ => ?_) (fun _ => ?_)⟩
    · rw [hup_n _ _ _ _ _ _ (by omega), hup_n _ _ _ _ _ _ (by omega), o3 c k z1 z2 z3 z4 z5 z6 (by omega)]
    · rw [hup_n _ _ _ _ _ _ (by omega), hup_n _ _ _ _ _ _ (by omega)]; exact o2.1.1
    · rw [hup_n _ _ _ _ _ _ (by omega), hup_s]
    · rw [b73, hup_n _ _ _ _ _ _ (by omega), hup_n _ _ _ _ _ _ (by omega), hup_n _ _ _ _ _ _ (by omega), hup_n _ _ _ _ _ _ (by omega)]
      exact ⟨v1, v2, v3⟩
    · rw [d73, hup_n _ _ _ _ _ _ (by omega), hup_n _ _ _ _ _ _ (by omega), hup_n _ _ _ _ _ _ (by omega), hup_n _ _ _ _ _ _ (by omega)]
      exact ⟨v4, v5, v6⟩
