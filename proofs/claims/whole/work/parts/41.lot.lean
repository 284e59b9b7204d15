/-! ===== lot ===== -/
def risN (w : Nat → Int) (N : Nat) : Prop := ∀ k, k < N → (0 ≤ w k ∧ w k ≤ 9999) ∧ (0 < k → w (k - 1) < w k)
theorem ris_l {c N : Nat} {h : MH} (hN : N ≤ 60) (hv : ∀ k, k < N → in64 (h c k)) : ∀ (d f j : Nat), j + d = N → d < f → (∀ k, k < j → (0 ≤ h c k ∧ h c k ≤ 9999) ∧ (0 < k → h c (k - 1) < h c k)) →
    ∃ b : Int, (b = 0 ∨ b = 1) ∧ F_X11_rises_2 f c (N : Int) 9999 (j : Int) h = some (b, h) ∧ (b = 1 ↔ risN (h c) N) := by
  intro d
  induction d with
  | zero =>
    intro f j e hf hp
    obtain ⟨f, rfl⟩ : ∃ g, f = g + 1 := ⟨f - 1, by omega⟩
    have : j = N := by omega
    subst this
    refine ⟨1, Or.inr rfl, ?_, ⟨fun _ => hp, fun _ => rfl⟩⟩
    unfold F_X11_rises_2 ck
    rw [if_pos (by omega), if_pos (by omega), if_pos (by omega)]
  | succ d ih =>
    intro f j e hf hp
    obtain ⟨f, rfl⟩ : ∃ g, f = g + 1 := ⟨f - 1, by omega⟩
    have hj := hv j (by omega)
    by_cases j0 : j = 0
    · subst j0
      by_cases q : 0 ≤ h c 0 ∧ h c 0 ≤ 9999
      · have E : F_X11_rises_2 (f + 1) c (N : Int) 9999 ((0 : Nat) : Int) h = F_X11_rises_2 f c (N : Int) 9999 ((0 + 1 : Nat) : Int) h := by
          rw [F_X11_rises_2]
          unfold F_X11_rises_25 ck
          rw [if_pos (by omega), if_pos (by omega), if_neg (by omega), if_pos (by omega), if_neg (by omega), if_pos (by omega), Int.toNat_natCast, out_eq hj (by omega) (by omega), if_pos q]
          rfl
        rw [E]
        exact ih f (0 + 1) (by omega) (by omega) (fun k hk => by
          have : k = 0 := by omega
          subst this; exact ⟨q, fun w => by omega⟩)
      · refine ⟨0, Or.inl rfl, ?_, ⟨fun w => by omega, fun w => absurd (w 0 (by omega)).1 q⟩⟩
        rw [F_X11_rises_2]
        unfold F_X11_rises_25 ck
        rw [if_pos (by omega), if_pos (by omega), if_neg (by omega), if_pos (by omega), if_neg (by omega), if_pos (by omega), Int.toNat_natCast, out_eq hj (by omega) (by omega), if_neg q]
        rfl
    · have hq := hp (j - 1) (by omega)
      have hx : ((j : Int) - 1).toNat = j - 1 := by omega
      by_cases q : h c (j - 1) + 1 ≤ h c j ∧ h c j ≤ 9999
      · have E : F_X11_rises_2 (f + 1) c (N : Int) 9999 (j : Int) h = F_X11_rises_2 f c (N : Int) 9999 ((j + 1 : Nat) : Int) h := by
          rw [F_X11_rises_2]
          unfold F_X11_rises_25 ck
          rw [if_pos (by omega), if_pos (by omega), if_neg (by omega), if_pos (by omega), if_pos (by omega), if_pos (by omega), if_pos (by omega), Int.toNat_natCast, hx, out_eq hj (by omega) (by omega), if_pos q]
          rfl
        rw [E]
        exact ih f (j + 1) (by omega) (by omega) (fun k hk => by
          by_cases ek : k = j
          · subst ek; exact ⟨by omega, fun w => by omega⟩
          · exact hp k (by omega))
      · refine ⟨0, Or.inl rfl, ?_, ⟨fun w => by omega, fun w => ?_⟩⟩
        · rw [F_X11_rises_2]
          unfold F_X11_rises_25 ck
          rw [if_pos (by omega), if_pos (by omega), if_neg (by omega), if_pos (by omega), if_pos (by omega), if_pos (by omega), if_pos (by omega), Int.toNat_natCast, hx, out_eq hj (by omega) (by omega), if_neg q]
          rfl
        · have w2 := w j (by omega)
          have w3 := w2.2 (by omega)
          omega
/-- the last place up to N whose value is at most x, or -1 -/
def lastLe (w : Nat → Int) (x : Int) : Nat → Int
  | 0 => -1
  | n + 1 => if w n ≤ x then (n : Int) else lastLe w x n
theorem lastLe_in {w : Nat → Int} {x : Int} : ∀ n, -1 ≤ lastLe w x n ∧ lastLe w x n < n := by
  intro n
  induction n with
  | zero => exact ⟨by simp [lastLe], by simp [lastLe]⟩
  | succ n ih =>
    unfold lastLe
    by_cases q : w n ≤ x
    · rw [if_pos q]; omega
    · rw [if_neg q]; omega
theorem lotA {c : Nat} {x : Int} {h : MH} (hx : in32 x) : ∀ (N f : Nat), N ≤ 60 → (∀ k, k < N → in64 (h c k)) → N < f →
    F_X11_lot_88 f x c ((N : Int) - 1) h = F_X11_lot_110 (lastLe (h c) x N) h := by
  intro N
  induction N with
  | zero =>
    intro f hN hv hf
    obtain ⟨f, rfl⟩ : ∃ g, f = g + 1 := ⟨f - 1, by omega⟩
    rw [F_X11_lot_88]
    unfold ck
    rw [if_pos (by omega), if_pos (by omega)]
    rfl
  | succ N ih =>
    intro f hN hv hf
    obtain ⟨f, rfl⟩ : ∃ g, f = g + 1 := ⟨f - 1, by omega⟩
    have hx' : (((N + 1 : Nat) : Int) - 1).toNat = N := by omega
    have hn := hv N (by omega)
    rw [F_X11_lot_88]
    unfold ck
    rw [if_pos (by omega), if_neg (by omega), if_pos (by omega), if_pos hx, hx', if_pos hn, lastLe]
    by_cases q : h c N ≤ x
    · rw [if_pos q, if_pos q, show ((N + 1 : Nat) : Int) - 1 = N by omega]
    · rw [if_neg q, if_neg q, show ((N + 1 : Nat) : Int) - 1 + (-1) = (N : Int) - 1 by omega]
      exact ih f (by omega) (fun k hk => hv k (by omega)) (by omega)
theorem lotB {t N : Nat} {x : Int} {h : MH} (hx : in32 x) (ht : t < 4) (hN : N ≤ 60) (hv : ∀ k, k < N → in64 (h 145 (60 * t + k))) : ∀ (d f j : Nat), j + d = N → d < f →
    F_X12_lot_138 f (t : Int) (N : Int) x (lastLe (fun k => h 145 (60 * t + k)) x j) (j : Int) h = if lastLe (fun k => h 145 (60 * t + k)) x N ≠ -1 then some (lastLe (fun k => h 145 (60 * t + k)) x N, hup h 141 1 0) else some (-1, hup h 141 1 6) := by
  intro d
  induction d with
  | zero =>
    intro f j e hf
    obtain ⟨f, rfl⟩ : ∃ g, f = g + 1 := ⟨f - 1, by omega⟩
    have : j = N := by omega
    subst this
    have q := lastLe_in (w := fun k => h 145 (60 * t + k)) (x := x) j
    rw [F_X12_lot_138]
    unfold ck
    rw [if_pos (by omega), if_pos (by omega), if_pos (by omega), if_pos (by omega)]
    rfl
  | succ d ih =>
    intro f j e hf
    obtain ⟨f, rfl⟩ : ∃ g, f = g + 1 := ⟨f - 1, by omega⟩
    have hn := hv j (by omega)
    have hy : (60 * (t : Int) + (j : Int)).toNat = 60 * t + j := by omega
    have q := lastLe_in (w := fun k => h 145 (60 * t + k)) (x := x) j
    have E : F_X12_lot_138 (f + 1) (t : Int) (N : Int) x (lastLe (fun k => h 145 (60 * t + k)) x j) (j : Int) h = F_X12_lot_138 f (t : Int) (N : Int) x (lastLe (fun k => h 145 (60 * t + k)) x (j + 1)) ((j + 1 : Nat) : Int) h := by
      rw [F_X12_lot_138]
      unfold F_X12_lot_169 ck
      rw [if_pos (by omega), if_pos (by omega), if_neg (by omega), if_pos (by omega), if_pos hx, hy, if_pos hn]
      rw [show lastLe (fun k => h 145 (60 * t + k)) x (j + 1) = if h 145 (60 * t + j) ≤ x then (j : Int) else lastLe (fun k => h 145 (60 * t + k)) x j from rfl]
      by_cases q2 : x < h 145 (60 * t + j)
      · rw [if_pos q2, if_neg (by omega)]; rfl
      · rw [if_neg q2, if_pos (by omega)]; rfl
    rw [E]
    exact ih f (j + 1) (by omega) (by omega)
theorem lotC {t N : Nat} {x : Int} {h : MH} (ht : t < 4) (hN : N ≤ 60) (hv : ∀ k, k < N → in64 (h 145 (60 * t + k))) : ∀ (d f j : Nat) (fl : Int), (fl = 0 ∨ fl = 1) → 1 ≤ j → j + d = N → d < f →
    ∃ b : Int, (b = 0 ∨ b = 1) ∧ F_X12_lot_47 f (t : Int) (N : Int) x 0 fl (j : Int) h = F_X12_lot_106 (t : Int) (N : Int) x 0 b h ∧ (b = 1 ↔ fl = 1 ∧ ∀ k, j ≤ k → k < N → h 145 (60 * t + (k - 1)) < h 145 (60 * t + k)) := by
  intro d
  induction d with
  | zero =>
    intro f j fl hfl hj e hf
    obtain ⟨f, rfl⟩ : ∃ g, f = g + 1 := ⟨f - 1, by omega⟩
    refine ⟨fl, hfl, ?_, ⟨fun w => ⟨w, fun k h1 h2 => by omega⟩, fun w => w.1⟩⟩
    rw [F_X12_lot_47]
    unfold ck
    rw [if_pos (by omega), if_pos (by omega), if_pos (by omega)]
  | succ d ih =>
    intro f j fl hfl hj e hf
    obtain ⟨f, rfl⟩ : ∃ g, f = g + 1 := ⟨f - 1, by omega⟩
    have hn := hv j (by omega)
    have hm := hv (j - 1) (by omega)
    have hy : (60 * (t : Int) + (j : Int)).toNat = 60 * t + j := by omega
    have hz : (60 * (t : Int) + (j : Int) - 1).toNat = 60 * t + (j - 1) := by omega
    rcases hfl with q | q <;> subst q
    · have E : F_X12_lot_47 (f + 1) (t : Int) (N : Int) x 0 0 (j : Int) h = F_X12_lot_47 f (t : Int) (N : Int) x 0 0 ((j + 1 : Nat) : Int) h := by
        rw [F_X12_lot_47]
        unfold F_X12_lot_97 F_X12_lot_98 ck
        rw [if_pos (by omega), if_pos (by omega), if_neg (by omega), if_pos (by omega), if_neg (by omega), if_pos (by omega), if_pos rfl]
        rfl
      rw [E]
      obtain ⟨b, b1, b2, b3⟩ := ih f (j + 1) 0 (Or.inl rfl) (by omega) (by omega) (by omega)
      exact ⟨b, b1, b2, b3.trans ⟨fun w => by omega, fun w => by omega⟩⟩
    · by_cases q : h 145 (60 * t + j) ≤ h 145 (60 * t + (j - 1))
      · have E : F_X12_lot_47 (f + 1) (t : Int) (N : Int) x 0 1 (j : Int) h = F_X12_lot_47 f (t : Int) (N : Int) x 0 0 ((j + 1 : Nat) : Int) h := by
          rw [F_X12_lot_47]
          unfold F_X12_lot_97 F_X12_lot_98 ck
          rw [if_pos (by omega), if_pos (by omega), if_neg (by omega), if_pos (by omega), if_neg (by omega), if_pos (by omega), if_neg (by omega), if_pos (by omega), if_pos (by omega), hy, hz, if_pos hn, if_pos hm, if_pos q]
          rfl
        rw [E]
        obtain ⟨b, b1, b2, b3⟩ := ih f (j + 1) 0 (Or.inl rfl) (by omega) (by omega) (by omega)
        exact ⟨b, b1, b2, b3.trans ⟨fun w => by omega, fun w => by have := w.2 j (by omega) (by omega); omega⟩⟩
      · have E : F_X12_lot_47 (f + 1) (t : Int) (N : Int) x 0 1 (j : Int) h = F_X12_lot_47 f (t : Int) (N : Int) x 0 1 ((j + 1 : Nat) : Int) h := by
          rw [F_X12_lot_47]
          unfold F_X12_lot_97 F_X12_lot_98 ck
          rw [if_pos (by omega), if_pos (by omega), if_neg (by omega), if_pos (by omega), if_neg (by omega), if_pos (by omega), if_neg (by omega), if_pos (by omega), if_pos (by omega), hy, hz, if_pos hn, if_pos hm, if_neg q]
          rfl
        rw [E]
        obtain ⟨b, b1, b2, b3⟩ := ih f (j + 1) 1 (Or.inr rfl) (by omega) (by omega) (by omega)
        refine ⟨b, b1, b2, b3.trans ⟨fun w => ⟨rfl, fun k h1 h2 => ?_⟩, fun w => ⟨rfl, fun k h1 h2 => w.2 k (by omega) h2⟩⟩⟩
        by_cases ek : k = j
        · subst ek; omega
        · exact w.2 k (by omega) h2
theorem o_lot : Ob_lot RR := by
  intro n h a1 a2 a3 hn r i1 i2 i3
  refine ob_ev ?_
  have r2 := r.2.1
  have e1 : ∀ v : Int, ∀ k, hup h 0 0 v 144 k = h 144 k := fun v k => by rw [hup_c _ _ _ _ _ _ (by decide)]
  have e2 : ∀ v : Int, ∀ k, hup h 0 0 v 145 k = h 145 k := fun v k => by rw [hup_c _ _ _ _ _ _ (by decide)]
  /- a code above 0 ends the loop of the other at once -/
  have st : ∀ (b x1 x2 x3 : Int) (g : MH), in32 x2 → 0 < b → in32 b → F_X12_lot_47 20000 x1 x2 x3 b 1 1 g = some (-1, hup g 141 1 b) := by
    intro b x1 x2 x3 g hx hb hb'
    rw [F_X12_lot_47]
    unfold F_X12_lot_106 F_X12_lot_116 F_X12_lot_128 ck
    rw [if_pos (by omega), if_pos hx]
    by_cases c : x2 ≤ 1
    · rw [if_pos c, if_pos hb', if_pos hb, if_pos hb', if_neg (by omega)]; rfl
    · rw [if_neg c, if_pos hb', if_pos (by omega), if_pos hb', if_pos hb, if_pos hb', if_neg (by omega)]; rfl
  by_cases c0 : (1 ≤ a2 ∧ a2 ≤ 30) ∧ (0 ≤ a3 ∧ a3 ≤ 9999)
  rotate_left
  · have s1 := st 1 a1 a2 a3 (hup h 0 0 1) i2 (by omega) (by omega)
    simp only [F_X11_lot, F_X11_lot_0, F_X11_isTray, F_X11_isTray_0, F_X11_lot_31, F_X11_none, F_X11_none_0, F_X11_outside, F_X11_outside_0, F_X11_rowLack, F_X11_rowLack_0]
    ((try simp only [hup_s, hup_c, hup_k, ne_eq, Nat.reduceEqDiff, not_false_eq_true]); repeat' (first | (with_reducible refine ev_ck ?_ ?_; first | omega | trivial) | with_reducible refine ev_bind ?_ | (with_reducible refine ev_nx ?_; first | simp only [hup_s, hup_c, hup_k, ne_eq, Nat.reduceEqDiff, not_false_eq_true] | dsimp only | skip) | (with_reducible refine ev_some ?_; first | simp only [hup_s, hup_c, hup_k, ne_eq, Nat.reduceEqDiff, not_false_eq_true] | dsimp only | skip) | (with_reducible refine ev_it ?_ ?_; first | omega | trivial) | (with_reducible refine ev_ie ?_ ?_; first | omega | trivial) | with_reducible refine ev_if (fun _ => ?_) (fun _ => ?_)))
    all_goals try (exfalso; omega)
    all_goals simp only [F_X12_lot, F_X12_lot_0, F_X12_isFrom, F_X12_isFrom_0, F_X12_lot_29, F_X12_lot_30, F_X12_wrongRow, F_X12_wrongRow_0, F_X12_isTray, F_X12_isTray_0]
    all_goals (((try simp only [hup_s, hup_c, hup_k, ne_eq, Nat.reduceEqDiff, not_false_eq_true]); repeat' (first | (with_reducible refine ev_ck ?_ ?_; first | omega | trivial) | with_reducible refine ev_bind ?_ | (with_reducible refine ev_nx ?_; first | simp only [hup_s, hup_c, hup_k, ne_eq, Nat.reduceEqDiff, not_false_eq_true] | dsimp only | skip) | (with_reducible refine ev_some ?_; first | simp only [hup_s, hup_c, hup_k, ne_eq, Nat.reduceEqDiff, not_false_eq_true] | dsimp only | skip) | (with_reducible refine ev_it ?_ ?_; first | omega | trivial) | (with_reducible refine ev_ie ?_ ?_; first | omega | trivial) | with_reducible refine ev_if (fun _ => ?_) (fun _ => ?_) | rw [s1])))
    all_goals try (exfalso; omega)
    all_goals (first | (exfalso; omega) | (refine ⟨?_, ?_, RR_st (by omega) r⟩ <;> first | trivial | omega))
  obtain ⟨c0, c9⟩ := c0
  by_cases c1 : 0 ≤ a1 ∧ a1 < 4
  · obtain ⟨t, e⟩ : ∃ t : Nat, a1 = t := ⟨a1.toNat, by omega⟩
    obtain ⟨N, e'⟩ : ∃ t : Nat, a2 = t := ⟨a2.toNat, by omega⟩
    subst e e'
    obtain ⟨q1, q2, q3⟩ := r2 t (by omega)
    have wr : ∀ v : Int, _ := fun v => wrR (x1 := (t : Int)) (N := (N : Int)) (lo := 0) (hi := 9999) (h := hup h 0 0 v) i1 (by omega) (by omega) (by omega) (by omega) (RR_row r v).1 (RR_row r v).2
    simp only [Int.toNat_natCast, e1, e2] at wr
    by_cases c2 : h 7 t = -1
    · obtain ⟨b, b0, b1, b2, b3, b4, b5⟩ := wr 2
      have : b = 2 := b2.mpr ⟨c1, by omega⟩
      subst this
      have s1 := st 2 t N a3 (hup h 0 0 2) i2 (by omega) (by omega)
      simp only [F_X11_lot, F_X11_lot_0, F_X11_isTray, F_X11_isTray_0, F_X11_lot_31, F_X11_none, F_X11_none_0, F_X11_outside, F_X11_outside_0, F_X11_rowLack, F_X11_rowLack_0]
      simp only [Int.toNat_natCast]
      ((try simp only [hup_s, hup_c, hup_k, ne_eq, Nat.reduceEqDiff, not_false_eq_true]); repeat' (first | (with_reducible refine ev_ck ?_ ?_; first | omega | trivial) | with_reducible refine ev_bind ?_ | (with_reducible refine ev_nx ?_; first | simp only [hup_s, hup_c, hup_k, ne_eq, Nat.reduceEqDiff, not_false_eq_true] | dsimp only | skip) | (with_reducible refine ev_some ?_; first | simp only [hup_s, hup_c, hup_k, ne_eq, Nat.reduceEqDiff, not_false_eq_true] | dsimp only | skip) | (with_reducible refine ev_it ?_ ?_; first | omega | trivial) | (with_reducible refine ev_ie ?_ ?_; first | omega | trivial) | with_reducible refine ev_if (fun _ => ?_) (fun _ => ?_)))
      simp only [F_X12_lot, F_X12_lot_0, F_X12_isFrom, F_X12_isFrom_0, F_X12_lot_29, F_X12_lot_30]
      ((try simp only [hup_s, hup_c, hup_k, ne_eq, Nat.reduceEqDiff, not_false_eq_true]); repeat' (first | (with_reducible refine ev_ck ?_ ?_; first | omega | trivial) | with_reducible refine ev_bind ?_ | (with_reducible refine ev_nx ?_; first | simp only [hup_s, hup_c, hup_k, ne_eq, Nat.reduceEqDiff, not_false_eq_true] | dsimp only | skip) | (with_reducible refine ev_some ?_; first | simp only [hup_s, hup_c, hup_k, ne_eq, Nat.reduceEqDiff, not_false_eq_true] | dsimp only | skip) | (with_reducible refine ev_it ?_ ?_; first | omega | trivial) | (with_reducible refine ev_ie ?_ ?_; first | omega | trivial) | with_reducible refine ev_if (fun _ => ?_) (fun _ => ?_) | rw [b0] | rw [s1]))
      (first | (exfalso; omega) | (refine ⟨?_, ?_, RR_st (by omega) r⟩ <;> first | trivial | omega))
    by_cases c3 : (N : Int) ≤ h 7 t
    rotate_left
    · obtain ⟨b, b0, b1, b2, b3, b4, b5⟩ := wr 3
      have : b = 3 := b3.mpr ⟨c1, by omega, by omega⟩
      subst this
      have s1 := st 3 t N a3 (hup h 0 0 3) i2 (by omega) (by omega)
      simp only [F_X11_lot, F_X11_lot_0, F_X11_isTray, F_X11_isTray_0, F_X11_lot_31, F_X11_none, F_X11_none_0, F_X11_outside, F_X11_outside_0, F_X11_rowLack, F_X11_rowLack_0]
      simp only [Int.toNat_natCast]
      ((try simp only [hup_s, hup_c, hup_k, ne_eq, Nat.reduceEqDiff, not_false_eq_true]); repeat' (first | (with_reducible refine ev_ck ?_ ?_; first | omega | trivial) | with_reducible refine ev_bind ?_ | (with_reducible refine ev_nx ?_; first | simp only [hup_s, hup_c, hup_k, ne_eq, Nat.reduceEqDiff, not_false_eq_true] | dsimp only | skip) | (with_reducible refine ev_some ?_; first | simp only [hup_s, hup_c, hup_k, ne_eq, Nat.reduceEqDiff, not_false_eq_true] | dsimp only | skip) | (with_reducible refine ev_it ?_ ?_; first | omega | trivial) | (with_reducible refine ev_ie ?_ ?_; first | omega | trivial) | with_reducible refine ev_if (fun _ => ?_) (fun _ => ?_)))
      simp only [F_X12_lot, F_X12_lot_0, F_X12_isFrom, F_X12_isFrom_0, F_X12_lot_29, F_X12_lot_30]
      ((try simp only [hup_s, hup_c, hup_k, ne_eq, Nat.reduceEqDiff, not_false_eq_true]); repeat' (first | (with_reducible refine ev_ck ?_ ?_; first | omega | trivial) | with_reducible refine ev_bind ?_ | (with_reducible refine ev_nx ?_; first | simp only [hup_s, hup_c, hup_k, ne_eq, Nat.reduceEqDiff, not_false_eq_true] | dsimp only | skip) | (with_reducible refine ev_some ?_; first | simp only [hup_s, hup_c, hup_k, ne_eq, Nat.reduceEqDiff, not_false_eq_true] | dsimp only | skip) | (with_reducible refine ev_it ?_ ?_; first | omega | trivial) | (with_reducible refine ev_ie ?_ ?_; first | omega | trivial) | with_reducible refine ev_if (fun _ => ?_) (fun _ => ?_) | rw [b0] | rw [s1]))
      (first | (exfalso; omega) | (refine ⟨?_, ?_, RR_st (by omega) r⟩ <;> first | trivial | omega))
    have hv : ∀ k, k < N → in64 (h (2 + t) k) := fun k hk => (q3 k (by omega)).1
    have hw : ∀ v : Int, ∀ k, k < N → hup h 0 0 v 145 (60 * t + k) = h (2 + t) k := fun v k hk => by rw [e2]; exact (q3 k (by omega)).2
    have hw' : ∀ v : Int, ∀ k, k < N → in64 (hup h 0 0 v 145 (60 * t + k)) := fun v k hk => by rw [hw v k hk]; exact hv k hk
    obtain ⟨x, x1, x2, x3⟩ := ris_l (c := 2 + t) (N := N) (h := h) (by omega) hv N 20000 0 (by omega) (by omega) (fun k hk => by omega)
    rw [show ((0 : Nat) : Int) = 0 from rfl] at x2
    by_cases c4 : x = 1
    · subst c4
      have x3' := x3.mp rfl
      have LA := lotA (c := 2 + t) (x := a3) (h := h) i3 N 20000 (by omega) hv (by omega)
      have Li := lastLe_in (w := h (2 + t)) (x := a3) N
      have Lw : ∀ v : Int, ∀ m, m ≤ N → lastLe (fun k => hup h 0 0 v 145 (60 * t + k)) a3 m = lastLe (h (2 + t)) a3 m := by
        intro v m
        induction m with
        | zero => intro _; rfl
        | succ m ih => intro hm; rw [lastLe, lastLe, ih (by omega), hw v m (by omega)]
      have key : ∀ v : Int, F_X12_wrongRow 1 (t : Int) (N : Int) 0 9999 (hup h 0 0 v) = some (0, hup h 0 0 v) ∧ F_X12_lot_47 20000 (t : Int) (N : Int) a3 0 1 1 (hup h 0 0 v) = if lastLe (h (2 + t)) a3 N ≠ -1 then some (lastLe (h (2 + t)) a3 N, hup (hup h 0 0 v) 141 1 0) else some (-1, hup (hup h 0 0 v) 141 1 6) := by
        intro v
        obtain ⟨b, b0, b1, b2, b3, b4, b5⟩ := wr v
        have : b = 0 := b4.mpr ⟨c1, by omega, by omega, fun k hk => by rw [(q3 k (by omega)).2]; exact (x3' k (by omega)).1⟩
        subst this
        refine ⟨b0, ?_⟩
        obtain ⟨b, y1, y2, y3⟩ := lotC (t := t) (N := N) (x := a3) (h := hup h 0 0 v) (by omega) (by omega) (hw' v) (N - 1) 20000 1 1 (Or.inr rfl) (by omega) (by omega) (by omega)
        have : b = 1 := y3.mpr ⟨rfl, fun k h1 h2 => by rw [hw v k (by omega), hw v (k - 1) (by omega)]; exact (x3' k h2).2 (by omega)⟩
        subst this
        have LB := lotB (t := t) (N := N) (x := a3) (h := hup h 0 0 v) i3 (by omega) (by omega) (hw' v) N 20000 0 (by omega) (by omega)
        rw [Lw v N (by omega)] at LB
        rw [show ((1 : Nat) : Int) = 1 from rfl] at y2
        rw [show lastLe (fun k => hup h 0 0 v 145 (60 * t + k)) a3 0 = -1 from rfl, show ((0 : Nat) : Int) = 0 from rfl] at LB
        rw [y2]
        unfold F_X12_lot_106 ck
        rw [if_pos (by omega), if_neg (by omega), if_pos (by omega), if_pos (by omega)]
        exact LB
      by_cases c5 : lastLe (h (2 + t)) a3 N = -1
      · obtain ⟨k1, k2⟩ := key 6
        rw [if_neg (fun w => w c5)] at k2
        simp only [F_X11_lot, F_X11_lot_0, F_X11_isTray, F_X11_isTray_0, F_X11_lot_31, F_X11_none, F_X11_none_0, F_X11_outside, F_X11_outside_0, F_X11_rowLack, F_X11_rowLack_0, F_X11_rises, F_X11_rises_0]
        simp only [Int.toNat_natCast]
        ((try simp only [hup_s, hup_c, hup_k, ne_eq, Nat.reduceEqDiff, not_false_eq_true]); repeat' (first | (with_reducible refine ev_ck ?_ ?_; first | omega | trivial) | with_reducible refine ev_bind ?_ | (with_reducible refine ev_nx ?_; first | simp only [hup_s, hup_c, hup_k, ne_eq, Nat.reduceEqDiff, not_false_eq_true] | dsimp only | skip) | (with_reducible refine ev_some ?_; first | simp only [hup_s, hup_c, hup_k, ne_eq, Nat.reduceEqDiff, not_false_eq_true] | dsimp only | skip) | (with_reducible refine ev_it ?_ ?_; first | omega | trivial) | (with_reducible refine ev_ie ?_ ?_; first | omega | trivial) | with_reducible refine ev_if (fun _ => ?_) (fun _ => ?_) | rw [x2] | rw [LA] | simp only [F_X11_lot_110, F_X11_none, F_X11_none_0, F_X11_answer, F_X11_answer_0]))
        simp only [F_X12_lot, F_X12_lot_0, F_X12_isFrom, F_X12_isFrom_0, F_X12_lot_29, F_X12_lot_30]
        ((try simp only [hup_s, hup_c, hup_k, ne_eq, Nat.reduceEqDiff, not_false_eq_true]); repeat' (first | (with_reducible refine ev_ck ?_ ?_; first | omega | trivial) | with_reducible refine ev_bind ?_ | (with_reducible refine ev_nx ?_; first | simp only [hup_s, hup_c, hup_k, ne_eq, Nat.reduceEqDiff, not_false_eq_true] | dsimp only | skip) | (with_reducible refine ev_some ?_; first | simp only [hup_s, hup_c, hup_k, ne_eq, Nat.reduceEqDiff, not_false_eq_true] | dsimp only | skip) | (with_reducible refine ev_it ?_ ?_; first | omega | trivial) | (with_reducible refine ev_ie ?_ ?_; first | omega | trivial) | with_reducible refine ev_if (fun _ => ?_) (fun _ => ?_) | rw [k1] | rw [k2]))
        (first | (exfalso; omega) | (refine ⟨?_, ?_, RR_st (by omega) r⟩ <;> first | trivial | omega))
      · obtain ⟨k1, k2⟩ := key 0
        rw [if_pos c5] at k2
        simp only [F_X11_lot, F_X11_lot_0, F_X11_isTray, F_X11_isTray_0, F_X11_lot_31, F_X11_none, F_X11_none_0, F_X11_outside, F_X11_outside_0, F_X11_rowLack, F_X11_rowLack_0, F_X11_rises, F_X11_rises_0]
        simp only [Int.toNat_natCast]
        ((try simp only [hup_s, hup_c, hup_k, ne_eq, Nat.reduceEqDiff, not_false_eq_true]); repeat' (first | (with_reducible refine ev_ck ?_ ?_; first | omega | trivial) | with_reducible refine ev_bind ?_ | (with_reducible refine ev_nx ?_; first | simp only [hup_s, hup_c, hup_k, ne_eq, Nat.reduceEqDiff, not_false_eq_true] | dsimp only | skip) | (with_reducible refine ev_some ?_; first | simp only [hup_s, hup_c, hup_k, ne_eq, Nat.reduceEqDiff, not_false_eq_true] | dsimp only | skip) | (with_reducible refine ev_it ?_ ?_; first | omega | trivial) | (with_reducible refine ev_ie ?_ ?_; first | omega | trivial) | with_reducible refine ev_if (fun _ => ?_) (fun _ => ?_) | rw [x2] | rw [LA] | simp only [F_X11_lot_110, F_X11_none, F_X11_none_0, F_X11_answer, F_X11_answer_0]))
        simp only [F_X12_lot, F_X12_lot_0, F_X12_isFrom, F_X12_isFrom_0, F_X12_lot_29, F_X12_lot_30]
        ((try simp only [hup_s, hup_c, hup_k, ne_eq, Nat.reduceEqDiff, not_false_eq_true]); repeat' (first | (with_reducible refine ev_ck ?_ ?_; first | omega | trivial) | with_reducible refine ev_bind ?_ | (with_reducible refine ev_nx ?_; first | simp only [hup_s, hup_c, hup_k, ne_eq, Nat.reduceEqDiff, not_false_eq_true] | dsimp only | skip) | (with_reducible refine ev_some ?_; first | simp only [hup_s, hup_c, hup_k, ne_eq, Nat.reduceEqDiff, not_false_eq_true] | dsimp only | skip) | (with_reducible refine ev_it ?_ ?_; first | omega | trivial) | (with_reducible refine ev_ie ?_ ?_; first | omega | trivial) | with_reducible refine ev_if (fun _ => ?_) (fun _ => ?_) | rw [k1] | rw [k2]))
        (first | (exfalso; omega) | (refine ⟨?_, ?_, RR_st (by omega) r⟩ <;> first | trivial | omega))
    · have c5 : x = 0 := by omega
      subst c5
      obtain ⟨b, b0, b1, b2, b3, b4, b5⟩ := wr 5
      have fin5 : F_X12_lot_47 20000 (t : Int) (N : Int) a3 b 1 1 (hup h 0 0 5) = some (-1, hup (hup h 0 0 5) 141 1 5) := by
        by_cases z : b = 0
        · subst z
          obtain ⟨b', y1, y2, y3⟩ := lotC (t := t) (N := N) (x := a3) (h := hup h 0 0 5) (by omega) (by omega) (hw' 5) (N - 1) 20000 1 1 (Or.inr rfl) (by omega) (by omega) (by omega)
          have : b' = 0 := by
            have z : ¬ b' = 1 := fun w => c4 (x3.mpr (fun k hk => ⟨by have u := (b4.mp rfl).2.2.2 k (by omega); rw [(q3 k (by omega)).2] at u; exact u, fun h0 => by have u := (y3.mp w).2 k (by omega) hk; rw [hw 5 k (by omega), hw 5 (k - 1) (by omega)] at u; exact u⟩))
            omega
          subst this
          rw [show ((1 : Nat) : Int) = 1 from rfl] at y2
          rw [y2]
          unfold F_X12_lot_106 F_X12_lot_116 F_X12_lot_128 ck
          rw [if_pos (by omega), if_neg (by omega), if_pos (by omega), if_neg (by omega), if_pos (by omega), if_pos (by omega)]
          rfl
        · have : b = 5 := by omega
          subst this
          exact st 5 t N a3 (hup h 0 0 5) i2 (by omega) (by omega)
      simp only [F_X11_lot, F_X11_lot_0, F_X11_isTray, F_X11_isTray_0, F_X11_lot_31, F_X11_none, F_X11_none_0, F_X11_outside, F_X11_outside_0, F_X11_rowLack, F_X11_rowLack_0, F_X11_rises, F_X11_rises_0]
      simp only [Int.toNat_natCast]
      ((try simp only [hup_s, hup_c, hup_k, ne_eq, Nat.reduceEqDiff, not_false_eq_true]); repeat' (first | (with_reducible refine ev_ck ?_ ?_; first | omega | trivial) | with_reducible refine ev_bind ?_ | (with_reducible refine ev_nx ?_; first | simp only [hup_s, hup_c, hup_k, ne_eq, Nat.reduceEqDiff, not_false_eq_true] | dsimp only | skip) | (with_reducible refine ev_some ?_; first | simp only [hup_s, hup_c, hup_k, ne_eq, Nat.reduceEqDiff, not_false_eq_true] | dsimp only | skip) | (with_reducible refine ev_it ?_ ?_; first | omega | trivial) | (with_reducible refine ev_ie ?_ ?_; first | omega | trivial) | with_reducible refine ev_if (fun _ => ?_) (fun _ => ?_) | rw [x2]))
      simp only [F_X12_lot, F_X12_lot_0, F_X12_isFrom, F_X12_isFrom_0, F_X12_lot_29, F_X12_lot_30]
      ((try simp only [hup_s, hup_c, hup_k, ne_eq, Nat.reduceEqDiff, not_false_eq_true]); repeat' (first | (with_reducible refine ev_ck ?_ ?_; first | omega | trivial) | with_reducible refine ev_bind ?_ | (with_reducible refine ev_nx ?_; first | simp only [hup_s, hup_c, hup_k, ne_eq, Nat.reduceEqDiff, not_false_eq_true] | dsimp only | skip) | (with_reducible refine ev_some ?_; first | simp only [hup_s, hup_c, hup_k, ne_eq, Nat.reduceEqDiff, not_false_eq_true] | dsimp only | skip) | (with_reducible refine ev_it ?_ ?_; first | omega | trivial) | (with_reducible refine ev_ie ?_ ?_; first | omega | trivial) | with_reducible refine ev_if (fun _ => ?_) (fun _ => ?_) | rw [b0] | rw [fin5]))
      (first | (exfalso; omega) | (refine ⟨?_, ?_, RR_st (by omega) r⟩ <;> first | trivial | omega))
  · have wr : ∀ v : Int, _ := fun v => wrR (x1 := a1) (N := a2) (lo := 0) (hi := 9999) (h := hup h 0 0 v) i1 (by omega) (by omega) (by omega) (by omega) (RR_row r v).1 (RR_row r v).2
    obtain ⟨b, b0, b1, b2, b3, b4, b5⟩ := wr 1
    have : b = 1 := b1.mpr c1
    subst this
    have s1 := st 1 a1 a2 a3 (hup h 0 0 1) i2 (by omega) (by omega)
    simp only [F_X11_lot, F_X11_lot_0, F_X11_isTray, F_X11_isTray_0, F_X11_lot_31, F_X11_none, F_X11_none_0, F_X11_outside, F_X11_outside_0, F_X11_rowLack, F_X11_rowLack_0]
    ((try simp only [hup_s, hup_c, hup_k, ne_eq, Nat.reduceEqDiff, not_false_eq_true]); repeat' (first | (with_reducible refine ev_ck ?_ ?_; first | omega | trivial) | with_reducible refine ev_bind ?_ | (with_reducible refine ev_nx ?_; first | simp only [hup_s, hup_c, hup_k, ne_eq, Nat.reduceEqDiff, not_false_eq_true] | dsimp only | skip) | (with_reducible refine ev_some ?_; first | simp only [hup_s, hup_c, hup_k, ne_eq, Nat.reduceEqDiff, not_false_eq_true] | dsimp only | skip) | (with_reducible refine ev_it ?_ ?_; first | omega | trivial) | (with_reducible refine ev_ie ?_ ?_; first | omega | trivial) | with_reducible refine ev_if (fun _ => ?_) (fun _ => ?_)))
    all_goals simp only [F_X12_lot, F_X12_lot_0, F_X12_isFrom, F_X12_isFrom_0, F_X12_lot_29, F_X12_lot_30]
    all_goals (((try simp only [hup_s, hup_c, hup_k, ne_eq, Nat.reduceEqDiff, not_false_eq_true]); repeat' (first | (with_reducible refine ev_ck ?_ ?_; first | omega | trivial) | with_reducible refine ev_bind ?_ | (with_reducible refine ev_nx ?_; first | simp only [hup_s, hup_c, hup_k, ne_eq, Nat.reduceEqDiff, not_false_eq_true] | dsimp only | skip) | (with_reducible refine ev_some ?_; first | simp only [hup_s, hup_c, hup_k, ne_eq, Nat.reduceEqDiff, not_false_eq_true] | dsimp only | skip) | (with_reducible refine ev_it ?_ ?_; first | omega | trivial) | (with_reducible refine ev_ie ?_ ?_; first | omega | trivial) | with_reducible refine ev_if (fun _ => ?_) (fun _ => ?_) | rw [b0] | rw [s1])))
    all_goals (first | (exfalso; omega) | (refine ⟨?_, ?_, RR_st (by omega) r⟩ <;> first | trivial | omega))
