/-! ===== write, tray, pour ===== -/
theorem R2_one {h h' : MH} {t : Nat} (r : R2 h) (a : ∀ t' : Nat, t' < 4 → t' ≠ t → (h' 6 t' = h 6 t' ∧ h' 7 t' = h 7 t' ∧ h' 143 t' = h 143 t' ∧ h' 144 t' = h 144 t') ∧ ∀ k : Nat, k < 60 → h' (2 + t') k = h (2 + t') k ∧ h' 145 (60 * t' + k) = h 145 (60 * t' + k))
    (b : (0 ≤ h' 6 t ∧ h' 6 t ≤ 3 ∧ h' 143 t = h' 6 t) ∧ (-1 ≤ h' 7 t ∧ h' 7 t ≤ 60 ∧ h' 144 t = h' 7 t) ∧ ∀ k : Nat, (k : Int) < h' 7 t → in64 (h' (2 + t) k) ∧ h' 145 (60 * t + k) = h' (2 + t) k) : R2 h' := by
  intro t' ht'
  by_cases e : t' = t
  · subst e; exact b
  · obtain ⟨⟨a1, a2, a3, a4⟩, a5⟩ := a t' ht' e
    obtain ⟨r1, r2, r3⟩ := r t' ht'
    rw [a1, a2, a3, a4]
    refine ⟨r1, r2, fun k hk => ?_⟩
    obtain ⟨a6, a7⟩ := a5 k (by omega)
    rw [a6, a7]
    exact r3 k hk
theorem w8_in (x : Int) : -128 ≤ w8 x ∧ w8 x ≤ 127 := by unfold w8; constructor <;> omega
theorem w16_in (x : Int) : -32768 ≤ w16 x ∧ w16 x ≤ 32767 := by unfold w16; constructor <;> omega
theorem cut_x {x s : Int} (hx : in64 x) (hs : 0 ≤ s ∧ s ≤ 3) (h : MH) : ∃ v, in64 v ∧ F_X11_cut x s h = some (v, h) ∧ ∀ g, F_X12_cut x s g = some (v, g) := by
  have w1 := w8_in (w32 x)
  have w2 := w16_in (w32 x)
  have w3 := w32_in x
  have e : s = 0 ∨ s = 1 ∨ s = 2 ∨ s = 3 := by omega
  rcases e with e | e | e | e <;> subst e
  · refine ⟨w8 (w32 x), by omega, ?_, fun g => ?_⟩
    · simp only [F_X11_cut, F_X11_cut_0, ck]; rw [if_pos (by omega), if_pos trivial, if_pos (by omega)]
    · simp only [F_X12_cut, F_X12_cut_0, ck]; rw [if_pos (by omega), if_neg (by omega), if_pos (by omega)]
  · refine ⟨w16 (w32 x), by omega, ?_, fun g => ?_⟩
    · simp only [F_X11_cut, F_X11_cut_0, ck]; rw [if_pos (by omega), if_neg (by omega), if_pos trivial, if_pos (by omega)]
    · simp only [F_X12_cut, F_X12_cut_0, ck]; rw [if_pos (by omega), if_pos (by omega), if_neg (by omega), if_pos (by omega)]
  · refine ⟨w32 x, by omega, ?_, fun g => ?_⟩
    · simp only [F_X11_cut, F_X11_cut_0, ck]; rw [if_pos (by omega), if_neg (by omega), if_neg (by omega), if_pos trivial, if_pos (by omega)]
    · simp only [F_X12_cut, F_X12_cut_0, ck]; rw [if_pos (by omega), if_pos (by omega), if_pos (by omega), if_neg (by omega), if_pos (by omega)]
  · refine ⟨x, by omega, ?_, fun g => ?_⟩
    · simp only [F_X11_cut, F_X11_cut_0, ck]; rw [if_pos (by omega), if_neg (by omega), if_neg (by omega), if_neg (by omega)]
    · simp only [F_X12_cut, F_X12_cut_0, ck]; rw [if_pos (by omega), if_pos (by omega), if_pos (by omega), if_pos (by omega)]
theorem RR_write {n : Nat} {h : MH} {t k : Nat} {v : Int} (r : RR n h) (ht : t < 4) (hk : (k : Int) < h 7 t) (hv : in64 v) : RR (n + 1) (hup (hup (hup (hup h (2 + t) k v) 0 0 0) 145 (60 * t + k) v) 141 1 0) := by
  have r2 := r.2.1
  refine RR_mono _ _ (RR_2 (h := h) ?_ ?_ ?_ r)
  · refine Ag.up (Ag.up (Ag.up (Ag.up Ag.rf ?_) ?_) ?_) ?_ <;> (unfold Zall Z2 Z3 Zp Zs Z6 Z7 Z8 Z9 Z10 Z11 Z12; omega)
  · obtain ⟨⟨-, r2, r3⟩, -⟩ := r
    unfold R1
    simp (disch := omega) only [hup_s, hup_n]
    exact ⟨⟨by omega, by omega, trivial⟩, r2, r3⟩
  · obtain ⟨b1, b2, b3⟩ := r2 t ht
    refine R2_one (t := t) r2 ?_ ?_
    · intro t' ht' hne
      simp (disch := omega) only [hup_n]
      refine ⟨⟨trivial, trivial, trivial, trivial⟩, fun k' hk' => ?_⟩
      simp (disch := omega) only [hup_n]
      exact ⟨trivial, trivial⟩
    · simp (disch := omega) only [hup_n]
      refine ⟨b1, b2, fun k' hk' => ?_⟩
      by_cases e : k' = k
      · subst e
        simp (disch := omega) only [hup_n, hup_s]
        exact ⟨hv, trivial⟩
      · simp (disch := omega) only [hup_n]
        exact b3 k' hk'
theorem o_write : Ob_write RR := by
  intro n h a1 a2 a3 hn r i1 i2 i3
  refine ob_ev ?_
  have r2 := r.2.1
  by_cases ht : 0 ≤ a1 ∧ a1 < 4
  · obtain ⟨t, e⟩ : ∃ t : Nat, a1 = t := ⟨a1.toNat, by omega⟩
    subst e
    obtain ⟨q1, q2, q3⟩ := r2 t (by omega)
    by_cases hk : 0 ≤ a2 ∧ a2 < h 7 t
    · obtain ⟨k, e⟩ : ∃ t : Nat, a2 = t := ⟨a2.toNat, by omega⟩
      subst e
      obtain ⟨v, hv, e1, e2⟩ := cut_x i3 (s := h 6 t) ⟨q1.1, q1.2.1⟩ h
      have hx : (60 * (t : Int) + k).toNat = 60 * t + k := by omega
      have z1 : ¬ 143 = 2 + t := by omega
      have z2 : ¬ 144 = 2 + t := by omega
      simp only [F_X11_write, F_X11_write_0, F_X11_placeLack, F_X11_placeLack_0, F_X11_isTray, F_X11_isTray_0, F_X11_outside, F_X11_outside_0, F_X11_granted, F_X11_granted_0, F_X11_refused, F_X11_refused_0]
      simp only [Int.toNat_natCast]
      ((try simp only [hup_s, hup_c, hup_k, ne_eq, Nat.reduceEqDiff, not_false_eq_true]); repeat' (first | (with_reducible refine ev_ck ?_ ?_; first | omega | trivial) | with_reducible refine ev_bind ?_ | (with_reducible refine ev_nx ?_; first | simp only [hup_s, hup_c, hup_k, ne_eq, Nat.reduceEqDiff, not_false_eq_true] | dsimp only | skip) | (with_reducible refine ev_some ?_; first | simp only [hup_s, hup_c, hup_k, ne_eq, Nat.reduceEqDiff, not_false_eq_true] | dsimp only | skip) | (with_reducible refine ev_it ?_ ?_; first | omega | trivial) | (with_reducible refine ev_ie ?_ ?_; first | omega | trivial) | with_reducible refine ev_if (fun _ => ?_) (fun _ => ?_) | rw [e1]))
      simp only [F_X12_write, F_X12_write_0, F_X12_wrongPlace, F_X12_wrongPlace_0, F_X12_isTray, F_X12_isTray_0, F_X12_write_34, F_X12_is, F_X12_is_0]
      simp only [Int.toNat_natCast]
      ((try simp only [hup_s, hup_c, hup_k, ne_eq, Nat.reduceEqDiff, not_false_eq_true, z1, z2]); repeat' (first | (with_reducible refine ev_ck ?_ ?_; first | omega | trivial) | with_reducible refine ev_bind ?_ | (with_reducible refine ev_nx ?_; first | simp only [hup_s, hup_c, hup_k, ne_eq, Nat.reduceEqDiff, not_false_eq_true, z1, z2] | dsimp only | skip) | (with_reducible refine ev_some ?_; first | simp only [hup_s, hup_c, hup_k, ne_eq, Nat.reduceEqDiff, not_false_eq_true, z1, z2] | dsimp only | skip) | (with_reducible refine ev_it ?_ ?_; first | omega | trivial) | (with_reducible refine ev_ie ?_ ?_; first | omega | trivial) | with_reducible refine ev_if (fun _ => ?_) (fun _ => ?_) | rw [q1.2.2, e2]))
      simp only [hx]
      exact ⟨trivial, by omega, RR_write r (by omega) (by omega) hv⟩
    · simp only [F_X11_write, F_X11_write_0, F_X11_placeLack, F_X11_placeLack_0, F_X11_isTray, F_X11_isTray_0, F_X11_outside, F_X11_outside_0, F_X11_granted, F_X11_granted_0, F_X11_refused, F_X11_refused_0]
      simp only [Int.toNat_natCast]
      ((try simp only [hup_s, hup_c, hup_k, ne_eq, Nat.reduceEqDiff, not_false_eq_true]); repeat' (first | (with_reducible refine ev_ck ?_ ?_; first | omega | trivial) | with_reducible refine ev_bind ?_ | (with_reducible refine ev_nx ?_; first | simp only [hup_s, hup_c, hup_k, ne_eq, Nat.reduceEqDiff, not_false_eq_true] | dsimp only | skip) | (with_reducible refine ev_some ?_; first | simp only [hup_s, hup_c, hup_k, ne_eq, Nat.reduceEqDiff, not_false_eq_true] | dsimp only | skip) | (with_reducible refine ev_it ?_ ?_; first | omega | trivial) | (with_reducible refine ev_ie ?_ ?_; first | omega | trivial) | with_reducible refine ev_if (fun _ => ?_) (fun _ => ?_)))
      all_goals simp only [F_X12_write, F_X12_write_0, F_X12_wrongPlace, F_X12_wrongPlace_0, F_X12_isTray, F_X12_isTray_0, F_X12_write_34, F_X12_is, F_X12_is_0]
      all_goals simp only [Int.toNat_natCast]
      all_goals (((try simp only [hup_s, hup_c, hup_k, ne_eq, Nat.reduceEqDiff, not_false_eq_true]); repeat' (first | (with_reducible refine ev_ck ?_ ?_; first | omega | trivial) | with_reducible refine ev_bind ?_ | (with_reducible refine ev_nx ?_; first | simp only [hup_s, hup_c, hup_k, ne_eq, Nat.reduceEqDiff, not_false_eq_true] | dsimp only | skip) | (with_reducible refine ev_some ?_; first | simp only [hup_s, hup_c, hup_k, ne_eq, Nat.reduceEqDiff, not_false_eq_true] | dsimp only | skip) | (with_reducible refine ev_it ?_ ?_; first | omega | trivial) | (with_reducible refine ev_ie ?_ ?_; first | omega | trivial) | with_reducible refine ev_if (fun _ => ?_) (fun _ => ?_))))
      all_goals (first | (exfalso; omega) | (refine ⟨?_, ?_, RR_st (by omega) r⟩ <;> first | trivial | omega))
  · simp only [F_X11_write, F_X11_write_0, F_X11_placeLack, F_X11_placeLack_0, F_X11_isTray, F_X11_isTray_0, F_X11_outside, F_X11_outside_0, F_X11_granted, F_X11_granted_0, F_X11_refused, F_X11_refused_0]
    ((try simp only [hup_s, hup_c, hup_k, ne_eq, Nat.reduceEqDiff, not_false_eq_true]); repeat' (first | (with_reducible refine ev_ck ?_ ?_; first | omega | trivial) | with_reducible refine ev_bind ?_ | (with_reducible refine ev_nx ?_; first | simp only [hup_s, hup_c, hup_k, ne_eq, Nat.reduceEqDiff, not_false_eq_true] | dsimp only | skip) | (with_reducible refine ev_some ?_; first | simp only [hup_s, hup_c, hup_k, ne_eq, Nat.reduceEqDiff, not_false_eq_true] | dsimp only | skip) | (with_reducible refine ev_it ?_ ?_; first | omega | trivial) | (with_reducible refine ev_ie ?_ ?_; first | omega | trivial) | with_reducible refine ev_if (fun _ => ?_) (fun _ => ?_)))
    all_goals simp only [F_X12_write, F_X12_write_0, F_X12_wrongPlace, F_X12_wrongPlace_0, F_X12_isTray, F_X12_isTray_0, F_X12_write_34, F_X12_is, F_X12_is_0]
    all_goals (((try simp only [hup_s, hup_c, hup_k, ne_eq, Nat.reduceEqDiff, not_false_eq_true]); repeat' (first | (with_reducible refine ev_ck ?_ ?_; first | omega | trivial) | with_reducible refine ev_bind ?_ | (with_reducible refine ev_nx ?_; first | simp only [hup_s, hup_c, hup_k, ne_eq, Nat.reduceEqDiff, not_false_eq_true] | dsimp only | skip) | (with_reducible refine ev_some ?_; first | simp only [hup_s, hup_c, hup_k, ne_eq, Nat.reduceEqDiff, not_false_eq_true] | dsimp only | skip) | (with_reducible refine ev_it ?_ ?_; first | omega | trivial) | (with_reducible refine ev_ie ?_ ?_; first | omega | trivial) | with_reducible refine ev_if (fun _ => ?_) (fun _ => ?_))))
    all_goals (first | (exfalso; omega) | (refine ⟨?_, ?_, RR_st (by omega) r⟩ <;> first | trivial | omega))
/-! fill -/
def hfl (h : MH) (c n : Nat) (v : Int) : MH := fun c' k' => if c' = c ∧ k' < n then v else h c' k'
theorem hfl_n (h : MH) (c n : Nat) (v : Int) (c' k' : Nat) (e : ¬ (c' = c ∧ k' < n)) : hfl h c n v c' k' = h c' k' := if_neg e
theorem hfl_y (h : MH) (c n : Nat) (v : Int) (c' k' : Nat) (e : c' = c ∧ k' < n) : hfl h c n v c' k' = v := if_pos e
theorem hfl_s (h : MH) (c n : Nat) (v : Int) : hup (hfl h c n v) c n v = hfl h c (n + 1) v := by
  funext c' k'
  unfold hup hfl
  by_cases e : c' = c ∧ k' = n
  · rw [if_pos e, if_pos (by omega)]
  · rw [if_neg e]
    by_cases e2 : c' = c ∧ k' < n
    · rw [if_pos e2, if_pos (by omega)]
    · rw [if_neg e2, if_neg (by omega)]
theorem hfl_0 (h : MH) (c : Nat) (v : Int) : hfl h c 0 v = h := by
  funext c' k'
  unfold hfl
  rw [if_neg (by omega)]
theorem fillL_l {c len : Nat} {v : Int} {h : MH} (hl : len < 10000) : ∀ (d f j : Nat), j + d = len → d < f → F_J7_fill_d0a16_6 f c len v (j : Int) (len : Int) (hfl h c j v) = some (hfl h c len v) := by
  intro d
  induction d with
  | zero =>
    intro f j e hf
    obtain ⟨f, rfl⟩ : ∃ g, f = g + 1 := ⟨f - 1, by omega⟩
    have : j = len := by omega
    subst this
    unfold F_J7_fill_d0a16_6 ck
    rw [if_pos (by omega), if_pos (by omega), if_pos (by omega)]
  | succ d ih =>
    intro f j e hf
    obtain ⟨f, rfl⟩ : ∃ g, f = g + 1 := ⟨f - 1, by omega⟩
    unfold F_J7_fill_d0a16_6 ck
    rw [if_pos (by omega), if_pos (by omega), if_neg (by omega), if_pos (by omega)]
    simp only [nx_eq, Int.toNat_natCast, hfl_s]
    exact ih f (j + 1) (by omega) (by omega)
theorem fillL {c len : Nat} {v : Int} {h : MH} (hl : len < 10000) : F_J7_fill_d0a16 c len v h = some (hfl h c len v) := by
  have q := fillL_l (c := c) (v := v) (h := h) hl len 20000 0 (by omega) (by omega)
  rw [hfl_0, show ((0 : Nat) : Int) = 0 from rfl] at q
  unfold F_J7_fill_d0a16 F_J7_fill_d0a16_0
  rw [nx_eq]
  exact q
theorem fillI_l {c len : Nat} {v : Int} {h : MH} (hl : len < 10000) : ∀ (d f j : Nat), j + d = len → d < f → F_J7_fill_53178_5 f c len v (j : Int) (len : Int) (hfl h c j v) = some (hfl h c len v) := by
  intro d
  induction d with
  | zero =>
    intro f j e hf
    obtain ⟨f, rfl⟩ : ∃ g, f = g + 1 := ⟨f - 1, by omega⟩
    have : j = len := by omega
    subst this
    unfold F_J7_fill_53178_5 ck
    rw [if_pos (by omega), if_pos (by omega), if_pos (by omega)]
  | succ d ih =>
    intro f j e hf
    obtain ⟨f, rfl⟩ : ∃ g, f = g + 1 := ⟨f - 1, by omega⟩
    unfold F_J7_fill_53178_5 ck
    rw [if_pos (by omega), if_pos (by omega), if_neg (by omega), if_pos (by omega)]
    simp only [nx_eq, Int.toNat_natCast, hfl_s]
    exact ih f (j + 1) (by omega) (by omega)
theorem fillI {c len : Nat} {v : Int} {h : MH} (hl : len < 10000) : F_J7_fill_53178 c len v h = some (hfl h c len v) := by
  have q := fillI_l (c := c) (v := v) (h := h) hl len 20000 0 (by omega) (by omega)
  rw [hfl_0, show ((0 : Nat) : Int) = 0 from rfl] at q
  unfold F_J7_fill_53178 F_J7_fill_53178_0
  rw [nx_eq]
  exact q
/-! a stretch of a cell -/
def hfr (h : MH) (c a n : Nat) (v : Int) : MH := fun c' k' => if c' = c ∧ a ≤ k' ∧ k' < a + n then v else h c' k'
theorem hfr_n (h : MH) (c a n : Nat) (v : Int) (c' k' : Nat) (e : ¬ (c' = c ∧ a ≤ k' ∧ k' < a + n)) : hfr h c a n v c' k' = h c' k' := if_neg e
theorem hfr_y (h : MH) (c a n : Nat) (v : Int) (c' k' : Nat) (e : c' = c ∧ a ≤ k' ∧ k' < a + n) : hfr h c a n v c' k' = v := if_pos e
theorem hfr_s (h : MH) (c a n : Nat) (v : Int) : hup (hfr h c a n v) c (a + n) v = hfr h c a (n + 1) v := by
  funext c' k'
  unfold hup hfr
  by_cases e : c' = c ∧ k' = a + n
  · rw [if_pos e, if_pos (by omega)]
  · rw [if_neg e]
    by_cases e2 : c' = c ∧ a ≤ k' ∧ k' < a + n
    · rw [if_pos e2, if_pos (by omega)]
    · rw [if_neg e2, if_neg (by omega)]
theorem hfr_0 (h : MH) (c a : Nat) (v : Int) : hfr h c a 0 v = h := by
  funext c' k'
  unfold hfr
  rw [if_neg (by omega)]
theorem Ag.fl {P : Nat → Nat → Prop} {h h' : MH} {c n : Nat} {v : Int} (a : Ag P h h') (w : ∀ k, k < n → ¬ P c k) : Ag P h (hfl h' c n v) := fun c' k' q => by
  unfold hfl
  by_cases e : c' = c ∧ k' < n
  · rw [e.1] at q; exact absurd q (w k' e.2)
  · rw [if_neg e]; exact a c' k' q
theorem Ag.fr {P : Nat → Nat → Prop} {h h' : MH} {c b n : Nat} {v : Int} (a : Ag P h h') (w : ∀ k, b ≤ k → k < b + n → ¬ P c k) : Ag P h (hfr h' c b n v) := fun c' k' q => by
  unfold hfr
  by_cases e : c' = c ∧ b ≤ k' ∧ k' < b + n
  · rw [e.1] at q; exact absurd q (w k' e.2.1 e.2.2)
  · rw [if_neg e]; exact a c' k' q
theorem is_eq {v : Int} {h : MH} (hv : in32 v) : F_X12_is v h = some (if v = 0 then 1 else 0, hup h 141 1 v) := by
  unfold F_X12_is F_X12_is_0 ck
  rw [nx_eq, if_pos hv]
  by_cases e : v = 0
  · rw [if_neg (by omega), if_pos e]
  · rw [if_pos e, if_neg e]
/-- the other's loop over the row of a new tray -/
theorem tray_l {t c : Nat} {g : MH} (ht : t < 4) (hc : c ≤ 60) : ∀ (d f j : Nat), j + d = c → d < f →
    F_X12_tray_49 f (t : Int) (c : Int) (j : Int) (hfr g 145 (60 * t) j 0) = some (1, hup (hfr g 145 (60 * t) c 0) 141 1 0) := by
  intro d
  induction d with
  | zero =>
    intro f j e hf
    obtain ⟨f, rfl⟩ : ∃ g, f = g + 1 := ⟨f - 1, by omega⟩
    have : j = c := by omega
    subst this
    unfold F_X12_tray_49 ck
    rw [if_pos (by omega), if_pos (by omega), if_pos (by omega), is_eq (by omega)]
    rfl
  | succ d ih =>
    intro f j e hf
    obtain ⟨f, rfl⟩ : ∃ g, f = g + 1 := ⟨f - 1, by omega⟩
    have hx : (60 * (t : Int) + (j : Int)).toNat = 60 * t + j := by omega
    unfold F_X12_tray_49 ck
    rw [if_pos (by omega), if_pos (by omega), if_neg (by omega), if_pos (by omega), nx_eq, hx, hfr_s]
    exact ih f (j + 1) (by omega) (by omega)
theorem RR_tray {n : Nat} {h : MH} {t c : Nat} {s : Int} (r : RR n h) (ht : t < 4) (hs : 0 ≤ s ∧ s ≤ 3) (hc : c ≤ 60) :
    RR (n + 1) (hup (hfr (hup (hup (hup (hup (hup (hfl h (2 + t) 60 0) 6 t s) 7 t c) 0 0 0) 143 t s) 144 t c) 145 (60 * t) c 0) 141 1 0) := by
  have r2 := r.2.1
  refine RR_mono _ _ (RR_2 (h := h) ?_ ?_ ?_ r)
  · refine Ag.up (Ag.fr (Ag.up (Ag.up (Ag.up (Ag.up (Ag.up (Ag.fl Ag.rf ?_) ?_) ?_) ?_) ?_) ?_) ?_) ?_
    · intro k hk; unfold Zall Z2 Z3 Zp Zs Z6 Z7 Z8 Z9 Z10 Z11 Z12; omega
    all_goals first | (intro k hk hk'; unfold Zall Z2 Z3 Zp Zs Z6 Z7 Z8 Z9 Z10 Z11 Z12; omega) | (unfold Zall Z2 Z3 Zp Zs Z6 Z7 Z8 Z9 Z10 Z11 Z12; omega)
  · obtain ⟨⟨-, r2, r3⟩, -⟩ := r
    unfold R1
    simp (disch := omega) only [hup_s, hup_n, hfr_n, hfl_n]
    exact ⟨⟨by omega, by omega, trivial⟩, r2, r3⟩
  · refine R2_one (t := t) r2 ?_ ?_
    · intro t' ht' hne
      simp (disch := omega) only [hup_n, hfr_n, hfl_n]
      refine ⟨⟨trivial, trivial, trivial, trivial⟩, fun k' hk' => ?_⟩
      simp (disch := omega) only [hup_n, hfl_n, hfr_n]
      exact ⟨trivial, trivial⟩
    · simp (disch := omega) only [hup_n, hup_s, hfr_n]
      refine ⟨⟨hs.1, hs.2, trivial⟩, ⟨by omega, by omega, trivial⟩, fun k' hk' => ?_⟩
      simp (disch := omega) only [hup_n, hfl_y, hfr_y, hfr_n]
      exact ⟨by omega, trivial⟩
theorem o_tray : Ob_tray RR := by
  intro n h a1 a2 a3 hn r i1 i2 i3
  refine ob_ev ?_
  by_cases ht : (0 ≤ a1 ∧ a1 < 4) ∧ (0 ≤ a2 ∧ a2 ≤ 3) ∧ (0 ≤ a3 ∧ a3 ≤ 60)
  · obtain ⟨ht, h2, h3⟩ := ht
    obtain ⟨t, e⟩ : ∃ t : Nat, a1 = t := ⟨a1.toNat, by omega⟩
    obtain ⟨c, e'⟩ : ∃ t : Nat, a3 = t := ⟨a3.toNat, by omega⟩
    subst e e'
    simp only [F_X11_tray, F_X11_tray_0, F_X11_isTray, F_X11_isTray_0, F_X11_tray_31, F_X11_refused, F_X11_refused_0, F_X11_outside, F_X11_outside_0, F_X11_granted, F_X11_granted_0]
    simp only [Int.toNat_natCast, fillL (show 60 < 10000 by omega)]
    ((try simp only [hup_s, hup_c, hup_k, ne_eq, Nat.reduceEqDiff, not_false_eq_true]); repeat' (first | (with_reducible refine ev_ck ?_ ?_; first | omega | trivial) | with_reducible refine ev_bind ?_ | (with_reducible refine ev_nx ?_; first | simp only [hup_s, hup_c, hup_k, ne_eq, Nat.reduceEqDiff, not_false_eq_true] | dsimp only | skip) | (with_reducible refine ev_some ?_; first | simp only [hup_s, hup_c, hup_k, ne_eq, Nat.reduceEqDiff, not_false_eq_true] | dsimp only | skip) | (with_reducible refine ev_it ?_ ?_; first | omega | trivial) | (with_reducible refine ev_ie ?_ ?_; first | omega | trivial) | with_reducible refine ev_if (fun _ => ?_) (fun _ => ?_)))
    have q := tray_l (t := t) (c := c) (g := hup (hup (hup (hup (hup (hfl h (2 + t) 60 0) 6 t a2) 7 t c) 0 0 0) 143 t a2) 144 t c) (by omega) (by omega) c 20000 0 (by omega) (by omega)
    rw [hfr_0, show ((0 : Nat) : Int) = 0 from rfl] at q
    have z1 : ¬ 143 = 2 + t := by omega
    have z2 : ¬ 144 = 2 + t := by omega
    simp only [F_X12_tray, F_X12_tray_0, F_X12_isTray, F_X12_isTray_0, F_X12_tray_26, F_X12_is, F_X12_is_0]
    simp only [Int.toNat_natCast]
    ((try simp only [hup_s, hup_c, hup_k, ne_eq, Nat.reduceEqDiff, not_false_eq_true, z1, z2]); repeat' (first | (with_reducible refine ev_ck ?_ ?_; first | omega | trivial) | with_reducible refine ev_bind ?_ | (with_reducible refine ev_nx ?_; first | simp only [hup_s, hup_c, hup_k, ne_eq, Nat.reduceEqDiff, not_false_eq_true, z1, z2] | dsimp only | skip) | (with_reducible refine ev_some ?_; first | simp only [hup_s, hup_c, hup_k, ne_eq, Nat.reduceEqDiff, not_false_eq_true, z1, z2] | dsimp only | skip) | (with_reducible refine ev_it ?_ ?_; first | omega | trivial) | (with_reducible refine ev_ie ?_ ?_; first | omega | trivial) | with_reducible refine ev_if (fun _ => ?_) (fun _ => ?_) | rw [q]))
    exact ⟨trivial, by omega, RR_tray r (by omega) h2 (by omega)⟩
  · by_cases c1 : 0 ≤ a1 ∧ a1 < 4
    · by_cases c2 : 0 ≤ a2 ∧ a2 ≤ 3
      · simp only [F_X11_tray, F_X11_tray_0, F_X11_isTray, F_X11_isTray_0, F_X11_tray_31, F_X11_refused, F_X11_refused_0, F_X11_outside, F_X11_outside_0, F_X11_granted, F_X11_granted_0]
        ((try simp only [hup_s, hup_c, hup_k, ne_eq, Nat.reduceEqDiff, not_false_eq_true]); repeat' (first | (with_reducible refine ev_ck ?_ ?_; first | omega | trivial) | with_reducible refine ev_bind ?_ | (with_reducible refine ev_nx ?_; first | simp only [hup_s, hup_c, hup_k, ne_eq, Nat.reduceEqDiff, not_false_eq_true] | dsimp only | skip) | (with_reducible refine ev_some ?_; first | simp only [hup_s, hup_c, hup_k, ne_eq, Nat.reduceEqDiff, not_false_eq_true] | dsimp only | skip) | (with_reducible refine ev_it ?_ ?_; first | omega | trivial) | (with_reducible refine ev_ie ?_ ?_; first | omega | trivial) | with_reducible refine ev_if (fun _ => ?_) (fun _ => ?_)))
        all_goals simp only [F_X12_tray, F_X12_tray_0, F_X12_isTray, F_X12_isTray_0, F_X12_tray_26, F_X12_is, F_X12_is_0]
        all_goals (((try simp only [hup_s, hup_c, hup_k, ne_eq, Nat.reduceEqDiff, not_false_eq_true]); repeat' (first | (with_reducible refine ev_ck ?_ ?_; first | omega | trivial) | with_reducible refine ev_bind ?_ | (with_reducible refine ev_nx ?_; first | simp only [hup_s, hup_c, hup_k, ne_eq, Nat.reduceEqDiff, not_false_eq_true] | dsimp only | skip) | (with_reducible refine ev_some ?_; first | simp only [hup_s, hup_c, hup_k, ne_eq, Nat.reduceEqDiff, not_false_eq_true] | dsimp only | skip) | (with_reducible refine ev_it ?_ ?_; first | omega | trivial) | (with_reducible refine ev_ie ?_ ?_; first | omega | trivial) | with_reducible refine ev_if (fun _ => ?_) (fun _ => ?_))))
        all_goals (first | (exfalso; omega) | (refine ⟨?_, ?_, RR_st (by omega) r⟩ <;> first | trivial | omega))
      · simp only [F_X11_tray, F_X11_tray_0, F_X11_isTray, F_X11_isTray_0, F_X11_tray_31, F_X11_refused, F_X11_refused_0, F_X11_outside, F_X11_outside_0, F_X11_granted, F_X11_granted_0]
        ((try simp only [hup_s, hup_c, hup_k, ne_eq, Nat.reduceEqDiff, not_false_eq_true]); repeat' (first | (with_reducible refine ev_ck ?_ ?_; first | omega | trivial) | with_reducible refine ev_bind ?_ | (with_reducible refine ev_nx ?_; first | simp only [hup_s, hup_c, hup_k, ne_eq, Nat.reduceEqDiff, not_false_eq_true] | dsimp only | skip) | (with_reducible refine ev_some ?_; first | simp only [hup_s, hup_c, hup_k, ne_eq, Nat.reduceEqDiff, not_false_eq_true] | dsimp only | skip) | (with_reducible refine ev_it ?_ ?_; first | omega | trivial) | (with_reducible refine ev_ie ?_ ?_; first | omega | trivial) | with_reducible refine ev_if (fun _ => ?_) (fun _ => ?_)))
        all_goals simp only [F_X12_tray, F_X12_tray_0, F_X12_isTray, F_X12_isTray_0, F_X12_tray_26, F_X12_is, F_X12_is_0]
        all_goals (((try simp only [hup_s, hup_c, hup_k, ne_eq, Nat.reduceEqDiff, not_false_eq_true]); repeat' (first | (with_reducible refine ev_ck ?_ ?_; first | omega | trivial) | with_reducible refine ev_bind ?_ | (with_reducible refine ev_nx ?_; first | simp only [hup_s, hup_c, hup_k, ne_eq, Nat.reduceEqDiff, not_false_eq_true] | dsimp only | skip) | (with_reducible refine ev_some ?_; first | simp only [hup_s, hup_c, hup_k, ne_eq, Nat.reduceEqDiff, not_false_eq_true] | dsimp only | skip) | (with_reducible refine ev_it ?_ ?_; first | omega | trivial) | (with_reducible refine ev_ie ?_ ?_; first | omega | trivial) | with_reducible refine ev_if (fun _ => ?_) (fun _ => ?_))))
        all_goals (first | (exfalso; omega) | (refine ⟨?_, ?_, RR_st (by omega) r⟩ <;> first | trivial | omega))
    · simp only [F_X11_tray, F_X11_tray_0, F_X11_isTray, F_X11_isTray_0, F_X11_tray_31, F_X11_refused, F_X11_refused_0, F_X11_outside, F_X11_outside_0, F_X11_granted, F_X11_granted_0]
      ((try simp only [hup_s, hup_c, hup_k, ne_eq, Nat.reduceEqDiff, not_false_eq_true]); repeat' (first | (with_reducible refine ev_ck ?_ ?_; first | omega | trivial) | with_reducible refine ev_bind ?_ | (with_reducible refine ev_nx ?_; first | simp only [hup_s, hup_c, hup_k, ne_eq, Nat.reduceEqDiff, not_false_eq_true] | dsimp only | skip) | (with_reducible refine ev_some ?_; first | simp only [hup_s, hup_c, hup_k, ne_eq, Nat.reduceEqDiff, not_false_eq_true] | dsimp only | skip) | (with_reducible refine ev_it ?_ ?_; first | omega | trivial) | (with_reducible refine ev_ie ?_ ?_; first | omega | trivial) | with_reducible refine ev_if (fun _ => ?_) (fun _ => ?_)))
      all_goals simp only [F_X12_tray, F_X12_tray_0, F_X12_isTray, F_X12_isTray_0, F_X12_tray_26, F_X12_is, F_X12_is_0]
      all_goals (((try simp only [hup_s, hup_c, hup_k, ne_eq, Nat.reduceEqDiff, not_false_eq_true]); repeat' (first | (with_reducible refine ev_ck ?_ ?_; first | omega | trivial) | with_reducible refine ev_bind ?_ | (with_reducible refine ev_nx ?_; first | simp only [hup_s, hup_c, hup_k, ne_eq, Nat.reduceEqDiff, not_false_eq_true] | dsimp only | skip) | (with_reducible refine ev_some ?_; first | simp only [hup_s, hup_c, hup_k, ne_eq, Nat.reduceEqDiff, not_false_eq_true] | dsimp only | skip) | (with_reducible refine ev_it ?_ ?_; first | omega | trivial) | (with_reducible refine ev_ie ?_ ?_; first | omega | trivial) | with_reducible refine ev_if (fun _ => ?_) (fun _ => ?_))))
      all_goals (first | (exfalso; omega) | (refine ⟨?_, ?_, RR_st (by omega) r⟩ <;> first | trivial | omega))
