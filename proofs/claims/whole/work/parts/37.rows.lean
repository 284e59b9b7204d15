/-! ===== Euclid on both sides ===== -/
theorem eu_both : ∀ (k a b : Nat), b < 2 ^ k → (a : Int) ≤ 9223372036854775807 → (b : Int) ≤ 9223372036854775807 → ∃ g : Nat, (g ≤ a ∨ g ≤ b) ∧ (0 < a ∨ 0 < b → 0 < g) ∧
    (∀ (f i : Nat) (h : MH), 2 * k < f → i + 2 * k < 100 → F_X11_commonDivisor_9 f (a : Int) (b : Int) (i : Int) h = some ((g : Int), h)) ∧
    ∀ (f : Nat) (x1 x3 : Int) (h : MH), 2 * k < f → ∃ f' : Nat, F_X12_tells_6 f x1 x3 (a : Int) (b : Int) h = F_X12_tells_6 (f' + 1) x1 x3 (g : Int) 0 h := by
  intro k
  induction k with
  | zero =>
    intro a b hb ha hb2
    have : b = 0 := by simp only [Nat.pow_zero] at hb; omega
    subst this
    refine ⟨a, Or.inl (Nat.le_refl _), by omega, fun f i h hf hi => ?_, fun f x1 x3 h hf => ?_⟩
    · obtain ⟨f, rfl⟩ : ∃ g, f = g + 1 := ⟨f - 1, by omega⟩
      unfold F_X11_commonDivisor_9 ck
      rw [if_pos (by omega), if_neg (by omega), if_pos (by omega), if_pos (by omega)]
    · obtain ⟨f, rfl⟩ : ∃ g, f = g + 1 := ⟨f - 1, by omega⟩
      exact ⟨f, rfl⟩
  | succ k ih =>
    intro a b hb ha hb2
    rw [Nat.pow_succ] at hb
    by_cases b0 : b = 0
    · subst b0
      refine ⟨a, Or.inl (Nat.le_refl _), by omega, fun f i h hf hi => ?_, fun f x1 x3 h hf => ?_⟩
      · obtain ⟨f, rfl⟩ : ∃ g, f = g + 1 := ⟨f - 1, by omega⟩
        unfold F_X11_commonDivisor_9 ck
        rw [if_pos (by omega), if_neg (by omega), if_pos (by omega), if_pos (by omega)]
      · obtain ⟨f, rfl⟩ : ∃ g, f = g + 1 := ⟨f - 1, by omega⟩
        exact ⟨f, rfl⟩
    · have s1 : ∀ (f i : Nat) (h : MH), i < 100 → F_X11_commonDivisor_9 (f + 1) (a : Int) (b : Int) (i : Int) h = F_X11_commonDivisor_9 f (b : Int) ((a % b : Nat) : Int) ((i + 1 : Nat) : Int) h := by
        intro f i h hi
        rw [F_X11_commonDivisor_9]
        unfold ck
        rw [if_pos (by omega), if_neg (by omega), if_pos (by omega), if_neg (by omega), if_pos (by omega), if_pos (by omega), nx_eq]
        rfl
      have s2 : ∀ (f : Nat) (x1 x3 : Int) (h : MH), F_X12_tells_6 (f + 1) x1 x3 (a : Int) (b : Int) h = F_X12_tells_6 f x1 x3 (b : Int) ((a % b : Nat) : Int) h := by
        intro f x1 x3 h
        rw [F_X12_tells_6]
        unfold ck
        rw [if_pos (by omega), if_neg (by omega), if_pos (by omega), if_pos (by omega), nx_eq]
        rfl
      have hr := Nat.mod_lt a (show b > 0 by omega)
      by_cases r0 : a % b = 0
      · refine ⟨b, Or.inr (Nat.le_refl _), by omega, fun f i h hf hi => ?_, fun f x1 x3 h hf => ?_⟩
        · obtain ⟨f, rfl⟩ : ∃ g, f = g + 2 := ⟨f - 2, by omega⟩
          rw [s1 _ _ _ (by omega), r0]
          rw [F_X11_commonDivisor_9]
          unfold ck
          rw [if_pos (by omega), if_neg (by omega), if_pos (by omega), if_pos (by omega)]
        · obtain ⟨f, rfl⟩ : ∃ g, f = g + 2 := ⟨f - 2, by omega⟩
          rw [s2, r0]
          exact ⟨f, rfl⟩
      · have hq : 2 * (b % (a % b)) < b := by
          have u1 := Nat.mod_lt b (show a % b > 0 by omega)
          have u2 : b % (a % b) ≤ b - a % b := by rw [Nat.mod_eq_sub_mod (by omega)]; exact Nat.mod_le _ _
          omega
        have t1 : ∀ (f i : Nat) (h : MH), i < 100 → F_X11_commonDivisor_9 (f + 1) (b : Int) ((a % b : Nat) : Int) (i : Int) h = F_X11_commonDivisor_9 f ((a % b : Nat) : Int) ((b % (a % b) : Nat) : Int) ((i + 1 : Nat) : Int) h := by
          intro f i h hi
          rw [F_X11_commonDivisor_9]
          unfold ck
          rw [if_pos (by omega), if_neg (by omega), if_pos (by omega), if_neg (by omega), if_pos (by omega), if_pos (by omega), nx_eq]
          rfl
        have t2 : ∀ (f : Nat) (x1 x3 : Int) (h : MH), F_X12_tells_6 (f + 1) x1 x3 (b : Int) ((a % b : Nat) : Int) h = F_X12_tells_6 f x1 x3 ((a % b : Nat) : Int) ((b % (a % b) : Nat) : Int) h := by
          intro f x1 x3 h
          rw [F_X12_tells_6]
          unfold ck
          rw [if_pos (by omega), if_neg (by omega), if_pos (by omega), if_pos (by omega), nx_eq]
          rfl
        obtain ⟨g, g1, g2, g3, g4⟩ := ih (a % b) (b % (a % b)) (by omega) (by omega) (by omega)
        refine ⟨g, Or.inr (by omega), fun _ => g2 (by omega), fun f i h hf hi => ?_, fun f x1 x3 h hf => ?_⟩
        · obtain ⟨f, rfl⟩ : ∃ g, f = g + 2 := ⟨f - 2, by omega⟩
          rw [s1 _ _ _ (by omega), t1 _ _ _ (by omega)]
          exact g3 f (i + 1 + 1) h (by omega) (by omega)
        · obtain ⟨f, rfl⟩ : ∃ g, f = g + 2 := ⟨f - 2, by omega⟩
          rw [s2, t2]
          exact g4 f x1 x3 h (by omega)
/-- both sides tell a share: the same two numbers -/
theorem tell_both {a b : Nat} (ha : a < 1000000000) (hb : b < 1000000000) (hb0 : 0 < b) : ∃ p q : Int, in64 p ∧ in64 q ∧ (∀ h, F_X11_tell (a : Int) (b : Int) h = some (hup (hup h 0 1 p) 0 2 q)) ∧ ∀ h, F_X12_tells (a : Int) (b : Int) h = some (1, hup (hup (hup h 141 2 p) 141 3 q) 141 1 0) := by
  obtain ⟨g, g1, g2, g3, g4⟩ := eu_both 30 a b (by omega) (by omega) (by omega)
  have g0 := g2 (Or.inr hb0)
  have u1 := td_le (a := (a : Int)) (b := (g : Int)) (by omega) (by omega)
  have u2 := td_le (a := (b : Int)) (b := (g : Int)) (by omega) (by omega)
  refine ⟨Int.tdiv a g, Int.tdiv b g, by omega, by omega, fun h => ?_, fun h => ?_⟩
  · have q := g3 20000 0 h (by omega) (by omega)
    rw [show ((0 : Nat) : Int) = 0 from rfl] at q
    unfold F_X11_tell F_X11_tell_0 F_X11_commonDivisor F_X11_commonDivisor_0
    rw [q, bind_eq]
    unfold F_X11_tell_23 ck
    dsimp only
    rw [if_pos (by omega), if_pos (by omega), if_pos (by omega), if_pos (by omega), nx_eq, if_pos (by omega), if_pos (by omega), if_pos (by omega), if_pos (by omega), nx_eq]
  · obtain ⟨f', e⟩ := g4 20000 a b h (by omega)
    unfold F_X12_tells F_X12_tells_0
    rw [e, F_X12_tells_6]
    unfold ck
    rw [if_pos (by omega), if_pos rfl, if_pos (by omega), if_pos (by omega), if_pos (by omega), nx_eq, if_pos (by omega), if_pos (by omega), nx_eq, is_eq (by omega)]
    rfl
theorem RR_tell {n : Nat} {h : MH} {p q : Int} (r : RR n h) (hp : in64 p) (hq : in64 q) : RR (n + 1) (hup (hup (hup (hup (hup (hup h 0 1 p) 0 2 q) 0 0 0) 141 2 p) 141 3 q) 141 1 0) := by
  refine RR_mono _ _ (RR_rest (h := h) ?_ ?_ r)
  · refine Ag.up (Ag.up (Ag.up (Ag.up (Ag.up (Ag.up Ag.rf ?_) ?_) ?_) ?_) ?_) ?_ <;> (unfold Zall Z2 Z3 Zp Zs Z6 Z7 Z8 Z9 Z10 Z11 Z12; omega)
  · exact ⟨⟨(Int.le_refl 0 : (0 : Int) ≤ 0), (by decide : (0 : Int) ≤ 9), rfl⟩, ⟨hp, rfl⟩, ⟨hq, rfl⟩⟩
theorem o_share : Ob_share RR := by
  intro n h a1 hn r i1
  refine ob_ev ?_
  have P := r.2.2.2.1
  simp only [PR, MR, Nat.reduceAdd, Nat.zero_add] at P
  obtain ⟨p1, p2, p3, p4, p5, p6, -⟩ := P
  by_cases hm : 0 ≤ a1 ∧ a1 < h 35 0
  · obtain ⟨m, e⟩ : ∃ t : Nat, a1 = t := ⟨a1.toNat, by omega⟩
    subst e
    obtain ⟨-, -, -, -, -, -, -, m8, -⟩ := p6 m hm.2
    have m9 := m8 0 (by omega)
    rw [Nat.add_zero, Nat.add_zero] at m9
    have e : (0 + 8 + 16 * (m : Int) + 7).toNat = 8 + 16 * m + 7 := by omega
    have e2 : ((m : Int) * 4 + 0).toNat = 4 * m := by omega
    by_cases hz : h 35 7 = 0
    · simp only [F_X11_share, F_X11_share_0, F_X11_isMachine, F_X11_isMachine_0, F_X11_granted, F_X11_granted_0, F_X11_refused, F_X11_refused_0]
      simp only [e2]
      ((try simp only [hup_s, hup_c, hup_k, ne_eq, Nat.reduceEqDiff, not_false_eq_true]); repeat' (first | (with_reducible refine ev_ck ?_ ?_; first | omega | trivial) | with_reducible refine ev_bind ?_ | (with_reducible refine ev_nx ?_; first | simp only [hup_s, hup_c, hup_k, ne_eq, Nat.reduceEqDiff, not_false_eq_true] | dsimp only | skip) | (with_reducible refine ev_some ?_; first | simp only [hup_s, hup_c, hup_k, ne_eq, Nat.reduceEqDiff, not_false_eq_true] | dsimp only | skip) | (with_reducible refine ev_it ?_ ?_; first | omega | trivial) | (with_reducible refine ev_ie ?_ ?_; first | omega | trivial) | with_reducible refine ev_if (fun _ => ?_) (fun _ => ?_)))
      all_goals simp only [F_X12_share, F_X12_share_0, F_X12_isMachine, F_X12_isMachine_0, F_X12_ofMachine, F_X12_ofMachine_0, F_X12_machineAt, F_X12_machineAt_0, F_X12_is, F_X12_is_0]
      all_goals (((try simp only [hup_s, hup_c, hup_k, ne_eq, Nat.reduceEqDiff, not_false_eq_true]); repeat' (first | (with_reducible refine ev_ck ?_ ?_; first | omega | trivial) | with_reducible refine ev_bind ?_ | (with_reducible refine ev_nx ?_; first | simp only [hup_s, hup_c, hup_k, ne_eq, Nat.reduceEqDiff, not_false_eq_true] | dsimp only | skip) | (with_reducible refine ev_some ?_; first | simp only [hup_s, hup_c, hup_k, ne_eq, Nat.reduceEqDiff, not_false_eq_true] | dsimp only | skip) | (with_reducible refine ev_it ?_ ?_; first | omega | trivial) | (with_reducible refine ev_ie ?_ ?_; first | omega | trivial) | with_reducible refine ev_if (fun _ => ?_) (fun _ => ?_))))
      all_goals (first | (exfalso; omega) | (refine ⟨?_, ?_, RR_st (by omega) r⟩ <;> first | trivial | omega))
    · obtain ⟨a, ea⟩ : ∃ t : Nat, h 44 (4 * m) = t := ⟨(h 44 (4 * m)).toNat, by omega⟩
      obtain ⟨b, eb⟩ : ∃ t : Nat, h 35 7 = t := ⟨(h 35 7).toNat, by omega⟩
      obtain ⟨p, q, hp, hq, t1, t2⟩ := tell_both (a := a) (b := b) (by omega) (by omega) (by omega)
      have e3 : h 142 (0 + 8 + 16 * (m : Int) + 7).toNat = a := by rw [e]; omega
      have e4 : h 142 2 = b := by omega
      simp only [F_X11_share, F_X11_share_0, F_X11_isMachine, F_X11_isMachine_0, F_X11_granted, F_X11_granted_0, F_X11_refused, F_X11_refused_0]
      simp only [e2]
      ((try simp only [hup_s, hup_c, hup_k, ne_eq, Nat.reduceEqDiff, not_false_eq_true]); repeat' (first | (with_reducible refine ev_ck ?_ ?_; first | omega | trivial) | with_reducible refine ev_bind ?_ | (with_reducible refine ev_nx ?_; first | simp only [hup_s, hup_c, hup_k, ne_eq, Nat.reduceEqDiff, not_false_eq_true] | dsimp only | skip) | (with_reducible refine ev_some ?_; first | simp only [hup_s, hup_c, hup_k, ne_eq, Nat.reduceEqDiff, not_false_eq_true] | dsimp only | skip) | (with_reducible refine ev_it ?_ ?_; first | omega | trivial) | (with_reducible refine ev_ie ?_ ?_; first | omega | trivial) | with_reducible refine ev_if (fun _ => ?_) (fun _ => ?_) | rw [ea, eb, t1]))
      simp only [F_X12_share, F_X12_share_0, F_X12_isMachine, F_X12_isMachine_0, F_X12_ofMachine, F_X12_ofMachine_0, F_X12_machineAt, F_X12_machineAt_0, F_X12_is, F_X12_is_0]
      ((try simp only [hup_s, hup_c, hup_k, ne_eq, Nat.reduceEqDiff, not_false_eq_true, e3, e4]); repeat' (first | (with_reducible refine ev_ck ?_ ?_; first | omega | trivial) | with_reducible refine ev_bind ?_ | (with_reducible refine ev_nx ?_; first | simp only [hup_s, hup_c, hup_k, ne_eq, Nat.reduceEqDiff, not_false_eq_true, e3, e4] | dsimp only | skip) | (with_reducible refine ev_some ?_; first | simp only [hup_s, hup_c, hup_k, ne_eq, Nat.reduceEqDiff, not_false_eq_true, e3, e4] | dsimp only | skip) | (with_reducible refine ev_it ?_ ?_; first | omega | trivial) | (with_reducible refine ev_ie ?_ ?_; first | omega | trivial) | with_reducible refine ev_if (fun _ => ?_) (fun _ => ?_) | rw [t2]))
      exact ⟨trivial, by omega, RR_tell r hp hq⟩
  · simp only [F_X11_share, F_X11_share_0, F_X11_isMachine, F_X11_isMachine_0, F_X11_granted, F_X11_granted_0, F_X11_refused, F_X11_refused_0]
    ((try simp only [hup_s, hup_c, hup_k, ne_eq, Nat.reduceEqDiff, not_false_eq_true]); repeat' (first | (with_reducible refine ev_ck ?_ ?_; first | omega | trivial) | with_reducible refine ev_bind ?_ | (with_reducible refine ev_nx ?_; first | simp only [hup_s, hup_c, hup_k, ne_eq, Nat.reduceEqDiff, not_false_eq_true] | dsimp only | skip) | (with_reducible refine ev_some ?_; first | simp only [hup_s, hup_c, hup_k, ne_eq, Nat.reduceEqDiff, not_false_eq_true] | dsimp only | skip) | (with_reducible refine ev_it ?_ ?_; first | omega | trivial) | (with_reducible refine ev_ie ?_ ?_; first | omega | trivial) | with_reducible refine ev_if (fun _ => ?_) (fun _ => ?_)))
    all_goals simp only [F_X12_share, F_X12_share_0, F_X12_isMachine, F_X12_isMachine_0, F_X12_ofMachine, F_X12_ofMachine_0, F_X12_machineAt, F_X12_machineAt_0, F_X12_is, F_X12_is_0]
    all_goals (((try simp only [hup_s, hup_c, hup_k, ne_eq, Nat.reduceEqDiff, not_false_eq_true]); repeat' (first | (with_reducible refine ev_ck ?_ ?_; first | omega | trivial) | with_reducible refine ev_bind ?_ | (with_reducible refine ev_nx ?_; first | simp only [hup_s, hup_c, hup_k, ne_eq, Nat.reduceEqDiff, not_false_eq_true] | dsimp only | skip) | (with_reducible refine ev_some ?_; first | simp only [hup_s, hup_c, hup_k, ne_eq, Nat.reduceEqDiff, not_false_eq_true] | dsimp only | skip) | (with_reducible refine ev_it ?_ ?_; first | omega | trivial) | (with_reducible refine ev_ie ?_ ?_; first | omega | trivial) | with_reducible refine ev_if (fun _ => ?_) (fun _ => ?_))))
    all_goals (first | (exfalso; omega) | (refine ⟨?_, ?_, RR_st (by omega) r⟩ <;> first | trivial | omega))
