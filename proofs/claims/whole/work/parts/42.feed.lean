/-! ===== feed ===== -/
def T3 (h g : MH) (p : Nat) : Prop := h 8 1 = (p : Int) ∧ g 141 9 = (p : Int) ∧ ∀ k, k < p → (-128 ≤ h 9 k ∧ h 9 k ≤ 127) ∧ g 146 k = h 9 k
def fr8 (p : Nat) (h h' : MH) : Prop := ∀ c k, ¬ (c = 8 ∧ k = 1) → ¬ (c = 9 ∧ p ≤ k) → h' c k = h c k
def fr12 (p : Nat) (h h' : MH) : Prop := ∀ c k, ¬ (c = 141 ∧ k = 9) → ¬ (c = 146 ∧ p ≤ k) → h' c k = h c k
theorem w8_two (x : Int) : -128 ≤ w8 (w8 x) ∧ w8 (w8 x) ≤ 127 := by unfold w8; constructor <;> omega
theorem lay_l {x : Int} : ∀ (d f f' p : Nat) (h : MH), h 8 1 = (p : Int) → p + d ≤ 700 → d ≤ 4 → d < f → d < f' →
    ∃ h' : MH, F_X8_lay_3 f x (8 * (d : Int) - 8) h = some h' ∧ fr8 p h h' ∧ h' 8 1 = ((p + d : Nat) : Int) ∧ ∀ g, T3 h g p → ∃ g', F_X12_four_3 f' x (8 * (d : Int) - 8) g = some g' ∧ fr12 p g g' ∧ T3 h' g' (p + d) := by
  intro d
  induction d with
  | zero =>
    intro f f' p h hp h7 h4 hf hf'
    obtain ⟨f, rfl⟩ : ∃ g, f = g + 1 := ⟨f - 1, by omega⟩
    obtain ⟨f', rfl⟩ : ∃ g, f' = g + 1 := ⟨f' - 1, by omega⟩
    refine ⟨h, ?_, fun _ _ _ _ => rfl, hp, fun g hg => ⟨g, ?_, fun _ _ _ _ => rfl, hg⟩⟩
    · rw [F_X8_lay_3]
      unfold ck
      rw [if_pos (by omega), if_pos (by omega)]
    · rw [F_X12_four_3]
      unfold ck
      rw [if_pos (by omega), if_pos (by omega)]
  | succ d ih =>
    intro f f' p h hp h7 h4 hf hf'
    obtain ⟨f, rfl⟩ : ∃ g, f = g + 1 := ⟨f - 1, by omega⟩
    obtain ⟨f', rfl⟩ : ∃ g, f' = g + 1 := ⟨f' - 1, by omega⟩
    have ex : 8 * ((d + 1 : Nat) : Int) - 8 + (-8) = 8 * (d : Int) - 8 := by omega
    have ep : (h 8 1).toNat = p := by omega
    generalize hb : w8 (w8 (shr32 x (8 * ((d + 1 : Nat) : Int) - 8))) = b
    have hbb : -128 ≤ b ∧ b ≤ 127 := by rw [← hb]; exact w8_two _
    have k8 : hup (hup h 9 p b) 8 1 (h 8 1 + 1) 8 1 = ((p + 1 : Nat) : Int) := by rw [hup_s]; omega
    obtain ⟨h', w1, w2, w3, w4⟩ := ih f f' (p + 1) (hup (hup h 9 p b) 8 1 (h 8 1 + 1)) k8 (by omega) (by omega) (by omega) (by omega)
    refine ⟨h', ?_, fun c k c1 c2 => ?_, by rw [w3]; omega, fun g hg => ?_⟩
    · rw [F_X8_lay_3]
      unfold F_X8_lay_40 ck
      rw [if_pos (by omega), if_neg (by omega), if_pos (by omega), if_neg (by omega), if_pos (by omega), nx_eq, nx_eq, hb, ep, ex, hup_c _ _ _ _ _ _ (show 8 ≠ 9 by decide)]
      exact w1
    · rw [w2 c k c1 (by omega), hup_n _ _ _ _ _ _ (by omega), hup_n _ _ _ _ _ _ (by omega)]
    · obtain ⟨g1, g2, g3⟩ := hg
      have eq : (g 141 9).toNat = p := by omega
      have T : T3 (hup (hup h 9 p b) 8 1 (h 8 1 + 1)) (hup (hup g 146 p b) 141 9 (g 141 9 + 1)) (p + 1) := by
        refine ⟨k8, by rw [hup_s]; omega, fun k hk => ?_⟩
        by_cases ek : k = p
        · subst ek
          simp (disch := omega) only [hup_n, hup_s]
          exact ⟨hbb, trivial⟩
        · simp (disch := omega) only [hup_n]
          exact g3 k (by omega)
      obtain ⟨g', v1, v2, v3⟩ := w4 _ T
      refine ⟨g', ?_, fun c k c1 c2 => ?_, by rw [show p + (d + 1) = p + 1 + d by omega]; exact v3⟩
      · rw [F_X12_four_3]
        unfold ck
        rw [if_pos (by omega), if_neg (by omega), if_pos (by omega), nx_eq, nx_eq, hb, eq, ex, hup_c _ _ _ _ _ _ (show 141 ≠ 146 by decide)]
        exact v1
      · rw [v2 c k c1 (by omega), hup_n _ _ _ _ _ _ (by omega), hup_n _ _ _ _ _ _ (by omega)]
theorem lay_b {x : Int} {p : Nat} {h : MH} (hp : h 8 1 = (p : Int)) (h7 : p + 4 ≤ 700) :
    ∃ h' : MH, F_X8_lay x h = some h' ∧ fr8 p h h' ∧ h' 8 1 = ((p + 4 : Nat) : Int) ∧ ∀ g, T3 h g p → ∃ g', F_X12_four x g = some g' ∧ fr12 p g g' ∧ T3 h' g' (p + 4) :=
  lay_l (x := x) 4 20000 20000 p h hp h7 (by omega) (by omega) (by omega)
theorem o_feed : Ob_feed RR := by
  intro n h a1 a2 a3 a4 a5 hn r i1 i2 i3 i4 i5
  refine ob_ev ?_
  have r3 := r.2.2.1
  obtain ⟨p1, p2, p3, p4⟩ := r3
  obtain ⟨p, ep⟩ : ∃ p : Nat, h 8 1 = p := ⟨(h 8 1).toNat, by omega⟩
  by_cases c : h 8 1 ≤ 680
  · obtain ⟨h1, x1, f1, b1, k1⟩ := lay_b (x := a1) (h := h) ep (by omega)
    obtain ⟨h2, x2, f2, b2, k2⟩ := lay_b (x := a2) (h := h1) b1 (by omega)
    obtain ⟨h3, x3, f3, b3, k3⟩ := lay_b (x := a3) (h := h2) b2 (by omega)
    obtain ⟨h4, x4, f4, b4, k4⟩ := lay_b (x := a4) (h := h3) b3 (by omega)
    obtain ⟨h5, x5, f5, b5, k5⟩ := lay_b (x := a5) (h := h4) b4 (by omega)
    have F : fr8 p h h5 := fun c k c1 c2 => by rw [f5 c k c1 (by omega), f4 c k c1 (by omega), f3 c k c1 (by omega), f2 c k c1 (by omega), f1 c k c1 c2]
    have T0 : T3 h h5 p := ⟨ep, by rw [F 141 9 (by omega) (by omega)]; omega, fun k hk => by rw [F 146 k (by omega) (by omega)]; exact p4 k (by omega)⟩
    obtain ⟨g1, y1, e1, t1⟩ := k1 h5 T0
    obtain ⟨g2, y2, e2, t2⟩ := k2 g1 t1
    obtain ⟨g3, y3, e3, t3⟩ := k3 g2 t2
    obtain ⟨g4, y4, e4, t4⟩ := k4 g3 t3
    obtain ⟨g5, y5, e5, t5⟩ := k5 g4 t4
    have G : fr12 p h5 g5 := fun c k c1 c2 => by rw [e5 c k c1 (by omega), e4 c k c1 (by omega), e3 c k c1 (by omega), e2 c k c1 (by omega), e1 c k c1 c2]
    have G9 : h5 141 9 = h 8 1 := by rw [F 141 9 (by omega) (by omega)]; exact p1.2.2
    obtain ⟨t51, t52, t53⟩ := t5
    unfold F_X11_feed F_X11_feed_0
    ((try simp only [hup_s, hup_c, hup_k, ne_eq, Nat.reduceEqDiff, not_false_eq_true]); repeat' (first | (with_reducible refine ev_ck ?_ ?_; first | omega | trivial) | with_reducible refine ev_bind ?_ | (with_reducible refine ev_nx ?_; first | simp only [hup_s, hup_c, hup_k, ne_eq, Nat.reduceEqDiff, not_false_eq_true] | dsimp only | skip) | (with_reducible refine ev_some ?_; first | simp only [hup_s, hup_c, hup_k, ne_eq, Nat.reduceEqDiff, not_false_eq_true] | dsimp only | skip) | (with_reducible refine ev_it ?_ ?_; first | omega | trivial) | (with_reducible refine ev_ie ?_ ?_; first | omega | trivial) | with_reducible refine ev_if (fun _ => ?_) (fun _ => ?_) | rw [x1] | rw [x2] | rw [x3] | rw [x4] | rw [x5]))
    unfold F_X12_feed F_X12_feed_0
    ((try simp only [hup_s, hup_c, hup_k, ne_eq, Nat.reduceEqDiff, not_false_eq_true]); repeat' (first | (with_reducible refine ev_ck ?_ ?_; first | omega | trivial) | with_reducible refine ev_bind ?_ | (with_reducible refine ev_nx ?_; first | simp only [hup_s, hup_c, hup_k, ne_eq, Nat.reduceEqDiff, not_false_eq_true] | dsimp only | skip) | (with_reducible refine ev_some ?_; first | simp only [hup_s, hup_c, hup_k, ne_eq, Nat.reduceEqDiff, not_false_eq_true] | dsimp only | skip) | (with_reducible refine ev_it ?_ ?_; first | omega | trivial) | (with_reducible refine ev_ie ?_ ?_; first | omega | trivial) | with_reducible refine ev_if (fun _ => ?_) (fun _ => ?_) | rw [y1] | rw [y2] | rw [y3] | rw [y4] | rw [y5]))
    refine ⟨by omega, by omega, RR_mono _ _ (RR_3 (h := h) ?_ ?_ ?_ r)⟩
    · intro c k q
      obtain ⟨q1, q2⟩ := q
      unfold Z3 at q2
      rw [G c k (by omega) (by omega), F c k (by omega) (by omega)]
    · refine R1_f (h := h) (fun c k q => ?_) r.1
      unfold Z1 at q
      rw [G c k (by omega) (by omega), F c k (by omega) (by omega)]
    · refine ⟨⟨?_, ?_, ?_⟩, ⟨?_, ?_⟩, ⟨?_, ?_⟩, fun k hk => ?_⟩
      · rw [G 8 1 (by omega) (by omega)]; omega
      · rw [G 8 1 (by omega) (by omega)]; omega
      · rw [G 8 1 (by omega) (by omega)]; omega
      · rw [G 8 9 (by omega) (by omega), F 8 9 (by omega) (by omega)]; exact p2.1
      · rw [G 8 9 (by omega) (by omega), F 8 9 (by omega) (by omega), G 141 15 (by omega) (by omega), F 141 15 (by omega) (by omega)]; exact p2.2
      · rw [G 8 10 (by omega) (by omega), F 8 10 (by omega) (by omega)]; exact p3.1
      · rw [G 8 10 (by omega) (by omega), F 8 10 (by omega) (by omega), G 141 16 (by omega) (by omega), F 141 16 (by omega) (by omega)]; exact p3.2
      · rw [G 8 1 (by omega) (by omega)] at hk
        rw [G 9 k (by omega) (by omega)]
        exact t53 k (by omega)
  · unfold F_X11_feed F_X11_feed_0
    ((try simp only [hup_s, hup_c, hup_k, ne_eq, Nat.reduceEqDiff, not_false_eq_true]); repeat' (first | (with_reducible refine ev_ck ?_ ?_; first | omega | trivial) | with_reducible refine ev_bind ?_ | (with_reducible refine ev_nx ?_; first | simp only [hup_s, hup_c, hup_k, ne_eq, Nat.reduceEqDiff, not_false_eq_true] | dsimp only | skip) | (with_reducible refine ev_some ?_; first | simp only [hup_s, hup_c, hup_k, ne_eq, Nat.reduceEqDiff, not_false_eq_true] | dsimp only | skip) | (with_reducible refine ev_it ?_ ?_; first | omega | trivial) | (with_reducible refine ev_ie ?_ ?_; first | omega | trivial) | with_reducible refine ev_if (fun _ => ?_) (fun _ => ?_)))
    unfold F_X12_feed F_X12_feed_0
    ((try simp only [hup_s, hup_c, hup_k, ne_eq, Nat.reduceEqDiff, not_false_eq_true]); repeat' (first | (with_reducible refine ev_ck ?_ ?_; first | omega | trivial) | with_reducible refine ev_bind ?_ | (with_reducible refine ev_nx ?_; first | simp only [hup_s, hup_c, hup_k, ne_eq, Nat.reduceEqDiff, not_false_eq_true] | dsimp only | skip) | (with_reducible refine ev_some ?_; first | simp only [hup_s, hup_c, hup_k, ne_eq, Nat.reduceEqDiff, not_false_eq_true] | dsimp only | skip) | (with_reducible refine ev_it ?_ ?_; first | omega | trivial) | (with_reducible refine ev_ie ?_ ?_; first | omega | trivial) | with_reducible refine ev_if (fun _ => ?_) (fun _ => ?_)))
    exact ⟨trivial, by omega, RR_mono _ _ r⟩
