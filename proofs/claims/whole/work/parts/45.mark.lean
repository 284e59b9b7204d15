/-! ===== mark and back ===== -/
theorem copies_l {a b : Nat} {g : MH} (ha : a + 440 ≤ 2640) (hb : b + 440 ≤ 2640) (hd : a + 440 ≤ b ∨ b + 440 ≤ a) : ∀ (d f j : Nat), j + d = 440 → d < f →
    F_X12_copies_2 f (a : Int) (b : Int) (j : Int) (hcp g 142 a 142 b j) = some (hcp g 142 a 142 b 440) := by
  intro d
  induction d with
  | zero =>
    intro f j e hf
    obtain ⟨f, rfl⟩ : ∃ g, f = g + 1 := ⟨f - 1, by omega⟩
    have : j = 440 := by omega
    subst this
    rw [F_X12_copies_2]
    unfold ck
    rw [if_pos (by omega), if_pos (by omega)]
  | succ d ih =>
    intro f j e hf
    obtain ⟨f, rfl⟩ : ∃ g, f = g + 1 := ⟨f - 1, by omega⟩
    have hx : ((a : Int) + (j : Int)).toNat = a + j := by omega
    have hy : ((b : Int) + (j : Int)).toNat = b + j := by omega
    rw [F_X12_copies_2]
    unfold ck
    rw [if_pos (by omega), if_neg (by omega), if_pos (by omega), if_pos (by omega), nx_eq, hx, hy, hcp_up (by omega)]
    exact ih f (j + 1) (by omega) (by omega)
theorem copies_eq {a b : Nat} {g : MH} (ha : a + 440 ≤ 2640) (hb : b + 440 ≤ 2640) (hd : a + 440 ≤ b ∨ b + 440 ≤ a) : F_X12_copies (a : Int) (b : Int) g = some (hcp g 142 a 142 b 440) := by
  have q := copies_l (g := g) ha hb hd 440 20000 0 (by omega) (by omega)
  rw [hcp_0, show ((0 : Nat) : Int) = 0 from rfl] at q
  exact q
theorem plan_copy {p p' : Nat} {h : MH} (hd : p' + 14 < p ∨ p + 14 < p') : ∃ g, F_X5_copy p' p h = some g ∧ (∀ d k, plim d k → g (p' + d) k = h (p + d) k) ∧ ∀ c k, ¬ (p' ≤ c ∧ c ≤ p' + 14) → g c k = h c k := by
  unfold F_X5_copy F_X5_copy_0 F_X1_copy F_X1_copy_0
  simp only [nx_eq, bind_eq]
  refine ⟨_, rfl, fun d k hl => ?_, fun c k hc => ?_⟩
  · unfold plim at hl
    rcases hl with ⟨rfl, rfl⟩ | ⟨rfl, rfl | rfl | rfl | rfl⟩ | ⟨l1, l2, l3⟩ | ⟨rfl, l3⟩ | ⟨rfl, l3⟩ | ⟨rfl | rfl, l3⟩ | ⟨rfl, l3⟩
    · simp (disch := omega) only [hup_n, hup_s, hcp_n, Nat.add_zero]
    · simp (disch := omega) only [hup_n, hup_s, hcp_n]
    · simp (disch := omega) only [hup_n, hup_s, hcp_n]
    · simp (disch := omega) only [hup_n, hup_s, hcp_n]
    · simp (disch := omega) only [hup_n, hup_s, hcp_n]
    · have e : d = 2 ∨ d = 3 ∨ d = 4 ∨ d = 5 ∨ d = 6 ∨ d = 7 ∨ d = 8 ∨ d = 9 := by omega
      rcases e with rfl | rfl | rfl | rfl | rfl | rfl | rfl | rfl <;> simp (disch := omega) only [hup_n, hcp_n, hcp_y, Nat.sub_zero, Nat.zero_add, Nat.add_assoc, Nat.reduceAdd]
    all_goals simp (disch := omega) only [hup_n, hcp_n, hcp_y, Nat.sub_zero, Nat.zero_add, Nat.add_assoc, Nat.reduceAdd]
  · simp (disch := omega) only [hup_n, hcp_n]
theorem script_copy {q q' : Nat} {h : MH} (hd : q' + 4 < q ∨ q + 4 < q') : ∃ g, F_X6_copy q' q h = some g ∧ g q' 0 = h q 0 ∧ (∀ d k, 1 ≤ d → d ≤ 4 → k < 30 → g (q' + d) k = h (q + d) k) ∧ ∀ c k, ¬ (q' ≤ c ∧ c ≤ q' + 4) → g c k = h c k := by
  unfold F_X6_copy F_X6_copy_0
  simp only [nx_eq]
  refine ⟨_, rfl, ?_, fun d k l1 l2 l3 => ?_, fun c k hc => ?_⟩
  · simp (disch := omega) only [hup_n, hup_s, hcp_n]
  · have e : d = 1 ∨ d = 2 ∨ d = 3 ∨ d = 4 := by omega
    rcases e with rfl | rfl | rfl | rfl <;> simp (disch := omega) only [hup_n, hcp_n, hcp_y, Nat.sub_zero, Nat.zero_add]
  · simp (disch := omega) only [hup_n, hcp_n]
theorem o_mark : Ob_mark RR := by
  intro n h hn r
  refine ob_ev ?_
  have r6 := r.2.2.2.2.2.1
  obtain ⟨p1, p2⟩ := r6
  by_cases c : h 0 13 < 3
  · obtain ⟨j, ej⟩ : ∃ j : Nat, h 0 13 = j := ⟨(h 0 13).toNat, by omega⟩
    obtain ⟨g1, x1, x2, x3⟩ := plan_copy (p := 34) (p' := 81 + 20 * j) (h := h) (by omega)
    obtain ⟨g2, y1, y2, y3, y4⟩ := script_copy (q := 49) (q' := 96 + 20 * j) (h := g1) (by omega)
    have z1 : g1 0 13 = j := by rw [x3 _ _ (by omega)]; exact ej
    have z2 : g2 0 13 = j := by rw [y4 _ _ (by omega)]; exact z1
    have z3 : g2 141 50 = j := by rw [y4 _ _ (by omega), x3 _ _ (by omega)]; omega
    have cp := copies_eq (a := 0) (b := 440 * (j + 1)) (g := hup (hup (hup g2 0 13 ((j : Int) + 1)) 0 0 0) 141 50 ((j : Int) + 1)) (by omega) (by omega) (by omega)
    rw [show ((0 : Nat) : Int) = 0 from rfl, show ((440 * (j + 1) : Nat) : Int) = 440 * ((j : Int) + 1) by omega] at cp
    have cq : hcp (hup (hup (hup g2 0 13 ((j : Int) + 1)) 0 0 0) 141 50 ((j : Int) + 1)) 142 0 142 (440 * (j + 1)) 440 141 50 = (j : Int) + 1 := by
      rw [hcp_c _ _ _ _ _ _ _ _ (by decide), hup_s]
    simp only [F_X11_mark, F_X11_mark_0, F_X11_answer, F_X11_answer_0, F_X11_none, F_X11_none_0]
    simp only [ej, Int.toNat_natCast]
    ((try simp only [hup_s, hup_c, hup_k, ne_eq, Nat.reduceEqDiff, not_false_eq_true, z1, z2, Int.toNat_natCast]); repeat' (first | (with_reducible refine ev_ck ?_ ?_; first | omega | trivial) | with_reducible refine ev_bind ?_ | (with_reducible refine ev_nx ?_; first | simp only [hup_s, hup_c, hup_k, ne_eq, Nat.reduceEqDiff, not_false_eq_true, z1, z2, Int.toNat_natCast] | dsimp only | skip) | (with_reducible refine ev_some ?_; first | simp only [hup_s, hup_c, hup_k, ne_eq, Nat.reduceEqDiff, not_false_eq_true, z1, z2, Int.toNat_natCast] | dsimp only | skip) | (with_reducible refine ev_it ?_ ?_; first | omega | trivial) | (with_reducible refine ev_ie ?_ ?_; first | omega | trivial) | with_reducible refine ev_if (fun _ => ?_) (fun _ => ?_) | rw [x1] | rw [y1]))
    simp only [F_X12_mark, F_X12_mark_0, F_X12_gives, F_X12_gives_0, F_X12_refuse, F_X12_refuse_0]
    ((try simp only [hup_s, hup_c, hup_k, ne_eq, Nat.reduceEqDiff, not_false_eq_true, z3, cq]); repeat' (first | (with_reducible refine ev_ck ?_ ?_; first | omega | trivial) | with_reducible refine ev_bind ?_ | (with_reducible refine ev_nx ?_; first | simp only [hup_s, hup_c, hup_k, ne_eq, Nat.reduceEqDiff, not_false_eq_true, z3, cq] | dsimp only | skip) | (with_reducible refine ev_some ?_; first | simp only [hup_s, hup_c, hup_k, ne_eq, Nat.reduceEqDiff, not_false_eq_true, z3, cq] | dsimp only | skip) | (with_reducible refine ev_it ?_ ?_; first | omega | trivial) | (with_reducible refine ev_ie ?_ ?_; first | omega | trivial) | with_reducible refine ev_if (fun _ => ?_) (fun _ => ?_) | rw [cp]))
    have G : ∀ c k, ¬ (81 + 20 * j ≤ c ∧ c ≤ 100 + 20 * j) → ¬ (c = 0 ∧ (k = 0 ∨ k = 13)) → ¬ (c = 141 ∧ (k = 1 ∨ k = 50)) → ¬ (c = 142 ∧ 440 * (j + 1) ≤ k ∧ k < 440 * (j + 1) + 440) → hup (hcp (hup (hup (hup g2 0 13 ((j : Int) + 1)) 0 0 0) 141 50 ((j : Int) + 1)) 142 0 142 (440 * (j + 1)) 440) 141 1 0 c k = h c k := by
      intro c k c1 c2 c3 c4
      rw [hup_n _ _ _ _ _ _ (by omega), hcp_n _ _ _ _ _ _ _ _ (by omega), hup_n _ _ _ _ _ _ (by omega), hup_n _ _ _ _ _ _ (by omega), hup_n _ _ _ _ _ _ (by omega), y4 _ _ (by omega), x3 _ _ (by omega)]
    have G1 : ∀ c k, 81 ≤ c → c ≤ 140 → hup (hcp (hup (hup (hup g2 0 13 ((j : Int) + 1)) 0 0 0) 141 50 ((j : Int) + 1)) 142 0 142 (440 * (j + 1)) 440) 141 1 0 c k = g2 c k := by
      intro c k c1 c2
      rw [hup_n _ _ _ _ _ _ (by omega), hcp_n _ _ _ _ _ _ _ _ (by omega), hup_n _ _ _ _ _ _ (by omega), hup_n _ _ _ _ _ _ (by omega), hup_n _ _ _ _ _ _ (by omega)]
    have G2 : ∀ k, k < 440 → hup (hcp (hup (hup (hup g2 0 13 ((j : Int) + 1)) 0 0 0) 141 50 ((j : Int) + 1)) 142 0 142 (440 * (j + 1)) 440) 141 1 0 142 (440 * (j + 1) + k) = h 142 (0 + k) := by
      intro k hk
      rw [hup_n _ _ _ _ _ _ (by omega), hcp_y _ _ _ _ _ _ _ _ (by omega), hup_n _ _ _ _ _ _ (by omega), hup_n _ _ _ _ _ _ (by omega), hup_n _ _ _ _ _ _ (by omega), y4 _ _ (by omega), x3 _ _ (by omega), show 440 * (j + 1) + k - 440 * (j + 1) = k by omega]
    have A1 : hup (hcp (hup (hup (hup g2 0 13 ((j : Int) + 1)) 0 0 0) 141 50 ((j : Int) + 1)) 142 0 142 (440 * (j + 1)) 440) 141 1 0 0 0 = 0 := by
      rw [hup_n _ _ _ _ _ _ (by omega), hcp_n _ _ _ _ _ _ _ _ (by omega), hup_n _ _ _ _ _ _ (by omega), hup_s]
    have A2 : hup (hcp (hup (hup (hup g2 0 13 ((j : Int) + 1)) 0 0 0) 141 50 ((j : Int) + 1)) 142 0 142 (440 * (j + 1)) 440) 141 1 0 0 13 = (j : Int) + 1 := by
      rw [hup_n _ _ _ _ _ _ (by omega), hcp_n _ _ _ _ _ _ _ _ (by omega), hup_n _ _ _ _ _ _ (by omega), hup_n _ _ _ _ _ _ (by omega), hup_s]
    have A3 : hup (hcp (hup (hup (hup g2 0 13 ((j : Int) + 1)) 0 0 0) 141 50 ((j : Int) + 1)) 142 0 142 (440 * (j + 1)) 440) 141 1 0 141 50 = (j : Int) + 1 := by
      rw [hup_n _ _ _ _ _ _ (by omega), hcp_n _ _ _ _ _ _ _ _ (by omega), hup_s]
    have A4 : hup (hcp (hup (hup (hup g2 0 13 ((j : Int) + 1)) 0 0 0) 141 50 ((j : Int) + 1)) 142 0 142 (440 * (j + 1)) 440) 141 1 0 141 1 = 0 := by
      rw [hup_s]
    generalize hup (hcp (hup (hup (hup g2 0 13 ((j : Int) + 1)) 0 0 0) 141 50 ((j : Int) + 1)) 142 0 142 (440 * (j + 1)) 440) 141 1 0 = g at *
    refine ⟨by first | trivial | omega, by omega, RR_mono _ _ (RR_6 (h := h) ?_ ?_ ?_ r)⟩
    · intro c k q
      obtain ⟨q1, q2⟩ := q
      have q3 : ¬ (c = 0 ∧ k = 0) ∧ ¬ (c = 141 ∧ k = 1) := by
        unfold Zall Z2 Z3 Zp Zs Z6 Z7 Z8 Z9 Z10 Z11 Z12 at q1
        omega
      unfold Z6 at q2
      exact G c k (by omega) (by omega) (by omega) (by omega)
    · obtain ⟨⟨-, s2, s3⟩, -⟩ := r
      unfold R1
      rw [A1, A4, G 0 1 (by omega) (by omega) (by omega) (by omega), G 0 2 (by omega) (by omega) (by omega) (by omega), G 141 2 (by omega) (by omega) (by omega) (by omega), G 141 3 (by omega) (by omega) (by omega) (by omega)]
      exact ⟨⟨by omega, by omega, rfl⟩, s2, s3⟩
    · unfold R6
      rw [A2, A3]
      refine ⟨⟨by omega, by omega, rfl⟩, fun i hi => ?_⟩
      by_cases ei : i = j
      · subst ei
        refine ⟨PR_move (p := 34) (b := 0) (h := h) (fun d k hl => ?_) (fun k hk _ => G2 k (by omega)) r.2.2.2.1, SR_move (q := 49) (b := 0) (h := h) ?_ (fun d k d1 d2 hk => ?_) G2 r.2.2.2.2.1⟩
        · have hd : d ≤ 14 := by unfold plim at hl; omega
          rw [G1 _ _ (by omega) (by omega), y4 _ _ (by omega), x2 d k hl]
        · rw [G1 _ _ (by omega) (by omega), y2, x3 _ _ (by omega)]
        · rw [G1 _ _ (by omega) (by omega), y3 d k d1 d2 hk, x3 _ _ (by omega)]
      · obtain ⟨s1, s2⟩ := p2 i (by omega)
        refine ⟨PR_f (h := h) (fun c k q => ?_) s1, SR_f (h := h) (fun c k q => ?_) s2⟩
        · unfold Zp at q
          exact G c k (by omega) (by omega) (by omega) (by omega)
        · unfold Zs at q
          exact G c k (by omega) (by omega) (by omega) (by omega)
  · simp only [F_X11_mark, F_X11_mark_0, F_X11_answer, F_X11_answer_0, F_X11_none, F_X11_none_0]
    ((try simp only [hup_s, hup_c, hup_k, ne_eq, Nat.reduceEqDiff, not_false_eq_true]); repeat' (first | (with_reducible refine ev_ck ?_ ?_; first | omega | trivial) | with_reducible refine ev_bind ?_ | (with_reducible refine ev_nx ?_; first | simp only [hup_s, hup_c, hup_k, ne_eq, Nat.reduceEqDiff, not_false_eq_true] | dsimp only | skip) | (with_reducible refine ev_some ?_; first | simp only [hup_s, hup_c, hup_k, ne_eq, Nat.reduceEqDiff, not_false_eq_true] | dsimp only | skip) | (with_reducible refine ev_it ?_ ?_; first | omega | trivial) | (with_reducible refine ev_ie ?_ ?_; first | omega | trivial) | with_reducible refine ev_if (fun _ => ?_) (fun _ => ?_)))
    simp only [F_X12_mark, F_X12_mark_0, F_X12_gives, F_X12_gives_0, F_X12_refuse, F_X12_refuse_0]
    ((try simp only [hup_s, hup_c, hup_k, ne_eq, Nat.reduceEqDiff, not_false_eq_true]); repeat' (first | (with_reducible refine ev_ck ?_ ?_; first | omega | trivial) | with_reducible refine ev_bind ?_ | (with_reducible refine ev_nx ?_; first | simp only [hup_s, hup_c, hup_k, ne_eq, Nat.reduceEqDiff, not_false_eq_true] | dsimp only | skip) | (with_reducible refine ev_some ?_; first | simp only [hup_s, hup_c, hup_k, ne_eq, Nat.reduceEqDiff, not_false_eq_true] | dsimp only | skip) | (with_reducible refine ev_it ?_ ?_; first | omega | trivial) | (with_reducible refine ev_ie ?_ ?_; first | omega | trivial) | with_reducible refine ev_if (fun _ => ?_) (fun _ => ?_)))
    (first | (exfalso; omega) | (refine ⟨?_, ?_, RR_st (by omega) r⟩ <;> first | trivial | omega))
