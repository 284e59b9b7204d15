theorem j6 {S : Nat} (hS : S < 128) (h : MH) : F_J6_bitCount_0f7a4 (S : Int) h = some ((pc S : Int), h) := by
  have z := st_j6 S hS
  unfold F_J6_bitCount_0f7a4 F_J6_bitCount_0f7a4_0 at z ⊢
  simp only [nx_eq, Option.map_some] at z ⊢
  rw [Option.some.inj z]
theorem o_order : Ob_order RR := by
  intro n0 h a1 a2 hn0 r i1 i2
  refine ob_ev ?_
  obtain ⟨F, X⟩ := PR_FR.mp r.2.2.2.1
  obtain ⟨X1, X2, X3⟩ := X
  simp only [Nat.zero_add] at X1 X3
  obtain ⟨n, en⟩ : ∃ n : Nat, h 34 4 = (n : Int) := ⟨(h 34 4).toNat, by omega⟩
  have sh := st_sh n (by omega)
  have p128 : 2 ^ n ≤ 128 := by
    have : 2 ^ n ≤ 2 ^ 7 := Nat.pow_le_pow_right (by omega) (by omega)
    omega
  have p1 : 1 ≤ 2 ^ n := Nat.one_le_two_pow
  have e1 : ∀ v : Int, hup h 0 0 v 142 1 = (n : Int) := fun v => by rw [hup_n _ _ _ _ _ _ (by omega)]; omega
  by_cases c : 0 ≤ a1 ∧ a1 < ((2 ^ n : Nat) : Int) ∧ 0 ≤ a2 ∧ a2 < (n : Int)
  rotate_left
  · simp only [F_X11_order, F_X11_order_0, F_X11_outside, F_X11_outside_0, F_X11_order_37, F_X11_none, F_X11_none_0, F_X11_isSort, F_X11_isSort_0, F_X11_answer, F_X11_answer_0]
    simp only [en, sh]
    ((try simp only [hup_s, hup_c, hup_k, ne_eq, Nat.reduceEqDiff, not_false_eq_true]); repeat' (first | (with_reducible refine ev_ck ?_ ?_; first | omega | trivial) | with_reducible refine ev_bind ?_ | (with_reducible refine ev_nx ?_; first | simp only [hup_s, hup_c, hup_k, ne_eq, Nat.reduceEqDiff, not_false_eq_true] | dsimp only | skip) | (with_reducible refine ev_some ?_; first | simp only [hup_s, hup_c, hup_k, ne_eq, Nat.reduceEqDiff, not_false_eq_true] | dsimp only | skip) | (with_reducible refine ev_it ?_ ?_; first | omega | trivial) | (with_reducible refine ev_ie ?_ ?_; first | omega | trivial) | with_reducible refine ev_if (fun _ => ?_) (fun _ => ?_)))
    all_goals (try (exfalso; omega))
    all_goals simp only [F_X12_order, F_X12_order_0, F_X12_order_33, F_X12_refuse, F_X12_refuse_0, F_X12_isSort, F_X12_isSort_0]
    all_goals simp only [e1, sh]
    all_goals ((try simp only [hup_s, hup_c, hup_k, ne_eq, Nat.reduceEqDiff, not_false_eq_true]); repeat' (first | (with_reducible refine ev_ck ?_ ?_; first | omega | trivial) | with_reducible refine ev_bind ?_ | (with_reducible refine ev_nx ?_; first | simp only [hup_s, hup_c, hup_k, ne_eq, Nat.reduceEqDiff, not_false_eq_true] | dsimp only | skip) | (with_reducible refine ev_some ?_; first | simp only [hup_s, hup_c, hup_k, ne_eq, Nat.reduceEqDiff, not_false_eq_true] | dsimp only | skip) | (with_reducible refine ev_it ?_ ?_; first | omega | trivial) | (with_reducible refine ev_ie ?_ ?_; first | omega | trivial) | with_reducible refine ev_if (fun _ => ?_) (fun _ => ?_)))
    all_goals (try (exfalso; omega))
    all_goals (first | (exfalso; omega) | (refine ⟨?_, ?_, RR_st (by omega) r⟩ <;> first | trivial | omega))
  obtain ⟨S, eS⟩ : ∃ S : Nat, a1 = (S : Int) := ⟨a1.toNat, by omega⟩
  obtain ⟨a, ea⟩ : ∃ a : Nat, a2 = (a : Int) := ⟨a2.toNat, by omega⟩
  subst eS ea
  have bk := st_bit S (by omega) a (by omega)
  by_cases q : bt S a = true
  rotate_left
  · rw [if_neg q] at bk
    simp only [F_X11_order, F_X11_order_0, F_X11_outside, F_X11_outside_0, F_X11_order_37, F_X11_none, F_X11_none_0, F_X11_isSort, F_X11_isSort_0, F_X11_answer, F_X11_answer_0]
    simp only [en, sh, bk]
    ((try simp only [hup_s, hup_c, hup_k, ne_eq, Nat.reduceEqDiff, not_false_eq_true]); repeat' (first | (with_reducible refine ev_ck ?_ ?_; first | omega | trivial) | with_reducible refine ev_bind ?_ | (with_reducible refine ev_nx ?_; first | simp only [hup_s, hup_c, hup_k, ne_eq, Nat.reduceEqDiff, not_false_eq_true] | dsimp only | skip) | (with_reducible refine ev_some ?_; first | simp only [hup_s, hup_c, hup_k, ne_eq, Nat.reduceEqDiff, not_false_eq_true] | dsimp only | skip) | (with_reducible refine ev_it ?_ ?_; first | omega | trivial) | (with_reducible refine ev_ie ?_ ?_; first | omega | trivial) | with_reducible refine ev_if (fun _ => ?_) (fun _ => ?_)))
    all_goals (try (exfalso; omega))
    all_goals simp only [F_X12_order, F_X12_order_0, F_X12_order_33, F_X12_refuse, F_X12_refuse_0, F_X12_isSort, F_X12_isSort_0]
    all_goals simp only [e1, sh, bk]
    all_goals ((try simp only [hup_s, hup_c, hup_k, ne_eq, Nat.reduceEqDiff, not_false_eq_true]); repeat' (first | (with_reducible refine ev_ck ?_ ?_; first | omega | trivial) | with_reducible refine ev_bind ?_ | (with_reducible refine ev_nx ?_; first | simp only [hup_s, hup_c, hup_k, ne_eq, Nat.reduceEqDiff, not_false_eq_true] | dsimp only | skip) | (with_reducible refine ev_some ?_; first | simp only [hup_s, hup_c, hup_k, ne_eq, Nat.reduceEqDiff, not_false_eq_true] | dsimp only | skip) | (with_reducible refine ev_it ?_ ?_; first | omega | trivial) | (with_reducible refine ev_ie ?_ ?_; first | omega | trivial) | with_reducible refine ev_if (fun _ => ?_) (fun _ => ?_)))
    all_goals (try (exfalso; omega))
    all_goals (first | (exfalso; omega) | (refine ⟨?_, ?_, RR_st (by omega) r⟩ <;> first | trivial | omega))
  rw [if_pos q] at bk
  have hM : ∀ i, i < 49 → -1 ≤ h 48 i ∧ h 48 i ≤ 999 := fun i hi => ⟨(X3 i hi).1, (X3 i hi).2.1⟩
  obtain ⟨l1, l2⟩ := st_lt S (by omega) a (by omega)
  obtain ⟨y1, y2, y3⟩ := l2 q
  have pS := (st_pc S (by omega)).2
  -- the class
  generalize hh : hup (hup (hup h 75 2 (pc S : Int)) 75 3 1000000) 76 0 (a : Int) = h1
  have k1 : ∀ c k, ¬ (c = 75 ∧ (k = 2 ∨ k = 3)) → c ≠ 76 → h1 c k = h c k := fun c k w1 w2 => by rw [← hh, hup_n _ _ _ _ _ _ (by omega), hup_n _ _ _ _ _ _ (by omega), hup_n _ _ _ _ _ _ (by omega)]
  have k2 : h1 75 2 = (pc S : Int) := by rw [← hh, hup_n _ _ _ _ _ _ (by omega), hup_n _ _ _ _ _ _ (by omega), hup_s]
  have k3 : h1 75 3 = 1000000 := by rw [← hh, hup_n _ _ _ _ _ _ (by omega), hup_s]
  have k4 : h1 76 0 = (a : Int) := by rw [← hh, hup_s]
  obtain ⟨h2, g1, g2, g3, g4, g5, g6⟩ := go_l (n := n) (len := pc S) (M := h 48) (by omega) (by omega) hM (pc (dl S a)) 1 (dl S a) 10 a 0 h1 rfl (by omega) l1 (by omega) (by omega) (by omega) k4 (by omega) (by omega) (by omega) (by omega) ⟨by rw [k1 _ _ (by omega) (by omega)]; exact en, k2, fun i hi => k1 _ _ (by omega) (by omega)⟩
  have ob := opt_b (n := n) (by omega) (wam_b hM) (pc (dl S a)) (dl S a) a (by omega) l1 rfl (by omega)
  rw [show ((1 : Nat) : Int) = 1 from rfl] at g1
  rw [k3] at g2 g5 g6
  have g2' : h2 75 3 = opt (wam (h 48)) n (pc (dl S a)) (dl S a) a := by rw [g2]; omega
  obtain ⟨b1, b2⟩ := g5 (by omega)
  have fo : F_X10_findOrder 34 (S : Int) (a : Int) h = some (opt (wam (h 48)) n (pc (dl S a)) (dl S a) a, h2) := by
    unfold F_X10_findOrder F_X10_findOrder_0
    rw [j6 (by omega), bind_eq]
    dsimp only
    rw [nx_eq, nx_eq, nx_eq, hh, st_dl S (by omega) a (by omega), g1, bind_eq, g2']
  have k5 : ∀ c k, ¬ (c = 75 ∧ (k = 2 ∨ k = 3)) → c ≠ 76 → c ≠ 77 → h2 c k = h c k := fun c k w1 w2 w3 => by rw [g4 c k w2 w3 (by omega), k1 c k w1 w2]
  -- the other
  have O : OO n (h 48) (hup h2 0 0 0) := by
    refine ⟨by rw [hup_n _ _ _ _ _ _ (by omega), k5 _ _ (by omega) (by omega) (by omega)]; omega, fun b k hb hk => ?_⟩
    rw [hup_n _ _ _ _ _ _ (by omega), k5 _ _ (by omega) (by omega) (by omega), show 140 + 7 * b + k = 140 + (7 * b + k) by omega, (X3 (7 * b + k) (by omega)).2.2]
    rfl
  obtain ⟨e, G1, d1, d2, d3⟩ := dp_all (n := n) (M := h 48) (x1 := (S : Int)) (x2 := (a : Int)) (by omega) hM (2 ^ n) 0 20000 (hup h2 0 0 0) (by omega) (by omega) O (fun S' w => absurd w (by omega))
  rw [show ((0 : Nat) : Int) = 0 from rfl] at d1
  have v6 := (d3 (dl S a) (by omega) a (by omega)).2 y3
  generalize hk : hup (hup G1 162 0 (a : Int)) 141 45 (pc S : Int) = G2
  have m1 : ∀ c k, ¬ (c = 162 ∧ k = 0) → ¬ (c = 141 ∧ k = 45) → G2 c k = G1 c k := fun c k w1 w2 => by rw [← hk, hup_n _ _ _ _ _ _ w2, hup_n _ _ _ _ _ _ w1]
  have m2 : G2 162 0 = (a : Int) := by rw [← hk, hup_n _ _ _ _ _ _ (by omega), hup_s]
  have m3 : G2 141 45 = (pc S : Int) := by rw [← hk, hup_s]
  have O2 := OO_n d2 O
  obtain ⟨G3, f1, f2, f3⟩ := rd_l (n := n) (len := pc S) (M := h 48) (x4 := opt (wam (h 48)) n (pc (dl S a)) (dl S a) a) (by omega) pS (by omega) hM (pc (dl S a)) (dl S a) a 1 20000 G2 rfl l1 (by omega) (by omega) y3 (by omega) (by omega) (by omega) ⟨by rw [m1 _ _ (by omega) (by omega)]; exact O2.1, fun b k hb hk => by rw [m1 _ _ (by omega) (by omega)]; exact O2.2 b k hb hk⟩ (fun S' w1 b w2 => by rw [m1 _ _ (by omega) (by omega)]; exact d3 S' w1 b w2) m2 m3
  rw [show ((1 : Nat) : Int) = 1 from rfl] at f1
  have fin : F_X12_order_41 20000 (S : Int) (a : Int) 0 (hup h2 0 0 0) = some (opt (wam (h 48)) n (pc (dl S a)) (dl S a) a, hup G3 141 1 0) := by
    have o1 := O2.1
    have bi := bits_l 7 S 20000 0 (hup G1 162 0 (a : Int)) pS (by omega) (by omega)
    rw [Int.zero_add] at bi
    rw [d1, F_X12_order_41]
    unfold F_X12_bits F_X12_bits_0 ck
    rw [if_pos (by omega), o1, sh, if_pos (by omega), if_pos (by omega), nx_eq, st_dl S (by omega) a (by omega), if_pos (by omega), nx_eq, nx_eq, show (7 * ((dl S a : Nat) : Int) + (a : Int)).toNat = 7 * dl S a + a by omega, v6, bi, bind_eq]
    dsimp only
    rw [nx_eq, hk]
    exact f1
  have e2 : h2 142 1 = (n : Int) := by rw [k5 _ _ (by omega) (by omega) (by omega)]; omega
  simp only [F_X11_order, F_X11_order_0, F_X11_outside, F_X11_outside_0, F_X11_order_37, F_X11_none, F_X11_none_0, F_X11_isSort, F_X11_isSort_0, F_X11_answer, F_X11_answer_0]
  simp only [en, sh, bk]
  ((try simp only [hup_s, hup_c, hup_k, ne_eq, Nat.reduceEqDiff, not_false_eq_true]); repeat' (first | (with_reducible refine ev_ck ?_ ?_; first | omega | trivial) | with_reducible refine ev_bind ?_ | (with_reducible refine ev_nx ?_; first | simp only [hup_s, hup_c, hup_k, ne_eq, Nat.reduceEqDiff, not_false_eq_true] | dsimp only | skip) | (with_reducible refine ev_some ?_; first | simp only [hup_s, hup_c, hup_k, ne_eq, Nat.reduceEqDiff, not_false_eq_true] | dsimp only | skip) | (with_reducible refine ev_it ?_ ?_; first | omega | trivial) | (with_reducible refine ev_ie ?_ ?_; first | omega | trivial) | with_reducible refine ev_if (fun _ => ?_) (fun _ => ?_) | rw [fo]))
  simp only [F_X12_order, F_X12_order_0, F_X12_order_33, F_X12_refuse, F_X12_refuse_0, F_X12_isSort, F_X12_isSort_0]
  ((try simp only [hup_s, hup_c, hup_k, ne_eq, Nat.reduceEqDiff, not_false_eq_true, e2, sh, bk]); repeat' (first | (with_reducible refine ev_ck ?_ ?_; first | omega | trivial) | with_reducible refine ev_bind ?_ | (with_reducible refine ev_nx ?_; first | simp only [hup_s, hup_c, hup_k, ne_eq, Nat.reduceEqDiff, not_false_eq_true, e2, sh, bk] | dsimp only | skip) | (with_reducible refine ev_some ?_; first | simp only [hup_s, hup_c, hup_k, ne_eq, Nat.reduceEqDiff, not_false_eq_true, e2, sh, bk] | dsimp only | skip) | (with_reducible refine ev_it ?_ ?_; first | omega | trivial) | (with_reducible refine ev_ie ?_ ?_; first | omega | trivial) | with_reducible refine ev_if (fun _ => ?_) (fun _ => ?_) | rw [fin]))
  have V : ∀ c k, ¬ (c = 75 ∧ (k = 2 ∨ k = 3)) → c ≠ 76 → c ≠ 77 → ¬ (c = 141 ∧ (k = 1 ∨ k = 45)) → ¬ (c = 0 ∧ k = 0) → c ≠ 161 → c ≠ 162 → hup G3 141 1 0 c k = h c k := fun c k w1 w2 w3 w4 w5 w6 w7 => by
    rw [hup_n _ _ _ _ _ _ (by omega), f3 c k (by omega), m1 c k (by omega) (by omega), d2 c k w6, hup_n _ _ _ _ _ _ w5, k5 c k w1 w2 w3]
  have U : ∀ c k, c < 100 → ¬ (c = 0 ∧ k = 0) → hup G3 141 1 0 c k = h2 c k := fun c k w1 w2 => by
    rw [hup_n _ _ _ _ _ _ (by omega), f3 c k (by omega), m1 c k (by omega) (by omega), d2 c k (by omega), hup_n _ _ _ _ _ _ w2]
  have u0 : hup G3 141 1 0 0 0 = 0 := by rw [hup_n _ _ _ _ _ _ (by omega), f3 _ _ (by omega), m1 _ _ (by omega) (by omega), d2 _ _ (by omega), hup_s]
  have u1 : hup G3 141 1 0 141 1 = 0 := hup_s _ _ _ _
  have u45 : hup G3 141 1 0 141 45 = (pc S : Int) := by rw [hup_n _ _ _ _ _ _ (by omega), f3 _ _ (by omega)]; exact m3
  have u75 : hup G3 141 1 0 75 2 = (pc S : Int) := by rw [U _ _ (by omega) (by omega), g4 _ _ (by omega) (by omega) (by omega)]; exact k2
  have w0 : hup G3 141 1 0 162 0 = (a : Int) := by rw [hup_n _ _ _ _ _ _ (by omega), f3 _ _ (by omega)]; exact m2
  have wj : ∀ j, j < pc (dl S a) → hup G3 141 1 0 162 (1 + j) = (pt (wam (h 48)) n (pc (dl S a)) (dl S a) a j : Int) := fun j hj => by rw [hup_n _ _ _ _ _ _ (by omega)]; exact f2 j hj
  generalize hup G3 141 1 0 = g at *
  refine ⟨by first | trivial | omega, by omega, RR_10 (h := h) ?_ ?_ ?_ (RR_mono _ _ r)⟩
  · intro c k q
    obtain ⟨q, qq⟩ := q
    unfold Zall Z2 Z3 Zp Zs Z6 Z7 Z8 Z9 Z10 Z11 Z12 at q
    unfold Z10 at qq
    exact V c k (by omega) (by omega) (by omega) (by omega) (by omega) (by omega) (by omega)
  · obtain ⟨⟨-, s2, s3⟩, -⟩ := r
    unfold R1
    rw [u0, u1, V 0 1 (by omega) (by omega) (by omega) (by omega) (by omega) (by omega) (by omega), V 0 2 (by omega) (by omega) (by omega) (by omega) (by omega) (by omega) (by omega), V 141 2 (by omega) (by omega) (by omega) (by omega) (by omega) (by omega) (by omega), V 141 3 (by omega) (by omega) (by omega) (by omega) (by omega) (by omega) (by omega)]
    exact ⟨⟨by omega, by omega, rfl⟩, s2, s3⟩
  · unfold R10
    rw [u75, u45]
    refine ⟨⟨by omega, by omega, rfl⟩, fun k hk => ?_⟩
    rw [U 77 k (by omega) (by omega)]
    rcases k with _ | k
    · rw [w0, b1 0 (by omega), k4]
      exact ⟨by omega, by omega, rfl⟩
    · have pb := pt_b (wa := wam (h 48)) (n := n) (by omega) (pc (dl S a)) (dl S a) a k
      rw [show k + 1 = 1 + k by omega, wj k (by omega), b2 k (by omega)]
      exact ⟨by omega, by omega, rfl⟩
