/-! ===== holder ===== -/
theorem of0 {q : Prop} {f n x : Nat} {h g : MH} (hx : x < n) (h6 : n ≤ 6) (hn : h f 0 = (n : Int)) (e : FE q f h g) : F_X12_ofMachine (x : Int) 0 g = some (h (f + 1) x, g) := by
  obtain ⟨w0, w1, w2, w3, w4, w5, w6, w7⟩ := e.2.2.1 x (by omega) (by omega)
  unfold F_X12_ofMachine F_X12_ofMachine_0 F_X12_machineAt F_X12_machineAt_0 ck
  simp only [bind_eq]
  rw [if_pos (by omega), show ((0 : Int) + 8 + 16 * (x : Int) + 0).toNat = 8 + 16 * x by omega, w0]
theorem hold_l {n M : Nat} {A C W a : Int} (hM : M ≤ 1000) (hW : 1 ≤ W ∧ W ≤ 20) : ∀ (d fu fu' m : Nat) (b5 b6 o3 o4 : Int) (h : MH), m + d = n → d < fu → d < fu' → h 35 0 = (n : Int) → FI True 35 A C h →
    ((m = 0 ∧ b5 = 0 ∧ b6 = -1 ∧ o3 = -1 ∧ o4 = 0) ∨ (1 ≤ m ∧ o3 = b5 ∧ o4 = b6 ∧ 0 ≤ b5 ∧ b5 < 6 ∧ 0 ≤ b6 ∧ b6 ≤ 594 * M)) →
    ∃ (B5 B6 : Int) (h' : MH), F_X9_findHolder_24 fu 35 W (M : Int) a b5 b6 (m : Int) h = some (B5, hup (hup h' 56 1 1) 56 2 (B6 - a)) ∧ (0 ≤ B5 ∧ B5 < 6) ∧ (0 ≤ B6 ∧ B6 ≤ 594 * M) ∧ K57 h h' ∧
      ∀ G, FE True 35 h G → ∃ (e : Nat) (G' : MH), F_X12_holder_56 fu' W (M : Int) o3 o4 (m : Int) G = F_X12_holder_56 (e + 1) W (M : Int) B5 B6 (n : Int) G' ∧ K22 G G' := by
  intro d
  induction d with
  | zero =>
    intro fu fu' m b5 b6 o3 o4 h e1 l1 l2 hn r st
    obtain ⟨fu, rfl⟩ : ∃ g, fu = g + 1 := ⟨fu - 1, by omega⟩
    obtain ⟨fu', rfl⟩ : ∃ g, fu' = g + 1 := ⟨fu' - 1, by omega⟩
    have r1 := r.1
    obtain ⟨-, rfl, rfl, s1, s2, s3, s4⟩ := st.resolve_left (by omega)
    have em : m = n := by omega
    subst em
    refine ⟨o3, o4, h, ?_, ⟨s1, s2⟩, ⟨s3, s4⟩, fun _ _ _ => rfl, fun G x => ⟨fu', G, rfl, fun _ _ _ => rfl⟩⟩
    rw [F_X9_findHolder_24]
    unfold ck
    rw [if_pos (by omega), if_pos (by omega), if_pos (by omega), nx_eq, nx_eq]
  | succ d ih =>
    intro fu fu' m b5 b6 o3 o4 h e1 l1 l2 hn r st
    obtain ⟨fu, rfl⟩ : ∃ g, fu = g + 1 := ⟨fu - 1, by omega⟩
    obtain ⟨fu', rfl⟩ : ∃ g, fu' = g + 1 := ⟨fu' - 1, by omega⟩
    have r1 := r.1
    have b := r.2.2.1 m (by omega)
    have em : (m : Int) + 1 = ((m + 1 : Nat) : Int) := by omega
    obtain ⟨x, h1, a1, a2, a3, a4⟩ := with_l (n := n) (m := m) (M := M) (v := min 99 (h (35 + 1) m + W)) (by omega) (by omega) hM hn r
    have hn1 : h1 35 0 = (n : Int) := by rw [a3 _ _ (by omega)]; exact hn
    have I1 := FI_57 a3 r
    -- the class's step, the other's step
    have cs : F_X9_findHolder_24 (fu + 1) 35 W (M : Int) a b5 b6 (m : Int) h = if x ≤ b6 then F_X9_findHolder_24 fu 35 W (M : Int) a b5 b6 ((m + 1 : Nat) : Int) h1 else F_X9_findHolder_24 fu 35 W (M : Int) a (m : Int) x ((m + 1 : Nat) : Int) h1 := by
      rw [F_X9_findHolder_24]
      unfold F_X9_findHolder_69 F_X9_faster F_X9_faster_0 ck
      rw [if_pos (by omega), if_pos (by omega), if_neg (by omega), if_pos (by omega), show ((m : Int)).toNat = m by omega, if_pos (by omega), bind_eq]
      dsimp only
      rw [a1, bind_eq]
      dsimp only
      rw [if_pos (by omega), if_pos (by omega), em]
    have os : ∀ G, FE True 35 h G → ∃ G1, FE True 35 h1 G1 ∧ K22 G G1 ∧ F_X12_holder_56 (fu' + 1) W (M : Int) o3 o4 (m : Int) G = if o3 = -1 then F_X12_holder_56 fu' W (M : Int) (m : Int) x ((m + 1 : Nat) : Int) G1 else if o4 < x then F_X12_holder_56 fu' W (M : Int) (m : Int) x ((m + 1 : Nat) : Int) G1 else F_X12_holder_56 fu' W (M : Int) o3 o4 ((m + 1 : Nat) : Int) G1 := fun G xe => by
      obtain ⟨G1, y1, y2⟩ := a4 G xe
      refine ⟨G1, FE_142 (fun k hk => y2 142 k (by omega)) (FE_57 a3 xe), y2, ?_⟩
      have g0 := xe.1
      rw [F_X12_holder_56]
      unfold F_X12_holder_117 F_X12_holder_110 F_X12_holder_117 ck
      rw [if_pos (by omega), if_pos (by omega), if_neg (by omega), of0 (show m < n by omega) (by omega) hn xe, bind_eq]
      dsimp only
      rw [if_pos (by omega), if_pos (by omega), y1, bind_eq]
      dsimp only
      rw [if_pos (show in32 o3 by omega), if_pos (show in64 x by omega), if_pos (show in64 o4 by omega), em]
    by_cases c : x ≤ b6
    · obtain ⟨m1, rfl, rfl, s1, s2, s3, s4⟩ := st.resolve_left (by omega)
      obtain ⟨B5, B6, h', j1, j2, j3, j4, j5⟩ := ih fu fu' (m + 1) o3 o4 o3 o4 h1 (by omega) (by omega) (by omega) hn1 I1 (Or.inr ⟨by omega, rfl, rfl, s1, s2, s3, s4⟩)
      refine ⟨B5, B6, h', by rw [cs, if_pos c]; exact j1, j2, j3, a3.tr j4, fun G xe => ?_⟩
      obtain ⟨G1, y1, y2, y3⟩ := os G xe
      obtain ⟨e, G', z1, z2⟩ := j5 G1 y1
      exact ⟨e, G', by rw [y3, if_neg (by omega), if_neg (by omega)]; exact z1, y2.tr z2⟩
    · obtain ⟨B5, B6, h', j1, j2, j3, j4, j5⟩ := ih fu fu' (m + 1) (m : Int) x (m : Int) x h1 (by omega) (by omega) (by omega) hn1 I1 (Or.inr ⟨by omega, rfl, rfl, by omega, by omega, by omega, by omega⟩)
      refine ⟨B5, B6, h', by rw [cs, if_neg c]; exact j1, j2, j3, a3.tr j4, fun G xe => ?_⟩
      obtain ⟨G1, y1, y2, y3⟩ := os G xe
      obtain ⟨e, G', z1, z2⟩ := j5 G1 y1
      refine ⟨e, G', ?_, y2.tr z2⟩
      rw [y3]
      by_cases q : o3 = -1
      · rw [if_pos q]; exact z1
      · rw [if_neg q, if_pos (by omega)]; exact z1
theorem o_holder : Ob_holder RR := by
  intro n h a1 a2 hn r i1 i2
  refine ob_ev ?_
  obtain ⟨F, X⟩ := PR_FR.mp r.2.2.2.1
  have F1 := F.1
  simp only [Nat.zero_add, show 34 + 1 = 35 from rfl] at F1
  by_cases c : 1 ≤ a1 ∧ a1 ≤ 20 ∧ 1 ≤ a2 ∧ a2 ≤ 600 ∧ 1 ≤ h 35 0
  · obtain ⟨M, eM⟩ : ∃ M : Nat, a2 = (M : Int) := ⟨a2.toNat, by omega⟩
    obtain ⟨nm, en⟩ : ∃ nm : Nat, h 35 0 = (nm : Int) := ⟨(h 35 0).toNat, by omega⟩
    have I0 : FI True 35 (600000 * n) (6000 * n) h := FI_of (f := 35) F (by omega)
    have b := I0.2.2.1 0 (by omega)
    obtain ⟨x, h1, p1, p2, p3, p4⟩ := with_l (n := nm) (m := 0) (M := M) (v := h (35 + 1) 0) (by omega) (by omega) (by omega) en I0
    have hn1 : h1 35 0 = (nm : Int) := by rw [p3 _ _ (by omega)]; exact en
    obtain ⟨B5, B6, h2, j1, j2, j3, j4, j5⟩ := hold_l (n := nm) (M := M) (W := a1) (a := x) (by omega) (by omega) nm 20000 20000 0 0 (-1) (-1) 0 h1 (by omega) (by omega) (by omega) hn1 (FI_57 p3 I0) (Or.inl ⟨rfl, rfl, rfl, rfl, rfl⟩)
    have K : K57 h h2 := p3.tr j4
    rw [← eM, show ((0 : Nat) : Int) = 0 from rfl] at p1 j1
    have b1 : F_X9_findHolder 35 a1 a2 h = some (B5, hup (hup h2 56 1 1) 56 2 (B6 - x)) := by
      unfold F_X9_findHolder F_X9_findHolder_0
      rw [p1, bind_eq]
      exact j1
    have g0 : ∀ k, hup (hup (hup h2 56 1 1) 56 2 (B6 - x)) 0 0 0 142 k = h 142 k := fun k => by rw [hup_n _ _ _ _ _ _ (by omega), hup_n _ _ _ _ _ _ (by omega), hup_n _ _ _ _ _ _ (by omega), K 142 k (by omega)]
    have E0 := FE_of F g0
    obtain ⟨e, G', z1, z2⟩ := j5 _ (FE_57 p3 E0)
    have E1 : FE True 35 h G' := FE_142 (fun k hk => z2 142 k (by omega)) E0
    obtain ⟨G'', w1, w2⟩ := p4 G' E1
    have q1 : F_X12_holder_56 (e + 1) a1 a2 B5 B6 (nm : Int) G' = some (B5, hup (hup (hup G'' 141 23 (B6 - x)) 141 24 1) 141 1 0) := by
      have gg := E1.1
      have o00 := of0 (show 0 < nm by omega) (by omega) en E1
      have w1' := w1
      rw [show ((0 : Nat) : Int) = 0 from rfl] at o00 w1'
      rw [F_X12_holder_56]
      unfold F_X12_gives F_X12_gives_0 ck
      rw [if_pos (by omega), if_pos (by omega), if_pos (by omega), o00, bind_eq]
      dsimp only
      rw [eM, w1', bind_eq]
      dsimp only
      rw [nx_eq, nx_eq, if_pos (by omega), nx_eq, bind_eq]
    rw [← eM, show ((0 : Nat) : Int) = 0 from rfl, q1] at z1
    have e1 : h2 142 0 = h 35 0 := by rw [K 142 0 (by omega)]; exact F1.2.2
    simp only [F_X11_holder, F_X11_holder_0, F_X11_outside, F_X11_outside_0, F_X11_holder_24, F_X11_none, F_X11_none_0, F_X11_answer, F_X11_answer_0]
    ((try simp only [hup_s, hup_c, hup_k, ne_eq, Nat.reduceEqDiff, not_false_eq_true]); repeat' (first | (with_reducible refine ev_ck ?_ ?_; first | omega | trivial) | with_reducible refine ev_bind ?_ | (with_reducible refine ev_nx ?_; first | simp only [hup_s, hup_c, hup_k, ne_eq, Nat.reduceEqDiff, not_false_eq_true] | dsimp only | skip) | (with_reducible refine ev_some ?_; first | simp only [hup_s, hup_c, hup_k, ne_eq, Nat.reduceEqDiff, not_false_eq_true] | dsimp only | skip) | (with_reducible refine ev_it ?_ ?_; first | omega | trivial) | (with_reducible refine ev_ie ?_ ?_; first | omega | trivial) | with_reducible refine ev_if (fun _ => ?_) (fun _ => ?_) | rw [b1]))
    simp only [F_X12_holder, F_X12_holder_0, F_X12_isFrom, F_X12_isFrom_0, F_X12_holder_24, F_X12_refuse, F_X12_refuse_0]
    ((try simp only [hup_s, hup_c, hup_k, ne_eq, Nat.reduceEqDiff, not_false_eq_true]); repeat' (first | (with_reducible refine ev_ck ?_ ?_; first | omega | trivial) | with_reducible refine ev_bind ?_ | (with_reducible refine ev_nx ?_; first | simp only [hup_s, hup_c, hup_k, ne_eq, Nat.reduceEqDiff, not_false_eq_true] | dsimp only | skip) | (with_reducible refine ev_some ?_; first | simp only [hup_s, hup_c, hup_k, ne_eq, Nat.reduceEqDiff, not_false_eq_true] | dsimp only | skip) | (with_reducible refine ev_it ?_ ?_; first | omega | trivial) | (with_reducible refine ev_ie ?_ ?_; first | omega | trivial) | with_reducible refine ev_if (fun _ => ?_) (fun _ => ?_) | rw [z1]))
    have V : ∀ c k, ¬ (c = 142 ∧ 2200 ≤ k) → ¬ (57 ≤ c ∧ c ≤ 67) → ¬ (c = 0 ∧ k = 0) → ¬ (c = 141 ∧ (k = 1 ∨ k = 23 ∨ k = 24)) → ¬ (c = 56 ∧ (k = 1 ∨ k = 2)) → hup (hup (hup G'' 141 23 (B6 - x)) 141 24 1) 141 1 0 c k = h c k := fun c k q1 q2 q3 q4 q5 => by
      rw [hup_n _ _ _ _ _ _ (by omega), hup_n _ _ _ _ _ _ (by omega), hup_n _ _ _ _ _ _ (by omega), w2 _ _ q1, z2 _ _ q1, hup_n _ _ _ _ _ _ (by omega), hup_n _ _ _ _ _ _ (by omega), hup_n _ _ _ _ _ _ (by omega), K _ _ q2]
    have U : ∀ c k, c < 141 → hup (hup (hup G'' 141 23 (B6 - x)) 141 24 1) 141 1 0 c k = hup (hup (hup h2 56 1 1) 56 2 (B6 - x)) 0 0 0 c k := fun c k q => by
      rw [hup_n _ _ _ _ _ _ (by omega), hup_n _ _ _ _ _ _ (by omega), hup_n _ _ _ _ _ _ (by omega), w2 _ _ (by omega), z2 _ _ (by omega)]
    have v1 : hup (hup (hup G'' 141 23 (B6 - x)) 141 24 1) 141 1 0 141 24 = 1 := by rw [hup_n _ _ _ _ _ _ (by omega), hup_s]
    have v3 : hup (hup (hup G'' 141 23 (B6 - x)) 141 24 1) 141 1 0 141 23 = B6 - x := by rw [hup_n _ _ _ _ _ _ (by omega), hup_n _ _ _ _ _ _ (by omega), hup_s]
    have v5 : hup (hup (hup G'' 141 23 (B6 - x)) 141 24 1) 141 1 0 141 1 = 0 := hup_s _ _ _ _
    have u0 := (U 0 0 (by omega)).trans (hup_s _ _ _ _)
    have u1 := (U 56 1 (by omega)).trans (show _ = (1 : Int) by rw [hup_n _ _ _ _ _ _ (by omega), hup_n _ _ _ _ _ _ (by omega), hup_s])
    have u2 := (U 56 2 (by omega)).trans (show _ = B6 - x by rw [hup_n _ _ _ _ _ _ (by omega), hup_s])
    generalize hup (hup (hup G'' 141 23 (B6 - x)) 141 24 1) 141 1 0 = g at *
    refine ⟨by first | trivial | omega, by omega, RR_7 (h := h) ?_ ?_ ?_ (RR_mono _ _ r)⟩
    · intro c k q
      obtain ⟨q, q2⟩ := q
      unfold Zall Z2 Z3 Zp Zs Z6 Z7 Z8 Z9 Z10 Z11 Z12 at q
      unfold Z7 at q2
      exact V c k (by omega) (by omega) (by omega) (by omega) (by omega)
    · obtain ⟨⟨-, s2, s3⟩, -⟩ := r
      unfold R1
      rw [u0, v5, V 0 1 (by omega) (by omega) (by omega) (by omega) (by omega), V 0 2 (by omega) (by omega) (by omega) (by omega) (by omega), V 141 2 (by omega) (by omega) (by omega) (by omega) (by omega), V 141 3 (by omega) (by omega) (by omega) (by omega) (by omega)]
      exact ⟨⟨by omega, by omega, rfl⟩, s2, s3⟩
    · obtain ⟨t1, t2, t3, t4⟩ := r.2.2.2.2.2.2.1
      unfold R7
      rw [u1, v1, u2, v3, V 56 3 (by omega) (by omega) (by omega) (by omega) (by omega), V 141 27 (by omega) (by omega) (by omega) (by omega) (by omega)]
      refine ⟨⟨Or.inr rfl, rfl⟩, fun _ => ⟨by omega, rfl⟩, t3, fun k hk => ?_⟩
      rw [V 68 k (by omega) (by omega) (by omega) (by omega) (by omega), V 152 k (by omega) (by omega) (by omega) (by omega) (by omega)]
      exact t4 k hk
  · simp only [F_X11_holder, F_X11_holder_0, F_X11_outside, F_X11_outside_0, F_X11_holder_24, F_X11_none, F_X11_none_0, F_X11_answer, F_X11_answer_0]
    ((try simp only [hup_s, hup_c, hup_k, ne_eq, Nat.reduceEqDiff, not_false_eq_true]); repeat' (first | (with_reducible refine ev_ck ?_ ?_; first | omega | trivial) | with_reducible refine ev_bind ?_ | (with_reducible refine ev_nx ?_; first | simp only [hup_s, hup_c, hup_k, ne_eq, Nat.reduceEqDiff, not_false_eq_true] | dsimp only | skip) | (with_reducible refine ev_some ?_; first | simp only [hup_s, hup_c, hup_k, ne_eq, Nat.reduceEqDiff, not_false_eq_true] | dsimp only | skip) | (with_reducible refine ev_it ?_ ?_; first | omega | trivial) | (with_reducible refine ev_ie ?_ ?_; first | omega | trivial) | with_reducible refine ev_if (fun _ => ?_) (fun _ => ?_)))
    all_goals (try (exfalso; omega))
    all_goals simp only [F_X12_holder, F_X12_holder_0, F_X12_isFrom, F_X12_isFrom_0, F_X12_holder_24, F_X12_refuse, F_X12_refuse_0]
    all_goals ((try simp only [hup_s, hup_c, hup_k, ne_eq, Nat.reduceEqDiff, not_false_eq_true]); repeat' (first | (with_reducible refine ev_ck ?_ ?_; first | omega | trivial) | with_reducible refine ev_bind ?_ | (with_reducible refine ev_nx ?_; first | simp only [hup_s, hup_c, hup_k, ne_eq, Nat.reduceEqDiff, not_false_eq_true] | dsimp only | skip) | (with_reducible refine ev_some ?_; first | simp only [hup_s, hup_c, hup_k, ne_eq, Nat.reduceEqDiff, not_false_eq_true] | dsimp only | skip) | (with_reducible refine ev_it ?_ ?_; first | omega | trivial) | (with_reducible refine ev_ie ?_ ?_; first | omega | trivial) | with_reducible refine ev_if (fun _ => ?_) (fun _ => ?_)))
    all_goals (first | (exfalso; omega) | (refine ⟨?_, ?_, RR_st (by omega) r⟩ <;> first | trivial | omega))
