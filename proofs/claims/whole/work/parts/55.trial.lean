/-! ===== trials: a copy of the floor on one side, a kept slot on the other ===== -/
theorem floor_copy {h : MH} : ∃ g, F_X1_copy 57 35 h = some g ∧ (g 57 0 = h 35 0 ∧ g 57 5 = h 35 5 ∧ g 57 6 = h 35 6) ∧ (∀ d k, 1 ≤ d → d ≤ 8 → k < 6 → g (57 + d) k = h (35 + d) k) ∧ ∀ c k, ¬ (57 ≤ c ∧ c ≤ 67) → g c k = h c k := by
  unfold F_X1_copy F_X1_copy_0
  simp only [nx_eq]
  refine ⟨_, rfl, ⟨?_, ?_, ?_⟩, fun d k l1 l2 l3 => ?_, fun c k hc => ?_⟩
  · simp (disch := omega) only [hup_n, hup_s, hcp_n]
  · simp (disch := omega) only [hup_n, hup_s, hcp_n]
  · simp (disch := omega) only [hup_n, hup_s, hcp_n]
  · have e : d = 1 ∨ d = 2 ∨ d = 3 ∨ d = 4 ∨ d = 5 ∨ d = 6 ∨ d = 7 ∨ d = 8 := by omega
    rcases e with rfl | rfl | rfl | rfl | rfl | rfl | rfl | rfl <;> simp (disch := omega) only [hup_n, hcp_n, hcp_y, Nat.sub_zero, Nat.zero_add, Nat.add_assoc, Nat.reduceAdd]
  · simp (disch := omega) only [hup_n, hcp_n]
theorem FI_copy {q : Prop} {A C : Int} {h g : MH} (e0 : g 57 0 = h 35 0 ∧ g 57 5 = h 35 5 ∧ g 57 6 = h 35 6) (e1 : ∀ d k, 1 ≤ d → d ≤ 8 → k < 6 → g (57 + d) k = h (35 + d) k) (r : FI q 35 A C h) : FI False 57 A C g := by
  obtain ⟨r1, r2, r3, r4⟩ := r
  refine ⟨by rw [e0.1]; exact r1, by rw [e0.2.2]; exact r2, fun m hm => ?_, fun x => x.elim⟩
  rw [e0.1] at hm
  have := r3 m hm
  rw [e1 1 m (by omega) (by omega) (by omega), e1 2 m (by omega) (by omega) (by omega), e1 3 m (by omega) (by omega) (by omega), e1 4 m (by omega) (by omega) (by omega), e1 5 m (by omega) (by omega) (by omega), e1 7 m (by omega) (by omega) (by omega), e1 8 m (by omega) (by omega) (by omega)]
  exact this
theorem FE_copy {q : Prop} {h g G : MH} (e0 : g 57 0 = h 35 0 ∧ g 57 5 = h 35 5 ∧ g 57 6 = h 35 6) (e1 : ∀ d k, 1 ≤ d → d ≤ 8 → k < 6 → g (57 + d) k = h (35 + d) k) (r : FE q 35 h G) : FE False 57 g G := by
  obtain ⟨r1, r2, r3, r4⟩ := r
  refine ⟨by rw [e0.1]; exact r1, by rw [e0.2.2]; exact r2, fun m h6 hm => ?_, fun x => x.elim⟩
  rw [e0.1] at hm
  have := r3 m h6 hm
  rw [e1 1 m (by omega) (by omega) (by omega), e1 2 m (by omega) (by omega) (by omega), e1 3 m (by omega) (by omega) (by omega), e1 4 m (by omega) (by omega) (by omega), e1 5 m (by omega) (by omega) (by omega), e1 6 m (by omega) (by omega) (by omega), e1 7 m (by omega) (by omega) (by omega), e1 8 m (by omega) (by omega) (by omega)]
  exact this
theorem FI_1 {q : Prop} {f m : Nat} {v A C : Int} {h : MH} (hv : 1 ≤ v ∧ v ≤ 99) (r : FI q f A C h) : FI q f A C (hup h (f + 1) m v) := by
  obtain ⟨r1, r2, r3, r4⟩ := r
  refine ⟨?_, ?_, fun m' hl => ?_, fun hq => ⟨fun m' hl s hs => ?_, fun k hk => ?_⟩⟩
  · rw [hup_n _ _ _ _ _ _ (by omega)]; exact r1
  · rw [hup_n _ _ _ _ _ _ (by omega)]; exact r2
  · rw [hup_n _ _ _ _ _ _ (by omega)] at hl
    have b := r3 m' hl
    by_cases e : m' = m
    · subst e
      simp (disch := omega) only [hup_n, hup_s]
      omega
    · simp (disch := omega) only [hup_n]
      omega
  · rw [hup_n _ _ _ _ _ _ (by omega)] at hl
    rw [hup_n _ _ _ _ _ _ (by omega)]; exact (r4 hq).1 m' hl s hs
  · rw [hup_n _ _ _ _ _ _ (by omega)]; exact (r4 hq).2 k hk
theorem FE_1 {q : Prop} {f m : Nat} {v : Int} {h g : MH} (hf : f < 100) (hm : m < 6) (r : FE q f h g) : FE q f (hup h (f + 1) m v) (hup g 142 (8 + 16 * m) v) := by
  obtain ⟨r1, r2, r3, r4⟩ := r
  refine ⟨?_, ?_, fun m' hm' hl => ?_, fun hq => ⟨fun m' hm' hl s hs => ?_, fun k hk => ?_⟩⟩
  · rw [hup_n _ _ _ _ _ _ (by omega), hup_n _ _ _ _ _ _ (by omega)]; exact r1
  · rw [hup_n _ _ _ _ _ _ (by omega), hup_n _ _ _ _ _ _ (by omega)]; exact r2
  · rw [hup_n _ _ _ _ _ _ (by omega)] at hl
    obtain ⟨b0, b1, b2, b3, b4, b5, b6, b7⟩ := r3 m' hm' hl
    by_cases e : m' = m
    · subst e
      refine ⟨?_, ?_, ?_, ?_, ?_, ?_, ?_, ?_⟩ <;> simp (disch := omega) only [hup_n, hup_s] <;> first | trivial | assumption
    · refine ⟨?_, ?_, ?_, ?_, ?_, ?_, ?_, ?_⟩ <;> simp (disch := omega) only [hup_n] <;> assumption
  · rw [hup_n _ _ _ _ _ _ (by omega)] at hl
    rw [hup_n _ _ _ _ _ _ (by omega), hup_n _ _ _ _ _ _ (by omega)]; exact (r4 hq).1 m' hm' hl s hs
  · rw [hup_n _ _ _ _ _ _ (by omega), hup_n _ _ _ _ _ _ (by omega)]; exact (r4 hq).2 k hk
theorem FE_142 {q : Prop} {f : Nat} {h g g' : MH} (w : ∀ k, k < 440 → g' 142 k = g 142 k) (r : FE q f h g) : FE q f h g' := by
  obtain ⟨r1, r2, r3, r4⟩ := r
  refine ⟨by rw [w _ (by omega)]; exact r1, by rw [w _ (by omega)]; exact r2, fun m h6 hm => ?_, fun hq => ⟨fun m h6 hm s hs => ?_, fun k hk => ?_⟩⟩
  · have := r3 m h6 hm
    rw [w _ (by omega), w _ (by omega), w _ (by omega), w _ (by omega), w _ (by omega), w _ (by omega), w _ (by omega), w _ (by omega)]
    exact this
  · rw [w _ (by omega)]; exact (r4 hq).1 m h6 hm s hs
  · rw [w _ (by omega)]; exact (r4 hq).2 k hk
/-- what a trial leaves on the class's side, and on the other's -/
def K57 (h h' : MH) : Prop := ∀ c k, ¬ (57 ≤ c ∧ c ≤ 67) → h' c k = h c k
def K22 (g g' : MH) : Prop := ∀ c k, ¬ (c = 142 ∧ 2200 ≤ k) → g' c k = g c k
theorem K57.tr {a b c : MH} (x : K57 a b) (y : K57 b c) : K57 a c := fun i k e => (y i k e).trans (x i k e)
theorem K22.tr {a b c : MH} (x : K22 a b) (y : K22 b c) : K22 a c := fun i k e => (y i k e).trans (x i k e)
theorem FI_57 {q : Prop} {A C : Int} {h h' : MH} (w : K57 h h') (r : FI q 35 A C h) : FI q 35 A C h' := by
  obtain ⟨r1, r2, r3, r4⟩ := r
  refine ⟨by rw [w _ _ (by omega)]; exact r1, by rw [w _ _ (by omega)]; exact r2, fun m hm => ?_, fun hq => ⟨fun m hm s hs => ?_, fun k hk => ?_⟩⟩
  · rw [w _ _ (by omega)] at hm
    have := r3 m hm
    rw [w (35 + 1) m (by omega), w (35 + 2) m (by omega), w (35 + 3) m (by omega), w (35 + 4) m (by omega), w (35 + 5) m (by omega), w (35 + 7) m (by omega), w (35 + 8) m (by omega)]
    exact this
  · rw [w _ _ (by omega)] at hm
    rw [w _ _ (by omega)]; exact (r4 hq).1 m hm s hs
  · rw [w _ _ (by omega)]; exact (r4 hq).2 k hk
theorem FE_57 {q : Prop} {h h' g : MH} (w : K57 h h') (r : FE q 35 h g) : FE q 35 h' g := by
  obtain ⟨r1, r2, r3, r4⟩ := r
  refine ⟨by rw [w _ _ (by omega)]; exact r1, by rw [w _ _ (by omega)]; exact r2, fun m h6 hm => ?_, fun hq => ⟨fun m h6 hm s hs => ?_, fun k hk => ?_⟩⟩
  · rw [w _ _ (by omega)] at hm
    have := r3 m h6 hm
    rw [w (35 + 1) m (by omega), w (35 + 2) m (by omega), w (35 + 3) m (by omega), w (35 + 4) m (by omega), w (35 + 5) m (by omega), w (35 + 6) m (by omega), w (35 + 7) m (by omega), w (35 + 8) m (by omega)]
    exact this
  · rw [w _ _ (by omega)] at hm
    rw [w _ _ (by omega)]; exact (r4 hq).1 m h6 hm s hs
  · rw [w _ _ (by omega)]; exact (r4 hq).2 k hk
/-- kept, changed in the first slot, brought back -/
theorem keep_back {g g1 g2 g3 : MH} (e1 : F_X12_copies 0 2200 g = some g1) (a : ∀ c k, ¬ (c = 142 ∧ k < 440) → g2 c k = g1 c k) (e3 : F_X12_copies 2200 0 g2 = some g3) : K22 g g3 := by
  have c1 := copies_eq (a := 0) (b := 2200) (g := g) (by omega) (by omega) (by omega)
  have c3 := copies_eq (a := 2200) (b := 0) (g := g2) (by omega) (by omega) (by omega)
  rw [show ((0 : Nat) : Int) = 0 from rfl, show ((2200 : Nat) : Int) = 2200 from rfl] at c1 c3
  have d1 := Option.some.inj (e1.symm.trans c1)
  have d3 := Option.some.inj (e3.symm.trans c3)
  intro c k e
  rw [d3]
  by_cases x : c = 142 ∧ k < 440
  · obtain ⟨rfl, x⟩ := x
    rw [hcp_y _ _ _ _ _ _ _ _ (by omega), a _ _ (by omega), d1, hcp_y _ _ _ _ _ _ _ _ (by omega)]
    exact congrArg (g 142) (by omega)
  · rw [hcp_n _ _ _ _ _ _ _ _ (by omega), a _ _ x, d1, hcp_n _ _ _ _ _ _ _ _ (by omega)]
theorem keep_1 {g : MH} : ∃ g1, F_X12_copies 0 2200 g = some g1 ∧ ∀ c k, ¬ (c = 142 ∧ 2200 ≤ k) → g1 c k = g c k := by
  have c1 := copies_eq (a := 0) (b := 2200) (g := g) (by omega) (by omega) (by omega)
  rw [show ((0 : Nat) : Int) = 0 from rfl, show ((2200 : Nat) : Int) = 2200 from rfl] at c1
  exact ⟨_, c1, fun c k e => hcp_n _ _ _ _ _ _ _ _ (by omega)⟩
theorem keep_3 {g : MH} : ∃ g1, F_X12_copies 2200 0 g = some g1 := by
  have c1 := copies_eq (a := 2200) (b := 0) (g := g) (by omega) (by omega) (by omega)
  rw [show ((0 : Nat) : Int) = 0 from rfl, show ((2200 : Nat) : Int) = 2200 from rfl] at c1
  exact ⟨_, c1⟩
theorem OM_big {g g' : MH} (a : Ag OM g g') : ∀ c k, ¬ (c = 142 ∧ k < 440) → g' c k = g c k := fun c k e => a c k (by unfold OM OG O3; omega)
theorem with_l {n m M : Nat} {v A C : Int} {h : MH} (hm : m < n) (hv : 1 ≤ v ∧ v ≤ 99) (hM : M ≤ 1000) (hn : h 35 0 = (n : Int)) (r : FI True 35 A C h) :
    ∃ (x : Int) (h' : MH), F_X9_madeWith 35 (m : Int) v (M : Int) h = some (x, h') ∧ (0 ≤ x ∧ x ≤ 594 * M) ∧ K57 h h' ∧ ∀ G, FE True 35 h G → ∃ G', F_X12_tries (m : Int) v (M : Int) G = some (x, G') ∧ K22 G G' := by
  have r1 := r.1
  obtain ⟨h1, a1, a2, a3, a4⟩ := floor_copy (h := h)
  have I1 : FI False 57 A C (hup h1 58 m v) := FI_1 (f := 57) hv (FI_copy a2 a3 r)
  have n1 : hup h1 58 m v 57 0 = (n : Int) := by rw [hup_n _ _ _ _ _ _ (by omega), a2.1]; exact hn
  obtain ⟨h', b1, b2, b3, b4, b5⟩ := would_b (f := 57) (M := M) (by omega) hM n1 I1
  have mb := b4 (n - 1)
  refine ⟨h' (57 + 7) (n - 1) - hup h1 58 m v (57 + 7) (n - 1), h', ?_, by omega, fun c k e => ?_, fun G x => ?_⟩
  · unfold F_X9_madeWith F_X9_madeWith_0 ck
    rw [a1, bind_eq, if_pos (by omega), nx_eq, show ((m : Int)).toNat = m by omega, b1, bind_eq]
  · rw [b3 c k (by unfold CM; omega), hup_n _ _ _ _ _ _ (by omega), a4 c k e]
  · obtain ⟨g1, y1, y2⟩ := keep_1 (g := G)
    have E1 : FE False 57 (hup h1 58 m v) (hup g1 142 (8 + 16 * m) v) := FE_1 (f := 57) (by omega) (by omega) (FE_copy a2 a3 (FE_142 (fun k hk => y2 142 k (by omega)) x))
    obtain ⟨g2, z1, z2, z3⟩ := b5 _ E1
    obtain ⟨g3, w1⟩ := keep_3 (g := g2)
    refine ⟨g3, ?_, keep_back y1 (fun c k e => ?_) w1⟩
    · unfold F_X12_tries F_X12_tries_0 F_X12_machineAt F_X12_machineAt_0 ck
      rw [y1, bind_eq, bind_eq]
      dsimp only
      rw [if_pos (by omega), nx_eq, show ((0 : Int) + 8 + 16 * (m : Int) + 0).toNat = 8 + 16 * m by omega, z1, bind_eq]
      dsimp only
      rw [w1, bind_eq]
    · rw [OM_big z3 c k e, hup_n _ _ _ _ _ _ (by omega)]
/-- nothing that the relation reads -/
theorem RR_trial {n : Nat} {h h1 g : MH} (r : RR n h) (a : K57 h h1) (b : K22 (hup h1 0 0 0) g) : RR (n + 1) (hup g 141 1 0) := by
  refine RR_mono _ _ (RR_rest (h := h) ?_ ?_ r)
  · intro c k q
    unfold Zall Z2 Z3 Zp Zs Z6 Z7 Z8 Z9 Z10 Z11 Z12 at q
    rw [hup_n _ _ _ _ _ _ (by omega), b _ _ (by omega), hup_n _ _ _ _ _ _ (by omega), a _ _ (by omega)]
  · obtain ⟨⟨-, s2, s3⟩, -⟩ := r
    unfold R1
    rw [hup_s, hup_n g _ _ _ 0 0 (by omega), b 0 0 (by omega), hup_s, hup_n _ _ _ _ _ _ (by omega), hup_n _ _ _ _ _ _ (by omega), hup_n _ _ _ _ _ _ (by omega), hup_n _ _ _ _ _ _ (by omega), b _ _ (by omega), b _ _ (by omega), b _ _ (by omega), b _ _ (by omega), hup_n _ _ _ _ _ _ (by omega), hup_n _ _ _ _ _ _ (by omega), hup_n _ _ _ _ _ _ (by omega), hup_n _ _ _ _ _ _ (by omega), a _ _ (by omega), a _ _ (by omega), a _ _ (by omega), a _ _ (by omega)]
    exact ⟨⟨by omega, by omega, rfl⟩, s2, s3⟩
theorem o_tried : Ob_tried RR := by
  intro n h a1 a2 a3 hn r i1 i2 i3
  refine ob_ev ?_
  obtain ⟨F, X⟩ := PR_FR.mp r.2.2.2.1
  have F1 := F.1
  simp only [Nat.zero_add, show 34 + 1 = 35 from rfl] at F1
  by_cases c : 0 ≤ a1 ∧ a1 < h 35 0 ∧ 1 ≤ a2 ∧ a2 ≤ 99 ∧ 1 ≤ a3 ∧ a3 ≤ 600
  · obtain ⟨m, em⟩ : ∃ m : Nat, a1 = (m : Int) := ⟨a1.toNat, by omega⟩
    obtain ⟨M, eM⟩ : ∃ M : Nat, a3 = (M : Int) := ⟨a3.toNat, by omega⟩
    obtain ⟨nm, en⟩ : ∃ nm : Nat, h 35 0 = (nm : Int) := ⟨(h 35 0).toNat, by omega⟩
    obtain ⟨x, h', b1, b2, b3, b4⟩ := with_l (n := nm) (m := m) (M := M) (v := a2) (by omega) (by omega) (by omega) en (FI_of F (by omega))
    have e0 : ∀ k, hup h' 0 0 0 142 k = h 142 k := fun k => by rw [hup_n _ _ _ _ _ _ (by omega), b3 142 k (by omega)]
    obtain ⟨g', z1, z2⟩ := b4 (hup h' 0 0 0) (FE_of F e0)
    rw [← em, ← eM] at b1 z1
    have e1 : h' 142 0 = h 35 0 := by rw [b3 142 0 (by omega)]; exact F1.2.2
    simp only [F_X11_tried, F_X11_tried_0, F_X11_isMachine, F_X11_isMachine_0, F_X11_tried_32, F_X11_none, F_X11_none_0, F_X11_outside, F_X11_outside_0, F_X11_answer, F_X11_answer_0]
    ((try simp only [hup_s, hup_c, hup_k, ne_eq, Nat.reduceEqDiff, not_false_eq_true]); repeat' (first | (with_reducible refine ev_ck ?_ ?_; first | omega | trivial) | with_reducible refine ev_bind ?_ | (with_reducible refine ev_nx ?_; first | simp only [hup_s, hup_c, hup_k, ne_eq, Nat.reduceEqDiff, not_false_eq_true] | dsimp only | skip) | (with_reducible refine ev_some ?_; first | simp only [hup_s, hup_c, hup_k, ne_eq, Nat.reduceEqDiff, not_false_eq_true] | dsimp only | skip) | (with_reducible refine ev_it ?_ ?_; first | omega | trivial) | (with_reducible refine ev_ie ?_ ?_; first | omega | trivial) | with_reducible refine ev_if (fun _ => ?_) (fun _ => ?_) | rw [b1]))
    simp only [F_X12_tried, F_X12_tried_0, F_X12_isMachine, F_X12_isMachine_0, F_X12_tried_48, F_X12_refuse, F_X12_refuse_0, F_X12_isFrom, F_X12_isFrom_0, F_X12_gives, F_X12_gives_0]
    ((try simp only [hup_s, hup_c, hup_k, ne_eq, Nat.reduceEqDiff, not_false_eq_true]); repeat' (first | (with_reducible refine ev_ck ?_ ?_; first | omega | trivial) | with_reducible refine ev_bind ?_ | (with_reducible refine ev_nx ?_; first | simp only [hup_s, hup_c, hup_k, ne_eq, Nat.reduceEqDiff, not_false_eq_true] | dsimp only | skip) | (with_reducible refine ev_some ?_; first | simp only [hup_s, hup_c, hup_k, ne_eq, Nat.reduceEqDiff, not_false_eq_true] | dsimp only | skip) | (with_reducible refine ev_it ?_ ?_; first | omega | trivial) | (with_reducible refine ev_ie ?_ ?_; first | omega | trivial) | with_reducible refine ev_if (fun _ => ?_) (fun _ => ?_) | rw [z1]))
    exact ⟨by first | trivial | omega, by omega, RR_trial r b3 z2⟩
  · simp only [F_X11_tried, F_X11_tried_0, F_X11_isMachine, F_X11_isMachine_0, F_X11_tried_32, F_X11_none, F_X11_none_0, F_X11_outside, F_X11_outside_0, F_X11_answer, F_X11_answer_0]
    ((try simp only [hup_s, hup_c, hup_k, ne_eq, Nat.reduceEqDiff, not_false_eq_true]); repeat' (first | (with_reducible refine ev_ck ?_ ?_; first | omega | trivial) | with_reducible refine ev_bind ?_ | (with_reducible refine ev_nx ?_; first | simp only [hup_s, hup_c, hup_k, ne_eq, Nat.reduceEqDiff, not_false_eq_true] | dsimp only | skip) | (with_reducible refine ev_some ?_; first | simp only [hup_s, hup_c, hup_k, ne_eq, Nat.reduceEqDiff, not_false_eq_true] | dsimp only | skip) | (with_reducible refine ev_it ?_ ?_; first | omega | trivial) | (with_reducible refine ev_ie ?_ ?_; first | omega | trivial) | with_reducible refine ev_if (fun _ => ?_) (fun _ => ?_)))
    all_goals (try (exfalso; omega))
    all_goals simp only [F_X12_tried, F_X12_tried_0, F_X12_isMachine, F_X12_isMachine_0, F_X12_tried_48, F_X12_refuse, F_X12_refuse_0, F_X12_isFrom, F_X12_isFrom_0, F_X12_gives, F_X12_gives_0]
    all_goals ((try simp only [hup_s, hup_c, hup_k, ne_eq, Nat.reduceEqDiff, not_false_eq_true]); repeat' (first | (with_reducible refine ev_ck ?_ ?_; first | omega | trivial) | with_reducible refine ev_bind ?_ | (with_reducible refine ev_nx ?_; first | simp only [hup_s, hup_c, hup_k, ne_eq, Nat.reduceEqDiff, not_false_eq_true] | dsimp only | skip) | (with_reducible refine ev_some ?_; first | simp only [hup_s, hup_c, hup_k, ne_eq, Nat.reduceEqDiff, not_false_eq_true] | dsimp only | skip) | (with_reducible refine ev_it ?_ ?_; first | omega | trivial) | (with_reducible refine ev_ie ?_ ?_; first | omega | trivial) | with_reducible refine ev_if (fun _ => ?_) (fun _ => ?_)))
    all_goals (first | (exfalso; omega) | (refine ⟨?_, ?_, RR_st (by omega) r⟩ <;> first | trivial | omega))
