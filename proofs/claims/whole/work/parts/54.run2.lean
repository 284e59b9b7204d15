/-! ===== run ===== -/
theorem FI_of {f b B : Nat} {h : MH} (r : FR f b B h) (h1 : 1 ≤ h f 0) : FI True f (600000 * B) (6000 * B) h := by
  obtain ⟨r1, r2, r3, r4, r5, r6⟩ := r
  refine ⟨by omega, by omega, fun m hm => ?_, fun _ => ⟨fun m hm s hs => ?_, fun k hk => ?_⟩⟩
  · obtain ⟨m1, m2, m3, m4, m5, m6, m7, m8, m9⟩ := r5 m hm
    exact ⟨⟨m1.1, m1.2.1⟩, ⟨m2.1, m2.2.1⟩, ⟨m3.1, m3.2.1, m3.2.2.2⟩, ⟨m4.1, m4.2.1⟩, ⟨m6.1, m6.2.1⟩, ⟨m8.1, m8.2.1⟩, ⟨m9.1, m9.2.1⟩⟩
  · obtain ⟨m1, m2, m3, m4, m5, m6, m7, m8, m9⟩ := r5 m hm
    exact ⟨(m7 s hs).1, (m7 s hs).2.1⟩
  · exact ⟨(r6 k hk).1, (r6 k hk).2.1⟩
theorem FE_of {f B : Nat} {h g : MH} (r : FR f 0 B h) (w : ∀ k, g 142 k = h 142 k) : FE True f h g := by
  obtain ⟨r1, r2, r3, r4, r5, r6⟩ := r
  simp only [Nat.zero_add] at r1 r4 r6
  refine ⟨by rw [w]; exact r1.2.2, by rw [w]; exact r4.2.2, fun m h6 hm => ?_, fun _ => ⟨fun m h6 hm s hs => ?_, fun k hk => ?_⟩⟩
  · obtain ⟨m1, m2, m3, m4, m5, m6, m7, m8, m9⟩ := r5 m hm
    simp only [Nat.zero_add] at m1 m2 m3 m4 m5 m6 m8 m9
    simp only [w]
    exact ⟨m1.2.2, m2.2.2, m3.2.2.1, m4.2.2, m5.2.2.1, m6.2.2, m8.2.2, m9.2.2⟩
  · obtain ⟨m1, m2, m3, m4, m5, m6, m7, m8, m9⟩ := r5 m hm
    simp only [Nat.zero_add] at m7
    rw [w]; exact (m7 s hs).2.2
  · rw [w]; exact (r6 k hk).2.2
theorem FR_mk {f B : Nat} {A C : Int} {h g : MH} (w : ∀ c k, f ≤ c ∧ c ≤ f + 10 → g c k = h c k) (r : FI True f A C h) (hA : A ≤ 600000 * B) (hC : C ≤ 6000 * B) (e : FE True f h g) (s : FS f (fun _ s => -1 ≤ s ∧ s ≤ 3 ∧ (s = -1 ↔ h f 7 = 0)) h) (m7 : 0 ≤ h f 7 ∧ h f 7 ≤ 1000 * B ∧ g 142 2 = h f 7) (m5 : 0 ≤ h f 5 ∧ h f 5 ≤ 9999 ∧ g 142 3 = h f 5) : FR f 0 B g := by
  obtain ⟨r1, r2, r3, r4⟩ := r
  obtain ⟨e1, e2, e3, e4⟩ := e
  unfold FR
  simp only [w _ _ (show f ≤ f ∧ f ≤ f + 10 by omega), w _ _ (show f ≤ f + 10 ∧ f + 10 ≤ f + 10 by omega), Nat.zero_add]
  refine ⟨⟨by omega, by omega, e1⟩, m7, m5, ⟨by omega, by omega, e2⟩, fun m hm => ?_, fun k hk => ?_⟩
  · have a := r3 m hm
    have b := e3 m (by omega) hm
    have c := s m hm
    unfold FM
    simp only [w _ _ (show f ≤ f ∧ f ≤ f + 10 by omega), w _ _ (show f ≤ f + 1 ∧ f + 1 ≤ f + 10 by omega), w _ _ (show f ≤ f + 2 ∧ f + 2 ≤ f + 10 by omega), w _ _ (show f ≤ f + 3 ∧ f + 3 ≤ f + 10 by omega), w _ _ (show f ≤ f + 4 ∧ f + 4 ≤ f + 10 by omega), w _ _ (show f ≤ f + 5 ∧ f + 5 ≤ f + 10 by omega), w _ _ (show f ≤ f + 6 ∧ f + 6 ≤ f + 10 by omega), w _ _ (show f ≤ f + 7 ∧ f + 7 ≤ f + 10 by omega), w _ _ (show f ≤ f + 8 ∧ f + 8 ≤ f + 10 by omega), w _ _ (show f ≤ f + 9 ∧ f + 9 ≤ f + 10 by omega), Nat.zero_add]
    obtain ⟨a1, a2, a3, a4, a5, a6, a7⟩ := a
    obtain ⟨b1, b2, b3, b4, b5, b6, b7, b8⟩ := b
    refine ⟨⟨a1.1, a1.2, b1⟩, ⟨a2.1, a2.2, b2⟩, ⟨a3.1, a3.2.1, b3, a3.2.2⟩, ⟨a4.1, a4.2, b4⟩, ⟨c.1, c.2.1, b5, c.2.2⟩, ⟨a5.1, by omega, b6⟩, fun s hs => ?_, ⟨a6.1, a6.2, b7⟩, ⟨a7.1, a7.2, b8⟩⟩
    have z := (r4 trivial).1 m hm s hs
    exact ⟨z.1, by omega, (e4 trivial).1 m (by omega) hm s hs⟩
  · have z := (r4 trivial).2 k hk
    exact ⟨z.1, by omega, (e4 trivial).2 k hk⟩
theorem PX_CM {h g : MH} (h6 : h 35 0 ≤ 6) (w : ∀ c k, CM 35 c k → OM c k → ¬ (c = 0 ∧ k = 0) → ¬ (c = 141 ∧ k = 1) → g c k = h c k) (x : PX 34 0 h) : PX 34 0 g := by
  obtain ⟨x1, x2, x3⟩ := x
  have w' : ∀ c k, CM 35 c k ∧ OM c k ∧ ¬ (c = 0 ∧ k = 0) ∧ ¬ (c = 141 ∧ k = 1) → g c k = h c k := fun c k a => w c k a.1 a.2.1 a.2.2.1 a.2.2.2
  refine ⟨?_, fun m hm => ?_, fun k hk => ?_⟩
  · rw [w' _ _ (by unfold CM OM OG O3; omega), w' _ _ (by unfold CM OM OG O3; omega)]; exact x1
  · rw [w' (34 + 1) 0 (by unfold CM OM OG O3; omega)] at hm
    have hm' : (m : Int) < h 35 0 := hm
    rw [w' (34 + 13) m (by unfold CM OM OG O3; omega), w' (34 + 12) m (by unfold CM OM OG O3; omega), w' 142 (0 + 8 + 16 * m + 1) (by unfold CM OM OG O3; omega), w' 142 (0 + 8 + 16 * m + 13) (by unfold CM OM OG O3; omega)]; exact x2 m hm
  · rw [w' _ _ (by unfold CM OM OG O3; omega), w' _ _ (by unfold CM OM OG O3; omega)]; exact x3 k hk
/-- the floor 35 has been spent on both sides -/
theorem RR_run {n nm M : Nat} {A C : Int} {h h' g : MH} (r : RR n h) (hM1 : 1 ≤ M) (hM : M ≤ 1000) (h1 : 1 ≤ h 35 0)
    (rI : FI True 35 (600000 * n + 594 * M) (6000 * n + 6 * M) h') (rS : FS 35 (SP nm 0) h') (rC : Ag (CM 35) h h') (r7 : h' 35 7 = h 35 7 + M) (rE : FE True 35 h' g) (w : ∀ c k, OM c k → ¬ (c = 0 ∧ k = 0) → ¬ (c = 141 ∧ k = 1) → g c k = h' c k) (g2 : g 142 2 = h' 142 2 + M) (s1 : R1 g) : RR (n + 1) g := by
  obtain ⟨F, X⟩ := PR_FR.mp r.2.2.2.1
  have h2 : h' 142 2 = h 142 2 := rC 142 2 (by unfold CM; omega)
  have F2 := F.2.1
  have F3 := F.2.2.1
  simp only [Nat.zero_add, show 34 + 1 = 35 from rfl] at F2 F3
  refine RR_4 (h := h) ?_ s1 ?_ (RR_mono _ _ r)
  · intro c k q
    obtain ⟨q1, q2⟩ := q
    have q3 : ¬ (c = 0 ∧ k = 0) ∧ ¬ (c = 141 ∧ k = 1) := by
      unfold Zall Z2 Z3 Zp Zs Z6 Z7 Z8 Z9 Z10 Z11 Z12 at q1
      omega
    unfold Zp at q2
    rw [w c k (by unfold OM OG O3; omega) q3.1 q3.2, rC c k (by unfold CM; omega)]
  · refine PR_FR.mpr ⟨FR_mk (f := 35) (h := h') (fun c k q => w c k (by unfold OM OG O3; omega) (by omega) (by omega)) rI (by omega) (by omega) rE (fun m hm => ?_) ?_ ?_, PX_CM (h := h) (by have := rI.1; have := rC 35 0 (by unfold CM; omega); omega) (fun c k a1 a2 a3 a4 => ?_) X⟩
    · have := rS m hm
      have b1 := this.1
      have b2 := this.2.1
      refine ⟨by omega, b2, ?_⟩
      omega
    · rw [r7, g2, h2]
      omega
    · rw [w 142 3 (by unfold OM OG O3; omega) (by omega) (by omega), rC 142 3 (by unfold CM; omega), rC 35 5 (by unfold CM; omega)]
      exact F3
    · rw [w c k a2 a3 a4, rC c k a1]
theorem o_run : Ob_run RR := by
  intro n h a1 hn r i1
  refine ob_ev ?_
  obtain ⟨F, X⟩ := PR_FR.mp r.2.2.2.1
  have F1 := F.1
  simp only [Nat.zero_add, show 34 + 1 = 35 from rfl] at F1
  by_cases c : 1 ≤ a1 ∧ a1 ≤ 600 ∧ 1 ≤ h 35 0
  · obtain ⟨M, eM⟩ : ∃ M : Nat, a1 = (M : Int) := ⟨a1.toNat, by omega⟩
    obtain ⟨nm, en⟩ : ∃ nm : Nat, h 35 0 = (nm : Int) := ⟨(h 35 0).toNat, by omega⟩
    obtain ⟨h', b1, b2, b3, b4, b5, b6, b7⟩ := spend_b (f := 35) (M := M) (by omega) (by omega) en (FI_of F c.2.2)
    rw [← eM] at b1
    have e0 : ∀ k, hup h' 0 0 0 142 k = h 142 k := fun k => by rw [hup_n _ _ _ _ _ _ (by omega), b4 142 k (by unfold CM; omega)]
    obtain ⟨g', z1, z2, z3, z4⟩ := b7 (hup h' 0 0 0) (FE_of F e0)
    rw [← eM] at z1
    have e1 : h' 142 0 = h 35 0 := by rw [b4 142 0 (by unfold CM; omega)]; exact F1.2.2
    simp only [F_X11_run, F_X11_run_0, F_X11_outside, F_X11_outside_0, F_X11_answer, F_X11_answer_0, F_X11_none, F_X11_none_0]
    ((try simp only [hup_s, hup_c, hup_k, ne_eq, Nat.reduceEqDiff, not_false_eq_true]); repeat' (first | (with_reducible refine ev_ck ?_ ?_; first | omega | trivial) | with_reducible refine ev_bind ?_ | (with_reducible refine ev_nx ?_; first | simp only [hup_s, hup_c, hup_k, ne_eq, Nat.reduceEqDiff, not_false_eq_true] | dsimp only | skip) | (with_reducible refine ev_some ?_; first | simp only [hup_s, hup_c, hup_k, ne_eq, Nat.reduceEqDiff, not_false_eq_true] | dsimp only | skip) | (with_reducible refine ev_it ?_ ?_; first | omega | trivial) | (with_reducible refine ev_ie ?_ ?_; first | omega | trivial) | with_reducible refine ev_if (fun _ => ?_) (fun _ => ?_) | rw [b1]))
    simp only [F_X12_run, F_X12_run_0, F_X12_isFrom, F_X12_isFrom_0, F_X12_gives, F_X12_gives_0, F_X12_refuse, F_X12_refuse_0]
    ((try simp only [hup_s, hup_c, hup_k, ne_eq, Nat.reduceEqDiff, not_false_eq_true]); repeat' (first | (with_reducible refine ev_ck ?_ ?_; first | omega | trivial) | with_reducible refine ev_bind ?_ | (with_reducible refine ev_nx ?_; first | simp only [hup_s, hup_c, hup_k, ne_eq, Nat.reduceEqDiff, not_false_eq_true] | dsimp only | skip) | (with_reducible refine ev_some ?_; first | simp only [hup_s, hup_c, hup_k, ne_eq, Nat.reduceEqDiff, not_false_eq_true] | dsimp only | skip) | (with_reducible refine ev_it ?_ ?_; first | omega | trivial) | (with_reducible refine ev_ie ?_ ?_; first | omega | trivial) | with_reducible refine ev_if (fun _ => ?_) (fun _ => ?_) | rw [z1]))
    have mb := b6 (nm - 1)
    have ib := b2.2.2.1 (nm - 1) (by rw [b4 35 0 (by unfold CM; omega)]; omega)
    have Z : ∀ c k, OM c k → ¬ (c = 0 ∧ k = 0) → ¬ (c = 141 ∧ k = 1) → hup g' 141 1 0 c k = h' c k := fun c k q1 q2 q3 => by
      rw [hup_n _ _ _ _ _ _ q3, z3 c k q1, hup_n _ _ _ _ _ _ q2]
    refine ⟨by first | trivial | omega, by omega, RR_run (M := M) (h' := h') (nm := nm) (A := 0) (C := 0) r (by omega) (by omega) c.2.2 b2 (b3 (by omega)) b4 b5 ?_ Z ?_ ?_⟩
    · obtain ⟨x1, x2, x3, x4⟩ := z2
      refine ⟨?_, ?_, fun m a b => ?_, fun a => ⟨fun m a b s c => ?_, fun k a => ?_⟩⟩ <;> simp (disch := omega) only [hup_n]
      · exact x1
      · exact x2
      · exact x3 m a b
      · exact (x4 trivial).1 m a b s c
      · exact (x4 trivial).2 k a
    · rw [hup_n _ _ _ _ _ _ (by omega), z4, hup_n _ _ _ _ _ _ (by omega)]
    · obtain ⟨⟨-, s2, s3⟩, -⟩ := r
      unfold R1
      rw [hup_s, hup_n g' _ _ _ 0 0 (by omega), z3 0 0 (by unfold OM OG O3; omega), hup_s, Z 0 1 (by unfold OM OG O3; omega) (by omega) (by omega), Z 0 2 (by unfold OM OG O3; omega) (by omega) (by omega), Z 141 2 (by unfold OM OG O3; omega) (by omega) (by omega), Z 141 3 (by unfold OM OG O3; omega) (by omega) (by omega), b4 0 1 (by unfold CM; omega), b4 0 2 (by unfold CM; omega), b4 141 2 (by unfold CM; omega), b4 141 3 (by unfold CM; omega)]
      exact ⟨⟨by omega, by omega, rfl⟩, s2, s3⟩
  · simp only [F_X11_run, F_X11_run_0, F_X11_outside, F_X11_outside_0, F_X11_answer, F_X11_answer_0, F_X11_none, F_X11_none_0]
    ((try simp only [hup_s, hup_c, hup_k, ne_eq, Nat.reduceEqDiff, not_false_eq_true]); repeat' (first | (with_reducible refine ev_ck ?_ ?_; first | omega | trivial) | with_reducible refine ev_bind ?_ | (with_reducible refine ev_nx ?_; first | simp only [hup_s, hup_c, hup_k, ne_eq, Nat.reduceEqDiff, not_false_eq_true] | dsimp only | skip) | (with_reducible refine ev_some ?_; first | simp only [hup_s, hup_c, hup_k, ne_eq, Nat.reduceEqDiff, not_false_eq_true] | dsimp only | skip) | (with_reducible refine ev_it ?_ ?_; first | omega | trivial) | (with_reducible refine ev_ie ?_ ?_; first | omega | trivial) | with_reducible refine ev_if (fun _ => ?_) (fun _ => ?_)))
    all_goals (try (exfalso; omega))
    all_goals simp only [F_X12_run, F_X12_run_0, F_X12_isFrom, F_X12_isFrom_0, F_X12_gives, F_X12_gives_0, F_X12_refuse, F_X12_refuse_0]
    all_goals ((try simp only [hup_s, hup_c, hup_k, ne_eq, Nat.reduceEqDiff, not_false_eq_true]); repeat' (first | (with_reducible refine ev_ck ?_ ?_; first | omega | trivial) | with_reducible refine ev_bind ?_ | (with_reducible refine ev_nx ?_; first | simp only [hup_s, hup_c, hup_k, ne_eq, Nat.reduceEqDiff, not_false_eq_true] | dsimp only | skip) | (with_reducible refine ev_some ?_; first | simp only [hup_s, hup_c, hup_k, ne_eq, Nat.reduceEqDiff, not_false_eq_true] | dsimp only | skip) | (with_reducible refine ev_it ?_ ?_; first | omega | trivial) | (with_reducible refine ev_ie ?_ ?_; first | omega | trivial) | with_reducible refine ev_if (fun _ => ?_) (fun _ => ?_)))
    all_goals (first | (exfalso; omega) | (refine ⟨?_, ?_, RR_st (by omega) r⟩ <;> first | trivial | omega))
