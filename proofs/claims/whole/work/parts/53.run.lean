/-! ===== a minute, and many ===== -/
def CM (f c k : Nat) : Prop := ¬ (c = f ∧ (k = 6 ∨ k = 7)) ∧ ¬ (f + 5 ≤ c ∧ c ≤ f + 10)
def OM (c k : Nat) : Prop := OG c k ∧ O3 c k ∧ ¬ (c = 142 ∧ k = 2)
theorem FI_c9 {f : Nat} {A C : Int} {h h' : MH} (r : FI False f A C h') (a : Ag (C9 f) h h') : FI False f A C h := by
  have w : ∀ c k, c ≠ f + 9 → c ≠ f + 10 → h c k = h' c k := fun c k x y => (a c k ⟨x, y⟩).symm
  obtain ⟨r1, r2, r3, r4⟩ := r
  refine ⟨?_, ?_, fun m hm => ?_, fun x => x.elim⟩
  · rw [w _ _ (by omega) (by omega)]; exact r1
  · rw [w _ _ (by omega) (by omega)]; exact r2
  · rw [w _ _ (by omega) (by omega)] at hm
    have := r3 m hm
    rw [w (f + 1) m (by omega) (by omega), w (f + 2) m (by omega) (by omega), w (f + 3) m (by omega) (by omega), w (f + 4) m (by omega) (by omega), w (f + 5) m (by omega) (by omega), w (f + 7) m (by omega) (by omega), w (f + 8) m (by omega) (by omega)]
    exact this
theorem FE_c9 {f : Nat} {h h' g : MH} (r : FE False f h' g) (a : Ag (C9 f) h h') : FE False f h g := by
  have w : ∀ c k, c ≠ f + 9 → c ≠ f + 10 → h c k = h' c k := fun c k x y => (a c k ⟨x, y⟩).symm
  obtain ⟨r1, r2, r3, r4⟩ := r
  refine ⟨?_, ?_, fun m h6 hm => ?_, fun x => x.elim⟩
  · rw [w _ _ (by omega) (by omega)]; exact r1
  · rw [w _ _ (by omega) (by omega)]; exact r2
  · rw [w _ _ (by omega) (by omega)] at hm
    have := r3 m h6 hm
    rw [w (f + 1) m (by omega) (by omega), w (f + 2) m (by omega) (by omega), w (f + 3) m (by omega) (by omega), w (f + 4) m (by omega) (by omega), w (f + 5) m (by omega) (by omega), w (f + 6) m (by omega) (by omega), w (f + 7) m (by omega) (by omega), w (f + 8) m (by omega) (by omega)]
    exact this
/-- the class's minute without what is counted; the other's as far -/
theorem goOn_l {q : Prop} {f n : Nat} {A C : Int} {h : MH} (hf : f < 100) (hn : h f 0 = (n : Int)) (r : FI q f A C h) :
    ∃ h', F_X1_goOn f h = some h' ∧ FI q f (A + 594) C h' ∧ FS f (SP n 0) h' ∧ Ag (CM f) h h' ∧ h' f 7 = h f 7 + 1 ∧ MI f 594 h h' ∧
      ∀ g, FE q f h g → ∃ g', F_X12_minute g = F_X12_minute_48 20000 ((n : Int) - 1) 0 g' ∧ FE q f h' g' ∧ Ag OG g g' := by
  have r1 := r.1
  obtain ⟨h1, a1, a2, a3, a4, a7, a5⟩ := mlp1 (n := n) hf n 20000 20000 0 h (by omega) (by omega) (by omega) hn r (fun k hk x => absurd x (by omega))
  have hn1 : h1 f 0 = (n : Int) := by rw [a4 f 0 CG_0]; exact hn
  obtain ⟨h2, b1, b2, b3, b4, b7, b5⟩ := mlp2 (n := n) hf n 20000 20000 A h1 (by omega) (by omega) (by omega) hn1 a2 (fun k hk => by
    have := a3 k hk
    refine ⟨by omega, by omega, fun _ => by omega, fun _ => by omega, fun _ => this⟩)
  have c1 : h2 f 7 = h f 7 := by rw [b4 f 7 (by unfold CG; omega), a4 f 7 (by unfold CG; omega)]
  have w : ∀ c k, ¬ (c = f ∧ k = 7) → hup h2 f 7 (h2 f 7 + 1) c k = h2 c k := fun c k e => hup_n _ _ _ _ _ _ e
  refine ⟨hup h2 f 7 (h2 f 7 + 1), ?_, FI_min (b2.up (by omega) (by omega)), fun k hk => ?_, fun c k e => ?_, by rw [hup_s, c1], fun k => ?_, fun g x => ?_⟩
  · unfold F_X1_goOn F_X1_goOn_0
    rw [show (0 : Int) = ((0 : Nat) : Int) from rfl, a1, b1]
  · rw [w _ _ (by omega)] at hk
    rw [w _ _ (by omega)]
    exact b3 k hk
  · unfold CM at e
    rw [w _ _ (by omega), b4 c k (by unfold CG; omega), a4 c k (by unfold CG; omega)]
  · rw [w _ _ (by omega)]
    have := b7 k; have := a7 k; omega
  · obtain ⟨g1, y1, y2, y3⟩ := a5 g x
    obtain ⟨g2, z1, z2, z3⟩ := b5 g1 y2
    refine ⟨g2, ?_, FE_min z2, y3.tr z3⟩
    unfold F_X12_minute F_X12_minute_0
    rw [nx_eq, x.1, hn, show (0 : Int) = ((0 : Nat) : Int) from rfl, y1, z1]
    rfl
/-- a counted minute -/
theorem tick {q : Prop} {f n : Nat} {A C : Int} {h : MH} (hf : f < 100) (hn : h f 0 = (n : Int)) (r : FI q f A C h) :
    ∃ h1 h2, F_X1_goOn f h = some h1 ∧ F_X1_countStates f h1 = some h2 ∧ FI q f (A + 594) (C + 6) h2 ∧ FS f (SP n 0) h2 ∧ Ag (CM f) h h2 ∧ h2 f 7 = h f 7 + 1 ∧ MI f 594 h h2 ∧ Ag (C9 f) h1 h2 ∧
      ∀ g, FE q f h g → ∃ g', F_X12_minute g = some g' ∧ FE q f h2 g' ∧ Ag OM g g' ∧ g' 142 2 = g 142 2 + 1 ∧ CN f n 0 h2 g g' := by
  have r1 := r.1
  obtain ⟨h1, a1, a2, a3, a4, a5, a7, a6⟩ := goOn_l hf hn r
  have hn1 : h1 f 0 = (n : Int) := by rw [a4 f 0 (by unfold CM; omega)]; exact hn
  obtain ⟨h2, b1, b2, b3, b4⟩ := mlp3 hf (show n ≤ 6 by omega) n 20000 20000 0 C h1 (by omega) (by omega) (by omega) hn1 a2 a3
  refine ⟨h1, h2, a1, ?_, b2.up (by omega) (by omega), FS_C9 a3 b3, fun c k e => ?_, ?_, fun k => ?_, b3, fun g x => ?_⟩
  · unfold F_X1_countStates F_X1_countStates_0
    exact b1
  · rw [b3 c k (by unfold CM at e; unfold C9; omega), a4 c k e]
  · rw [b3 f 7 (by unfold C9; omega), a5]
  · rw [b3 (f + 7) k (by unfold C9; omega)]; exact a7 k
  · obtain ⟨g1, y1, y2, y3⟩ := a6 g x
    obtain ⟨g2, z1, z2, z3, z4⟩ := b4 g1 y2
    refine ⟨_, y1.trans z1, FE_oth (Or.inl rfl) z2, ?_, ?_, ?_⟩
    · intro c k e
      unfold OM at e
      rw [hup_n _ _ _ _ _ _ (by omega), z3 c k e.2.1, y3 c k e.1]
    · rw [hup_s, z3 142 2 (by unfold O3; omega), y3 142 2 (by unfold OG; omega)]
    · intro m' s a b
      rw [hup_n _ _ _ _ _ _ (by omega), z4 m' s a b, y3 142 _ (by unfold OG; omega), b3 (f + 6) m' (by unfold C9; omega)]
/-- a minute of a trial -/
theorem tick0 {f n : Nat} {A C : Int} {h : MH} (hf : f < 100) (hn : h f 0 = (n : Int)) (r : FI False f A C h) :
    ∃ h1, F_X1_goOn f h = some h1 ∧ FI False f (A + 594) C h1 ∧ FS f (SP n 0) h1 ∧ Ag (CM f) h h1 ∧ MI f 594 h h1 ∧
      ∀ g, FE False f h g → ∃ g', F_X12_minute g = some g' ∧ FE False f h1 g' ∧ Ag OM g g' ∧ CN f n 0 h1 g g' := by
  obtain ⟨h1, a1, a2, a3, a4, a5, a7, a6⟩ := goOn_l hf hn r
  obtain ⟨k1, h2, b1, b2, b3, b4, b5, b6, b7, b8, b9⟩ := tick hf hn r
  have e : k1 = h1 := by rw [a1] at b1; exact (Option.some.inj b1).symm
  subst e
  refine ⟨k1, a1, a2, a3, a4, a7, fun g x => ?_⟩
  obtain ⟨g', z1, z2, z3, z4, z5⟩ := b9 g x
  refine ⟨g', z1, FE_c9 z2 b8, z3, fun m' s a b => ?_⟩
  rw [z5 m' s a b, b8 (f + 6) m' (by unfold C9; omega)]
theorem made_c {f n : Nat} {h : MH} (hn : h f 0 = (n : Int)) (h1 : 1 ≤ n) (h6 : n ≤ 6) : F_X1_made f h = some (h (f + 7) (n - 1), h) := by
  unfold F_X1_made F_X1_made_0 ck
  rw [hn, if_pos (by omega), if_pos (by omega), if_pos (by omega), show ((n : Int) - 1).toNat = n - 1 by omega]
theorem made_o {q : Prop} {f n : Nat} {h g : MH} (hn : h f 0 = (n : Int)) (h1 : 1 ≤ n) (h6 : n ≤ 6) (x : FE q f h g) : F_X12_made g = some (h (f + 7) (n - 1), g) := by
  obtain ⟨w0, w1, w2, w3, w4, w5, w6, w7⟩ := x.2.2.1 (n - 1) (by omega) (by omega)
  unfold F_X12_made F_X12_made_0 F_X12_ofMachine F_X12_ofMachine_0 F_X12_machineAt F_X12_machineAt_0 ck
  simp only [bind_eq]
  rw [x.1, hn, if_pos (by omega), if_pos (by omega), if_pos (by omega), show ((0 : Int) + 8 + 16 * ((n : Int) - 1) + 6).toNat = 8 + 16 * (n - 1) + 6 by omega, w5, bind_eq]
theorem spend_l {q : Prop} {f n : Nat} {M : Int} (hf : f < 100) (hM : in32 M) : ∀ (d fu fu' j : Nat) (A C : Int) (h : MH), ((j + d : Nat) : Int) = M → d < fu → d < fu' → h f 0 = (n : Int) → FI q f A C h →
    ∃ h', (∀ x2, F_X1_spend_7 fu f M x2 (j : Int) h = some (h' (f + 7) (n - 1) - x2, h')) ∧ FI q f (A + 594 * d) (C + 6 * d) h' ∧ (1 ≤ d → FS f (SP n 0) h') ∧ Ag (CM f) h h' ∧ h' f 7 = h f 7 + d ∧ MI f (594 * d) h h' ∧
      ∀ x2 g, FE q f h g → ∃ g', F_X12_runs_8 fu' M x2 (j : Int) g = some (h' (f + 7) (n - 1) - x2, g') ∧ FE q f h' g' ∧ Ag OM g g' ∧ g' 142 2 = g 142 2 + d := by
  intro d
  induction d with
  | zero =>
    intro fu fu' j A C h e1 l1 l2 hn r
    obtain ⟨fu, rfl⟩ : ∃ g, fu = g + 1 := ⟨fu - 1, by omega⟩
    obtain ⟨fu', rfl⟩ : ∃ g, fu' = g + 1 := ⟨fu' - 1, by omega⟩
    have r1 := r.1
    refine ⟨h, fun x2 => ?_, r.up (by omega) (by omega), fun x => absurd x (by omega), Ag.rf, by omega, (MI.eq fun _ => rfl).up (by omega), fun x2 g x => ⟨g, ?_, x, Ag.rf, by omega⟩⟩
    · rw [F_X1_spend_7]
      unfold ck
      rw [if_pos (by omega), if_pos hM, if_pos (by omega), made_c hn (by omega) (by omega), bind_eq]
    · rw [F_X12_runs_8]
      unfold ck
      rw [if_pos (by omega), if_pos hM, if_pos (by omega), made_o hn (by omega) (by omega) x, bind_eq]
  | succ d ih =>
    intro fu fu' j A C h e1 l1 l2 hn r
    obtain ⟨fu, rfl⟩ : ∃ g, fu = g + 1 := ⟨fu - 1, by omega⟩
    obtain ⟨fu', rfl⟩ : ∃ g, fu' = g + 1 := ⟨fu' - 1, by omega⟩
    have r1 := r.1
    have ej : (j : Int) + 1 = ((j + 1 : Nat) : Int) := by omega
    obtain ⟨h1, h2, a1, a2, a3, a4, a5, a6, a7, a8, a9⟩ := tick hf hn r
    obtain ⟨h', b1, b2, b3, b4, b5, b6, b7⟩ := ih fu fu' (j + 1) (A + 594) (C + 6) h2 (by omega) (by omega) (by omega) (by rw [a5 f 0 (by unfold CM; omega)]; exact hn) a3
    have dz : d = 0 → h' = h2 := fun e => by
      subst e
      obtain ⟨fu, rfl⟩ : ∃ g, fu = g + 1 := ⟨fu - 1, by omega⟩
      have z := b1 0
      have hn2 : h2 f 0 = (n : Int) := by rw [a5 f 0 (by unfold CM; omega)]; exact hn
      rw [F_X1_spend_7] at z
      unfold ck at z
      rw [if_pos (by omega), if_pos hM, if_pos (by omega), made_c hn2 (by omega) (by omega), bind_eq] at z
      exact (congrArg Prod.snd (Option.some.inj z)).symm
    refine ⟨h', fun x2 => ?_, b2.up (by omega) (by omega), fun _ => ?_, a5.tr b4, by omega, (a7.tr b6).up (by omega), fun x2 g x => ?_⟩
    · rw [← b1, F_X1_spend_7]
      unfold ck
      rw [if_pos (by omega), if_pos hM, if_neg (by omega), a1, bind_eq, a2, bind_eq, ej]
    · rcases Nat.eq_zero_or_pos d with e | e
      · rw [dz e]; exact a4
      · exact b3 e
    · obtain ⟨g1, y1, y2, y3, y4, y5⟩ := a9 g x
      obtain ⟨g', z1, z2, z3, z4⟩ := b7 x2 g1 y2
      refine ⟨g', ?_, z2, y3.tr z3, by omega⟩
      rw [← z1, F_X12_runs_8]
      unfold ck
      rw [if_pos (by omega), if_pos hM, if_neg (by omega), y1, bind_eq, ej]
theorem would_l {f n : Nat} {M : Int} (hf : f < 100) (hM : in32 M) : ∀ (d fu fu' j : Nat) (A C : Int) (h : MH), ((j + d : Nat) : Int) = M → d < fu → d < fu' → h f 0 = (n : Int) → FI False f A C h →
    ∃ h', (∀ x2, F_X1_wouldMake_7 fu f M x2 (j : Int) h = some (h' (f + 7) (n - 1) - x2, h')) ∧ FI False f (A + 594 * d) C h' ∧ Ag (CM f) h h' ∧ MI f (594 * d) h h' ∧
      ∀ x2 g, FE False f h g → ∃ g', F_X12_runs_8 fu' M x2 (j : Int) g = some (h' (f + 7) (n - 1) - x2, g') ∧ FE False f h' g' ∧ Ag OM g g' := by
  intro d
  induction d with
  | zero =>
    intro fu fu' j A C h e1 l1 l2 hn r
    obtain ⟨fu, rfl⟩ : ∃ g, fu = g + 1 := ⟨fu - 1, by omega⟩
    obtain ⟨fu', rfl⟩ : ∃ g, fu' = g + 1 := ⟨fu' - 1, by omega⟩
    have r1 := r.1
    refine ⟨h, fun x2 => ?_, r.up (by omega) (by omega), Ag.rf, (MI.eq fun _ => rfl).up (by omega), fun x2 g x => ⟨g, ?_, x, Ag.rf⟩⟩
    · rw [F_X1_wouldMake_7]
      unfold ck
      rw [if_pos (by omega), if_pos hM, if_pos (by omega), made_c hn (by omega) (by omega), bind_eq]
    · rw [F_X12_runs_8]
      unfold ck
      rw [if_pos (by omega), if_pos hM, if_pos (by omega), made_o hn (by omega) (by omega) x, bind_eq]
  | succ d ih =>
    intro fu fu' j A C h e1 l1 l2 hn r
    obtain ⟨fu, rfl⟩ : ∃ g, fu = g + 1 := ⟨fu - 1, by omega⟩
    obtain ⟨fu', rfl⟩ : ∃ g, fu' = g + 1 := ⟨fu' - 1, by omega⟩
    have r1 := r.1
    have ej : (j : Int) + 1 = ((j + 1 : Nat) : Int) := by omega
    obtain ⟨h1, a1, a2, a3, a4, a5, a6⟩ := tick0 hf hn r
    obtain ⟨h', b1, b2, b3, b4, b5⟩ := ih fu fu' (j + 1) (A + 594) C h1 (by omega) (by omega) (by omega) (by rw [a4 f 0 (by unfold CM; omega)]; exact hn) a2
    refine ⟨h', fun x2 => ?_, b2.up (by omega) (by omega), a4.tr b3, (a5.tr b4).up (by omega), fun x2 g x => ?_⟩
    · rw [← b1, F_X1_wouldMake_7]
      unfold ck
      rw [if_pos (by omega), if_pos hM, if_neg (by omega), a1, bind_eq, ej]
    · obtain ⟨g1, y1, y2, y3, y4⟩ := a6 g x
      obtain ⟨g', z1, z2, z3⟩ := b5 x2 g1 y2
      refine ⟨g', ?_, z2, y3.tr z3⟩
      rw [← z1, F_X12_runs_8]
      unfold ck
      rw [if_pos (by omega), if_pos hM, if_neg (by omega), y1, bind_eq, ej]
/-- spend, as a whole -/
theorem spend_b {q : Prop} {f n M : Nat} {A C : Int} {h : MH} (hf : f < 100) (hM : M ≤ 1000) (hn : h f 0 = (n : Int)) (r : FI q f A C h) :
    ∃ h', F_X1_spend f (M : Int) h = some (h' (f + 7) (n - 1) - h (f + 7) (n - 1), h') ∧ FI q f (A + 594 * M) (C + 6 * M) h' ∧ (1 ≤ M → FS f (SP n 0) h') ∧ Ag (CM f) h h' ∧ h' f 7 = h f 7 + M ∧ MI f (594 * M) h h' ∧
      ∀ g, FE q f h g → ∃ g', F_X12_runs (M : Int) g = some (h' (f + 7) (n - 1) - h (f + 7) (n - 1), g') ∧ FE q f h' g' ∧ Ag OM g g' ∧ g' 142 2 = g 142 2 + M := by
  have r1 := r.1
  obtain ⟨h', a1, a2, a3, a4, a5, a6, a7⟩ := spend_l (M := (M : Int)) hf (by omega) M 20000 20000 0 A C h (by omega) (by omega) (by omega) hn r
  refine ⟨h', ?_, a2, a3, a4, a5, a6, fun g x => ?_⟩
  · unfold F_X1_spend F_X1_spend_0
    rw [made_c hn (by omega) (by omega), bind_eq]
    exact a1 _
  · obtain ⟨g', z1, z2⟩ := a7 (h (f + 7) (n - 1)) g x
    refine ⟨g', ?_, z2⟩
    unfold F_X12_runs F_X12_runs_0
    rw [made_o hn (by omega) (by omega) x, bind_eq]
    exact z1
theorem would_b {f n M : Nat} {A C : Int} {h : MH} (hf : f < 100) (hM : M ≤ 1000) (hn : h f 0 = (n : Int)) (r : FI False f A C h) :
    ∃ h', F_X1_wouldMake f (M : Int) h = some (h' (f + 7) (n - 1) - h (f + 7) (n - 1), h') ∧ FI False f (A + 594 * M) C h' ∧ Ag (CM f) h h' ∧ MI f (594 * M) h h' ∧
      ∀ g, FE False f h g → ∃ g', F_X12_runs (M : Int) g = some (h' (f + 7) (n - 1) - h (f + 7) (n - 1), g') ∧ FE False f h' g' ∧ Ag OM g g' := by
  have r1 := r.1
  obtain ⟨h', a1, a2, a3, a4, a5⟩ := would_l (M := (M : Int)) hf (by omega) M 20000 20000 0 A C h (by omega) (by omega) (by omega) hn r
  refine ⟨h', ?_, a2, a3, a4, fun g x => ?_⟩
  · unfold F_X1_wouldMake F_X1_wouldMake_0
    rw [made_c hn (by omega) (by omega), bind_eq]
    exact a1 _
  · obtain ⟨g', z1, z2⟩ := a5 (h (f + 7) (n - 1)) g x
    refine ⟨g', ?_, z2⟩
    unfold F_X12_runs F_X12_runs_0
    rw [made_o hn (by omega) (by omega) x, bind_eq]
    exact z1
