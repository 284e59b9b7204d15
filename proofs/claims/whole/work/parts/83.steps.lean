/-! ===== work: a run, on a line with machines or without ===== -/
theorem spend_0 {M : Int} (hM : in32 M) : ∀ (d fu j : Nat) (h : MH), ((j + d : Nat) : Int) = M → d < fu → h 35 0 = 0 → F_X1_spend_7 fu 35 M 0 (j : Int) h = some (0, hup h 35 7 (h 35 7 + d)) := by
  intro d
  induction d with
  | zero =>
    intro fu j h e hf h0
    obtain ⟨fu, rfl⟩ : ∃ g, fu = g + 1 := ⟨fu - 1, by omega⟩
    rw [F_X1_spend_7]
    unfold F_X1_made F_X1_made_0 ck
    rw [if_pos (by omega), if_pos hM, if_pos (by omega), h0, if_pos (by omega), if_neg (by omega), bind_eq, hup_same _ _ _ _ (by omega)]
    rfl
  | succ d ih =>
    intro fu j h e hf h0
    obtain ⟨fu, rfl⟩ : ∃ g, fu = g + 1 := ⟨fu - 1, by omega⟩
    have g1 : F_X1_goOn 35 h = some (hup h 35 7 (h 35 7 + 1)) := by
      unfold F_X1_goOn F_X1_goOn_0
      rw [show (20000 : Nat) = 19999 + 1 from rfl, F_X1_goOn_2]
      unfold ck
      rw [if_pos (by omega), h0, if_pos (by omega), if_pos (by omega), nx_eq, show (20000 : Nat) = 19999 + 1 from rfl, F_X1_goOn_42]
      unfold ck
      rw [if_pos (by omega), if_pos (by omega), nx_eq]
    have n0 : hup h 35 7 (h 35 7 + 1) 35 0 = 0 := by rw [hup_n _ _ _ _ _ _ (by omega)]; exact h0
    have g2 : F_X1_countStates 35 (hup h 35 7 (h 35 7 + 1)) = some (hup h 35 7 (h 35 7 + 1)) := by
      unfold F_X1_countStates F_X1_countStates_0
      rw [show (20000 : Nat) = 19999 + 1 from rfl, F_X1_countStates_2]
      unfold ck
      rw [if_pos (by omega), n0, if_pos (by omega), if_pos (by omega)]
    have z := ih fu (j + 1) (hup h 35 7 (h 35 7 + 1)) (by omega) (by omega) n0
    rw [hup_s, hup_hup] at z
    rw [F_X1_spend_7]
    unfold ck
    rw [if_pos (by omega), if_pos hM, if_neg (by omega), g1, bind_eq, g2, bind_eq, show (j : Int) + 1 = ((j + 1 : Nat) : Int) by omega, z, show h 35 7 + 1 + (d : Int) = h 35 7 + ((d + 1 : Nat) : Int) by omega]
theorem runs_0 {M : Int} (hM : in32 M) : ∀ (d fu j : Nat) (g : MH), ((j + d : Nat) : Int) = M → d < fu → g 142 0 = 0 → F_X12_runs_8 fu M 0 (j : Int) g = some (0, hup g 142 2 (g 142 2 + d)) := by
  intro d
  induction d with
  | zero =>
    intro fu j g e hf g0
    obtain ⟨fu, rfl⟩ : ∃ g, fu = g + 1 := ⟨fu - 1, by omega⟩
    rw [F_X12_runs_8]
    unfold F_X12_made F_X12_made_0 ck
    rw [if_pos (by omega), if_pos hM, if_pos (by omega), g0, if_pos (by omega), if_neg (by omega), bind_eq, hup_same _ _ _ _ (by omega)]
    rfl
  | succ d ih =>
    intro fu j g e hf g0
    obtain ⟨fu, rfl⟩ : ∃ g, fu = g + 1 := ⟨fu - 1, by omega⟩
    have g1 : F_X12_minute g = some (hup g 142 2 (g 142 2 + 1)) := by
      unfold F_X12_minute F_X12_minute_0
      rw [nx_eq, g0, show (20000 : Nat) = 19999 + 1 from rfl, F_X12_minute_12]
      unfold ck
      rw [if_pos (by omega), if_pos (by omega), if_pos (by omega), show (20000 : Nat) = 19999 + 1 from rfl, F_X12_minute_30]
      unfold ck
      rw [if_pos (by omega), if_pos (by omega), show (20000 : Nat) = 19999 + 1 from rfl, F_X12_minute_48]
      unfold ck
      rw [if_pos (by omega), if_pos (by omega), if_pos (by omega), nx_eq]
    have n0 : hup g 142 2 (g 142 2 + 1) 142 0 = 0 := by rw [hup_n _ _ _ _ _ _ (by omega)]; exact g0
    have z := ih fu (j + 1) (hup g 142 2 (g 142 2 + 1)) (by omega) (by omega) n0
    rw [hup_s, hup_hup] at z
    rw [F_X12_runs_8]
    unfold ck
    rw [if_pos (by omega), if_pos hM, if_neg (by omega), g1, bind_eq, show (j : Int) + 1 = ((j + 1 : Nat) : Int) by omega, z, show g 142 2 + 1 + (d : Int) = g 142 2 + ((d + 1 : Nat) : Int) by omega]
/-- the floor's own side while a shift is worked: md minutes so far, on n machines -/
def WI (n B md : Nat) (h0 hc : MH) : Prop := hc 35 0 = (n : Int) ∧ n ≤ 6 ∧ (1 ≤ n → FI True 35 (600000 * B + 594 * md) (6000 * B + 6 * md) hc) ∧ (n = 0 → ∀ c k, 35 ≤ c → c ≤ 45 → ¬ (c = 35 ∧ k = 7) → hc c k = h0 c k) ∧
  FS 35 (fun _ s => -1 ≤ s ∧ s ≤ 3 ∧ (s = -1 ↔ hc 35 7 = 0)) hc ∧ hc 35 7 = h0 35 7 + md ∧ 0 ≤ h0 35 7
def WE (n md : Nat) (h0 hc g : MH) : Prop := FE True 35 hc g ∧ g 142 2 = hc 35 7 ∧ (n = 0 → ∀ k, k ≠ 2 → g 142 k = h0 142 k)
theorem FE_n0 {q : Prop} {h h' g g' : MH} (h0 : h 35 0 = 0) (w : ∀ c k, 35 ≤ c → c ≤ 45 → ¬ (c = 35 ∧ k = 7) → h' c k = h c k) (v : ∀ k, k ≠ 2 → g' 142 k = g 142 k) (e : FE q 35 h g) : FE q 35 h' g' := by
  obtain ⟨e1, e2, e3, e4⟩ := e
  have n0 : h' 35 0 = 0 := by rw [w 35 0 (by omega) (by omega) (by omega)]; exact h0
  refine ⟨by rw [v 0 (by omega), e1, w 35 0 (by omega) (by omega) (by omega)], by rw [v 4 (by omega), e2, w 35 6 (by omega) (by omega) (by omega)], fun m _ hm => by omega, fun hq => ⟨fun m _ hm => by omega, fun k hk => ?_⟩⟩
  rw [v _ (by omega), w _ _ (by omega) (by omega) (by omega)]
  exact (e4 hq).2 k hk
/-- M minutes of a shift -/
theorem wrun {n B md M : Nat} {h0 hc : MH} (w : WI n B md h0 hc) (hM : M ≤ 60) (hB : B ≤ 600) (hmd : md + M ≤ 1000) :
    ∃ (x : Int) (hc' : MH), F_X1_spend 35 (M : Int) hc = some (x, hc') ∧ (0 ≤ x ∧ x ≤ 594 * M) ∧ WI n B (md + M) h0 hc' ∧ Ag (CM 35) hc hc' ∧ ∀ g, WE n md h0 hc g → ∃ g', F_X12_runs (M : Int) g = some (x, g') ∧ WE n (md + M) h0 hc' g' ∧ Ag OM g g' := by
  obtain ⟨w1, w2, w3, w4, w5, w6, w7⟩ := w
  rcases Nat.eq_zero_or_pos n with q | q
  · subst q
    have z := spend_0 (M := (M : Int)) (by omega) M 20000 0 hc (by omega) (by omega) w1
    have K : ∀ c k, ¬ (c = 35 ∧ k = 7) → hup hc 35 7 (hc 35 7 + M) c k = hc c k := fun c k q => hup_n _ _ _ _ _ _ q
    refine ⟨0, hup hc 35 7 (hc 35 7 + M), ?_, by omega, ⟨by rw [K _ _ (by omega)]; exact w1, w2, fun q => absurd q (by omega), fun _ c k a b d => by rw [K c k d]; exact w4 rfl c k a b d, fun m hm => by rw [K _ _ (by omega)] at hm; omega, by rw [hup_s, w6]; omega, w7⟩, Ag.rf.up (by unfold CM; omega), fun g e => ?_⟩
    · unfold F_X1_spend F_X1_spend_0 F_X1_made F_X1_made_0 ck
      rw [w1, if_pos (by omega), if_neg (by omega), bind_eq]
      exact z
    · obtain ⟨e1, e2, e3⟩ := e
      have g0 : g 142 0 = 0 := by rw [e1.1]; exact w1
      have y := runs_0 (M := (M : Int)) (by omega) M 20000 0 g (by omega) (by omega) g0
      refine ⟨hup g 142 2 (g 142 2 + M), ?_, ⟨FE_n0 w1 (fun c k _ _ d => K c k d) (fun k hk => hup_n _ _ _ _ _ _ (by omega)) e1, by rw [hup_s, hup_s, e2], fun _ k hk => by rw [hup_n _ _ _ _ _ _ (by omega)]; exact e3 rfl k hk⟩, Ag.rf.up (by unfold OM OG O3; omega)⟩
      unfold F_X12_runs F_X12_runs_0 F_X12_made F_X12_made_0 ck
      rw [g0, if_pos (by omega), if_neg (by omega), bind_eq]
      exact y
  · obtain ⟨hc', b1, b2, b3, b4, b5, b6, b7⟩ := spend_b (f := 35) (M := M) (by omega) (by omega) w1 (w3 q)
    have mb := b6 (n - 1)
    refine ⟨hc' (35 + 7) (n - 1) - hc (35 + 7) (n - 1), hc', b1, by omega, ⟨by rw [b4 35 0 (by unfold CM; omega)]; exact w1, w2, fun _ => b2.up (by omega) (by omega), fun z => absurd z (by omega), fun m hm => ?_, by omega, w7⟩, b4, fun g e => ?_⟩
    · rcases Nat.eq_zero_or_pos M with z | z
      · have e0 : hc' = hc := by
          subst z
          have b1' := b1
          unfold F_X1_spend F_X1_spend_0 at b1'
          have r1 := (w3 q).1
          rw [made_c w1 (by omega) (by omega), bind_eq, show (20000 : Nat) = 19999 + 1 from rfl, F_X1_spend_7] at b1'
          unfold ck at b1'
          rw [if_pos (by omega), if_pos (by omega), if_pos (by omega), made_c w1 (by omega) (by omega), bind_eq] at b1'
          exact (congrArg Prod.snd (Option.some.inj b1')).symm
        rw [e0] at hm ⊢
        exact w5 m hm
      · have sp := b3 z m hm
        have s1 := sp.1
        have s2 := sp.2.1
        exact ⟨by omega, s2, by omega⟩
    · obtain ⟨e1, e2, e3⟩ := e
      obtain ⟨g', c1, c2, c3, c4⟩ := b7 g e1
      exact ⟨g', c1, ⟨c2, by rw [c4, b5, e2], fun z => absurd z (by omega)⟩, c3⟩
