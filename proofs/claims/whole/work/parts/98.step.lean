/-! ===== a step and an end are read, on both sides ===== -/
def pre124 (K : Int) (x : Nat) (g : MH) : MH := hup (hup (hup (hup (hup g 142 (x + 1) 0) 142 (x + 2) 0) 142 (x + 3) 0) 142 x K) 142 1765 (hup (hup (hup (hup g 142 (x + 1) 0) 142 (x + 2) 0) 142 (x + 3) 0) 142 x K 142 1765 + 1)
theorem pre_n {K : Int} {x c k : Nat} {g : MH} (z : ¬ (c = 142 ∧ (k = 1765 ∨ (x ≤ k ∧ k ≤ x + 3)))) : pre124 K x g c k = g c k := by
  unfold pre124
  rw [hup_n _ _ _ _ _ _ (by omega), hup_n _ _ _ _ _ _ (by omega), hup_n _ _ _ _ _ _ (by omega), hup_n _ _ _ _ _ _ (by omega), hup_n _ _ _ _ _ _ (by omega)]
theorem pre_5 {K : Int} {x : Nat} {g : MH} (z : 1950 ≤ x) : pre124 K x g 142 1765 = g 142 1765 + 1 := by
  unfold pre124
  rw [hup_s, hup_n _ _ _ _ _ _ (by omega), hup_n _ _ _ _ _ _ (by omega), hup_n _ _ _ _ _ _ (by omega), hup_n _ _ _ _ _ _ (by omega)]
theorem pre_x {K : Int} {x : Nat} {g : MH} (z : 1950 ≤ x) : pre124 K x g 142 x = K := by
  unfold pre124
  rw [hup_n _ _ _ _ _ _ (by omega), hup_s]
theorem pre_2 {K : Int} {x : Nat} {g : MH} (z : 1950 ≤ x) : pre124 K x g 142 (x + 2) = 0 := by
  unfold pre124
  rw [hup_n _ _ _ _ _ _ (by omega), hup_n _ _ _ _ _ _ (by omega), hup_n _ _ _ _ _ _ (by omega), hup_s]
theorem t124 {f : Nat} {K E : Int} {x : Nat} {g : MH} (hK : 0 ≤ K ∧ K ≤ 6) (hx : x + 3 < 2640) : F_X12_step_124 (f + 1 + 1 + 1 + 1) K E (x : Int) 1 g = (F_X12_ahead (pre124 K x g)).bind fun q => mdet K E (x : Int) q := by
  rw [F_X12_step_124]
  unfold ck
  rw [if_pos (by omega), if_neg (by omega), if_pos (by omega), nx_eq, show ((x : Int) + 1).toNat = x + 1 by omega, show (1 : Int) + 1 = 2 from rfl]
  rw [F_X12_step_124]
  unfold ck
  rw [if_pos (by omega), if_neg (by omega), if_pos (by omega), nx_eq, show ((x : Int) + 2).toNat = x + 2 by omega, show (2 : Int) + 1 = 3 from rfl]
  rw [F_X12_step_124]
  unfold ck
  rw [if_pos (by omega), if_neg (by omega), if_pos (by omega), nx_eq, show ((x : Int) + 3).toNat = x + 3 by omega, show (3 : Int) + 1 = 4 from rfl]
  rw [F_X12_step_124]
  unfold ck
  rw [if_pos (by omega), if_pos (by omega), if_pos (by omega), if_pos (by omega), nx_eq, nx_eq, show ((x : Int)).toNat = x by omega]
  rfl
def psh (K : Int) (E dp : Nat) (g : MH) : MH := if K = 4 ∨ K = 5 then hup (hup g 150 dp (E : Int)) 141 21 ((dp : Int) + 1) else g
def psc (K : Int) (n dp : Nat) (h : MH) : MH := if K = 4 ∨ K = 5 then hup (hup h 33 dp (n : Int)) 27 3 ((dp : Int) + 1) else h
theorem psh_n {K : Int} {E dp c k : Nat} {g : MH} (z1 : ¬ (c = 150 ∧ k = dp)) (z2 : ¬ (c = 141 ∧ k = 21)) : psh K E dp g c k = g c k := by
  unfold psh
  by_cases y : K = 4 ∨ K = 5
  · rw [if_pos y, hup_n _ _ _ _ _ _ z2, hup_n _ _ _ _ _ _ z1]
  · rw [if_neg y]
theorem psc_n {K : Int} {n dp c k : Nat} {h : MH} (z1 : ¬ (c = 33 ∧ k = dp)) (z2 : ¬ (c = 27 ∧ k = 3)) : psc K n dp h c k = h c k := by
  unfold psc
  by_cases y : K = 4 ∨ K = 5
  · rw [if_pos y, hup_n _ _ _ _ _ _ z2, hup_n _ _ _ _ _ _ z1]
  · rw [if_neg y]
theorem psh_y {K : Int} {E dp : Nat} {g : MH} (y : K = 4 ∨ K = 5) : psh K E dp g 150 dp = (E : Int) ∧ psh K E dp g 141 21 = (dp : Int) + 1 := by
  unfold psh
  rw [if_pos y]
  exact ⟨by rw [hup_n _ _ _ _ _ _ (by omega), hup_s], hup_s _ _ _ _⟩
theorem psc_y {K : Int} {n dp : Nat} {h : MH} (y : K = 4 ∨ K = 5) : psc K n dp h 33 dp = (n : Int) ∧ psc K n dp h 27 3 = (dp : Int) + 1 := by
  unfold psc
  rw [if_pos y]
  exact ⟨by rw [hup_n _ _ _ _ _ _ (by omega), hup_s], hup_s _ _ _ _⟩
theorem psh_z {K : Int} {E dp : Nat} {g : MH} (y : ¬ (K = 4 ∨ K = 5)) : psh K E dp g = g := if_neg y
theorem psc_z {K : Int} {n dp : Nat} {h : MH} (y : ¬ (K = 4 ∨ K = 5)) : psc K n dp h = h := if_neg y
theorem t333 {K x : Int} {E dp : Nat} {g : MH} (hK : 0 ≤ K ∧ K ≤ 5) (g21 : g 141 21 = (dp : Int)) (hd : K = 4 ∨ K = 5 → dp < 3) : F_X12_step_333 K (E : Int) x 1 g = F_X12_step_421 1 (psh K E dp g) := by
  by_cases y : K = 4 ∨ K = 5
  · have d := hd y
    have e : F_X12_step_343 K (E : Int) x 1 g = F_X12_step_421 1 (psh K E dp g) := by
      unfold F_X12_step_343 ck psh
      rw [if_pos y, g21, if_pos (by omega), nx_eq, nx_eq, hup_n _ _ _ _ 141 21 (by omega), g21, show ((dp : Int)).toNat = dp by omega]
      unfold F_X12_step_363 ck
      rw [if_pos (by omega), if_pos (by omega)]
    unfold F_X12_step_333 ck
    rw [if_pos (by omega), e]
    by_cases w : K = 4
    · rw [if_pos w]
    · rw [if_neg w, if_neg (by omega)]
  · unfold F_X12_step_333 F_X12_step_363 ck
    rw [psh_z y, if_pos (by omega), if_neg (by omega), if_pos (by omega), if_pos (by omega), if_pos (by omega)]
def TN (L : Nat) (h : MH) (b : Int) (h' g' : MH) : Prop := (b = 1 ∧ S0 L h' g' ∧ (∃ E n dp : Nat, PI E n dp h' g') ∧ h 8 3 ≤ h' 8 5) ∨ (b = 0 ∧ FT h' g')
def HS (h h' : MH) : Prop := ∀ c k, ¬ (c = 8 ∧ 3 ≤ k ∧ k ≤ 10) → ¬ (27 ≤ c ∧ c ≤ 33) → h' c k = h c k
def GS (g g' : MH) : Prop := ∀ c k, ¬ (c = 141 ∧ 11 ≤ k ∧ k ≤ 22) → c ≠ 150 → ¬ (c = 142 ∧ 1760 ≤ k) → g' c k = g c k
theorem st79 {L E n dp : Nat} {K op : Int} {h g : MH} (s : S0 L h g) (p : PI E n dp h g) (k1 : h 8 4 = 1) (hK : 0 ≤ K ∧ K ≤ 5) (hop : (op = 1 ∧ (K = 4 ∨ K = 5) ∧ dp < 3) ∨ (op = 0 ∧ ¬ (K = 4 ∨ K = 5))) :
    ∃ b h' g', F_X7_takeStep_55 K op h = some (b, h') ∧ F_X12_step_79 K (E : Int) ((1760 + 190 + 4 * E : Nat) : Int) g = some (b, g') ∧ TN L h b h' g' ∧ HS h h' ∧ GS g g' := by
  have bb := p.b
  obtain ⟨⟨p1, p2, p3, p4, p5⟩, -⟩ := id p
  by_cases q : n = 30
  · obtain ⟨h', g', a1, a2, a3, a4, a5⟩ := fl_w s (by omega) (c := 6) (by omega)
    refine ⟨0, h', g', ?_, ?_, Or.inr ⟨rfl, a3⟩, fun c k z1 z2 => a4 c k z1, fun c k z1 z2 z3 => a5 c k (by omega)⟩
    · unfold F_X7_takeStep_55 ck
      rw [p3, if_pos (by omega), if_neg (by omega), a1, bind_eq]
      dsimp only
      rw [if_pos (by omega)]
    · unfold F_X12_step_79 ck
      rw [if_pos (by omega), if_neg (by omega), p2, if_pos (by omega), if_neg (by omega), a2, bind_eq]
      dsimp only
      rw [if_pos (by omega)]
  · have hn : n < 30 := by omega
    obtain ⟨x, hx⟩ : ∃ x, x = 1760 + 190 + 4 * E := ⟨_, rfl⟩
    rw [← hx]
    generalize eB : hup (hup h 28 0 ((n : Int) + 1)) 29 n K = hB
    have nB : ∀ c k, ¬ (c = 28 ∧ k = 0) → ¬ (c = 29 ∧ k = n) → hB c k = h c k := fun c k z1 z2 => by rw [← eB, hup_n _ _ _ _ _ _ z2, hup_n _ _ _ _ _ _ z1]
    have B29 : hB 29 n = K := by rw [← eB, hup_s]
    have B28 : hB 28 0 = (n : Int) + 1 := by rw [← eB, hup_n _ _ _ _ _ _ (by omega), hup_s]
    have B27 : hB 27 3 = (dp : Int) := by rw [nB _ _ (by omega) (by omega)]; exact p4
    generalize eA : psc K n dp hB = hA
    have nA : ∀ c k, ¬ (c = 33 ∧ k = dp) → ¬ (c = 27 ∧ k = 3) → hA c k = hB c k := fun c k z1 z2 => by rw [← eA, psc_n z1 z2]
    have c55 : F_X7_takeStep_55 K op h = F_X7_takeStep_132 K (n : Int) hA := by
      unfold F_X7_takeStep_55 ck
      rw [p3, if_pos (by omega), if_pos (by omega), nx_eq, nx_eq, if_pos (by omega), nx_eq, show ((n : Int)).toNat = n by omega, eB, if_pos (by omega), ← eA]
      unfold psc
      rcases hop with ⟨o1, o2, o3⟩ | ⟨o1, o2⟩
      · rw [if_neg (by omega), B27, if_pos (by omega), nx_eq, nx_eq, hup_n _ _ _ _ 27 3 (by omega), B27, if_pos o2, show ((dp : Int)).toNat = dp by omega]
      · rw [if_pos o1, if_neg o2]
    generalize eG : pre124 K x (hup g 141 22 ((n : Int) + 1)) = gA
    have nG : ∀ c k, ¬ (c = 142 ∧ (k = 1765 ∨ (x ≤ k ∧ k ≤ x + 3))) → ¬ (c = 141 ∧ k = 22) → gA c k = g c k := fun c k z1 z2 => by rw [← eG, pre_n z1, hup_n _ _ _ _ _ _ z2]
    have G22 : gA 141 22 = (n : Int) + 1 := by rw [← eG, pre_n (by omega), hup_s]
    have G5 : gA 142 1765 = (E : Int) + 1 := by rw [← eG, pre_5 (by omega), hup_n _ _ _ _ _ _ (by omega), p1]
    have Gx : gA 142 x = K := by rw [← eG, pre_x (by omega)]
    have G2 : gA 142 (x + 2) = 0 := by rw [← eG, pre_2 (by omega)]
    have m79 : F_X12_step_79 K (E : Int) (x : Int) g = (F_X12_ahead gA).bind fun q => mdet K (E : Int) (x : Int) q := by
      unfold F_X12_step_79 F_X12_step_101 F_X12_step_117 ck
      rw [if_pos (by omega), if_neg (by omega), p2, if_pos (by omega), if_pos (by omega), if_pos (by omega), if_neg (by omega), nx_eq, show (20000 : Nat) = 19996 + 1 + 1 + 1 + 1 from rfl, t124 (by omega) (by omega), eG]
    obtain ⟨h2, g2, b1, b2, b3, b4, b5, b6, b7⟩ := adv (h := hA) (g := gA) (s.f (fun c k z => by rw [nA _ _ (by omega) (by omega), nB _ _ (by omega) (by omega)]) (fun c k z => nG _ _ (by omega) (by omega)))
    have A83 : hA 8 3 = h 8 3 := by rw [nA _ _ (by omega) (by omega), nB _ _ (by omega) (by omega)]
    have g21 : g2 141 21 = (dp : Int) := by rw [b7 _ _ (by omega), nG _ _ (by omega) (by omega)]; exact p5
    obtain ⟨b, h3, g3, d1, d2, d3⟩ := det_l (n := n) (x := x) (K := K) (E := (E : Int)) b3 hK hn (by omega) (fun z => by rw [g21] <;> omega) (by rw [b7 _ _ (by omega)]; exact G2)
    rcases d3 with ⟨e1, e2, e3, e4, e5, e6⟩ | ⟨e1, e2, e3, e4⟩
    · obtain ⟨b', h5, g5, f1, f2, f3, f4, f5⟩ := sign_l (h := h3) (g := psh K E dp g3) (e2.f (fun _ _ _ => rfl) (fun c k z => psh_n (by omega) (by omega)))
      have k3 := e2.k.2.2.1
      have g321 : g3 141 21 = (dp : Int) := by rw [e6 _ _ (by omega) (by omega)]; exact g21
      have hb : b' = 0 ∨ b' = 1 := by rcases f3 with ⟨z, _⟩ | ⟨z, _⟩ <;> omega
      have HN : ∀ c k, ¬ (c = 8 ∧ 3 ≤ k ∧ k ≤ 10) → ¬ ((c = 30 ∨ c = 31) ∧ k = n) → h5 c k = hA c k := fun c k z1 z2 => by rw [f4 c k z1, d2 c k z1 z2, b6 c k z1]
      have GN : ∀ c k, ¬ (c = 141 ∧ 11 ≤ k ∧ k ≤ 17) → ¬ (c = 142 ∧ (k = x + 1 ∨ k = x + 2)) → ¬ (c = 150 ∧ k = dp) → ¬ (c = 141 ∧ k = 21) → g5 c k = gA c k := fun c k z1 z2 z3 z4 => by rw [f5 c k z1, psh_n z3 z4, e6 c k z1 z2, b7 c k z1]
      have cl : F_X7_takeStep_55 K op h = if b' = 0 then some (0, h5) else some (1, h5) := by
        rw [c55]
        unfold F_X7_takeStep_132 ck
        rw [b1, bind_eq, d1, e1, bind_eq]
        dsimp only
        rw [if_pos (by omega), if_neg (by omega), f1, bind_eq]
        dsimp only
        rw [if_pos (by omega)]
      have ol : F_X12_step_79 K (E : Int) (x : Int) g = if b' = 0 then some (0, g5) else some (1, g5) := by
        rw [m79, b2, bind_eq, e4, t333 hK g321 (fun z => by omega)]
        unfold F_X12_step_421 ck
        rw [if_pos (by omega), if_neg (by omega), f2, bind_eq]
        dsimp only
        rw [if_pos (by omega)]
      have fh : HS h h5 := fun c k z1 z2 => by rw [HN c k z1 (by omega), nA _ _ (by omega) (by omega), nB _ _ (by omega) (by omega)]
      have fg : GS g g5 := fun c k z1 z2 z3 => by rw [GN c k (by omega) (by omega) (by omega) (by omega), nG _ _ (by omega) (by omega)]
      rcases f3 with ⟨u1, u2, u3⟩ | ⟨u1, u2⟩
      · rw [u1, if_neg (by omega)] at cl ol
        refine ⟨1, h5, g5, cl, ol, Or.inl ⟨rfl, u2, ?_, by omega⟩, fh, fg⟩
        have G50 : ∀ k, g5 150 k = psh K E dp g3 150 k := fun k => f5 _ _ (by omega)
        have G521 : g5 141 21 = psh K E dp g3 141 21 := f5 _ _ (by omega)
        have dtx : DT K n (1760 + 190 + 4 * E) h5 g5 := by
          rw [← hx]
          unfold DT at e5 ⊢
          rw [f4 30 n (by omega), f4 31 n (by omega), f5 142 (x + 1) (by omega), f5 142 (x + 2) (by omega), psh_n (c := 142) (k := x + 1) (by omega) (by omega), psh_n (c := 142) (k := x + 2) (by omega) (by omega)]
          exact e5
        by_cases y : K = 4 ∨ K = 5
        · refine ⟨E + 1, n + 1, dp + 1, PI_add (K := K) p hn hK (Or.inl ⟨y, by omega, rfl, ?_, ?_⟩) ?_ ?_ ?_ ?_ ?_ ?_ ?_ dtx (fun k z1 z2 => ?_) (fun k z => ?_) (fun c k z1 z2 z3 => ?_) (fun k z => ?_)⟩
          · rw [G50]; exact (psh_y y).1
          · rw [HN _ _ (by omega) (by omega), ← eA]; exact (psc_y y).1
          · rw [GN _ _ (by omega) (by omega) (by omega) (by omega), G5] <;> omega
          · rw [GN _ _ (by omega) (by omega) (by omega) (by omega), G22] <;> omega
          · rw [HN _ _ (by omega) (by omega), nA _ _ (by omega) (by omega), B28] <;> omega
          · rw [HN _ _ (by omega) (by omega), ← eA, (psc_y y).2] <;> omega
          · rw [G521, (psh_y y).2] <;> omega
          · rw [← hx, GN _ _ (by omega) (by omega) (by omega) (by omega), Gx]
          · rw [HN _ _ (by omega) (by omega), nA _ _ (by omega) (by omega), B29]
          · rw [GN _ _ (by omega) (by omega) (by omega) (by omega), nG _ _ (by omega) (by omega)]
          · rw [GN _ _ (by omega) (by omega) (by omega) (by omega), nG _ _ (by omega) (by omega)]
          · rw [HN _ _ (by omega) (by omega), nA _ _ (by omega) (by omega), nB _ _ (by omega) (by omega)]
          · rw [HN _ _ (by omega) (by omega), nA _ _ (by omega) (by omega), nB _ _ (by omega) (by omega)]
        · have ea : hA = hB := by rw [← eA, psc_z y]
          rw [psh_z y] at G521 G50
          refine ⟨E + 1, n + 1, dp, PI_add (K := K) p hn hK (Or.inr ⟨by omega, by omega, rfl⟩) ?_ ?_ ?_ ?_ ?_ ?_ ?_ dtx (fun k z1 z2 => ?_) (fun k z => ?_) (fun c k z1 z2 z3 => ?_) (fun k z => ?_)⟩
          · rw [GN _ _ (by omega) (by omega) (by omega) (by omega), G5] <;> omega
          · rw [GN _ _ (by omega) (by omega) (by omega) (by omega), G22] <;> omega
          · rw [HN _ _ (by omega) (by omega), nA _ _ (by omega) (by omega), B28] <;> omega
          · rw [HN _ _ (by omega) (by omega), ea]; exact B27
          · rw [G521]; exact g321
          · rw [← hx, GN _ _ (by omega) (by omega) (by omega) (by omega), Gx]
          · rw [HN _ _ (by omega) (by omega), nA _ _ (by omega) (by omega), B29]
          · rw [GN _ _ (by omega) (by omega) (by omega) (by omega), nG _ _ (by omega) (by omega)]
          · rw [GN _ _ (by omega) (by omega) (by omega) (by omega), nG _ _ (by omega) (by omega)]
          · rw [HN _ _ (by omega) (by omega), nA _ _ (by omega) (by omega), nB _ _ (by omega) (by omega)]
          · rw [HN _ _ (by omega) (by omega), nA _ _ (by omega) (by omega), nB _ _ (by omega) (by omega)]
      · rw [u1, if_pos rfl] at cl ol
        exact ⟨0, h5, g5, cl, ol, Or.inr ⟨rfl, u2⟩, fh, fg⟩
    · refine ⟨0, h3, g3, ?_, ?_, Or.inr ⟨rfl, e2⟩, fun c k z1 z2 => by rw [d2 c k z1 (by omega), b6 c k z1, nA _ _ (by omega) (by omega), nB _ _ (by omega) (by omega)], fun c k z1 z2 z3 => by rw [e4 c k (by omega) z2 (by omega), b7 c k (by omega), nG _ _ (by omega) (by omega)]⟩
      · rw [c55]
        unfold F_X7_takeStep_132 ck
        rw [b1, bind_eq, d1, e1, bind_eq]
        dsimp only
        rw [if_pos (by omega), if_pos rfl]
      · rw [m79, b2, bind_eq, e3]
theorem step_l {L E n dp : Nat} {h g : MH} (s : S0 L h g) (p : PI E n dp h g) (ne : ¬ tWd h = zsB.getD 8 []) :
    ∃ b h' g', F_X7_takeStep h = some (b, h') ∧ F_X12_step g = some (b, g') ∧ TN L h b h' g' ∧ HS h h' ∧ GS g g' := by
  have kb := wkb (tWd h)
  have sb := wsb (tWd h)
  have iw := iw20 s
  have kh := kind_l s
  have w20 := w20_e (tWd h)
  have bb := p.b
  obtain ⟨⟨p1, p2, p3, p4, p5⟩, -⟩ := id p
  have k4 := s.k.1
  have hk1 : ix wk 0 (tWd h) ≠ -1 → h 8 4 = 1 := fun z => by
    by_cases y : h 8 4 = 1
    · exact y
    · exact absurd (by unfold tWd; rw [if_neg y]; exact ix_nil wk 0 (by decide)) z
  by_cases K0 : ix wk 0 (tWd h) = -1
  · obtain ⟨h', g', a1, a2, a3, a4, a5⟩ := fl_m s
    have m49 : F_X12_step_49 g = some (0, g') := by
      unfold F_X12_step_49 ck
      rw [a2, bind_eq]
      dsimp only
      rw [if_pos (by omega)]
    refine ⟨0, h', g', ?_, ?_, Or.inr ⟨rfl, a3⟩, fun c k z1 z2 => a4 c k z1, fun c k z1 z2 z3 => a5 c k (by omega)⟩
    · unfold F_X7_takeStep F_X7_takeStep_0 F_X7_takeStep_20 ck
      rw [kh, K0, bind_eq]
      dsimp only
      rw [if_pos (by omega), if_neg (by omega), if_pos (by omega), if_pos (by omega), if_neg (by omega), a1, bind_eq]
      dsimp only
      rw [if_pos (by omega)]
    · rw [if_pos K0, if_neg ne] at w20
      unfold F_X12_step F_X12_step_0 ck
      rw [iw, bind_eq]
      dsimp only
      rw [nx_eq, nx_eq, m49]
      by_cases y : ix ws 0 (tWd h) = -1
      · rw [if_pos y] at w20
        rw [w20, if_pos (by omega), if_pos rfl]
      · rw [if_neg y] at w20
        rw [w20, if_pos (by omega), if_neg (by omega), if_pos (by omega)]
  · have k1 := hk1 K0
    rw [if_neg K0] at w20
    generalize ix wk 0 (tWd h) = K at *
    have m0 : F_X12_step g = F_X12_step_55 K (E : Int) ((1760 + 190 + 4 * E : Nat) : Int) g := by
      unfold F_X12_step F_X12_step_0 ck
      rw [iw, w20, bind_eq]
      dsimp only
      rw [nx_eq, nx_eq, p1, if_pos (by omega), if_neg (by omega), if_neg (by omega), if_pos (by omega), show (1950 : Int) + 4 * (E : Int) = ((1760 + 190 + 4 * E : Nat) : Int) by omega]
    by_cases y : K = 4 ∨ K = 5
    · have c0 : F_X7_takeStep h = F_X7_takeStep_20 K 1 h := by
        unfold F_X7_takeStep F_X7_takeStep_0 F_X7_takeStep_15 ck
        rw [kh, bind_eq]
        dsimp only
        rw [if_pos (by omega)]
        by_cases w : K = 4
        · rw [if_pos w]
        · rw [if_neg w, if_neg (by omega)]
      have m1 : F_X12_step g = F_X12_step_65 K (E : Int) ((1760 + 190 + 4 * E : Nat) : Int) g := by
        rw [m0]
        unfold F_X12_step_55 ck
        rw [if_pos (by omega)]
        by_cases w : K = 4
        · rw [if_pos w]
        · rw [if_neg w, if_neg (by omega)]
      by_cases d : dp = 3
      · obtain ⟨h', g', a1, a2, a3, a4, a5⟩ := fl_w s (by omega) (c := 5) (by omega)
        refine ⟨0, h', g', ?_, ?_, Or.inr ⟨rfl, a3⟩, fun c k z1 z2 => a4 c k z1, fun c k z1 z2 z3 => a5 c k (by omega)⟩
        · rw [c0]
          unfold F_X7_takeStep_20 ck
          rw [if_pos (by omega), if_pos (by omega), if_pos (by omega), if_neg (by omega), p4, if_pos (by omega), if_neg (by omega), a1, bind_eq]
          dsimp only
          rw [if_pos (by omega)]
        · rw [m1]
          unfold F_X12_step_65 ck
          rw [p5, if_pos (by omega), if_neg (by omega), a2, bind_eq]
          dsimp only
          rw [if_pos (by omega)]
      · obtain ⟨b, h', g', a1, a2, a3⟩ := st79 (op := 1) s p k1 (by omega) (Or.inl ⟨rfl, y, by omega⟩)
        refine ⟨b, h', g', ?_, ?_, a3⟩
        · rw [c0]
          unfold F_X7_takeStep_20 ck
          rw [if_pos (by omega), if_pos (by omega), if_pos (by omega), if_neg (by omega), p4, if_pos (by omega), if_pos (by omega), a1]
        · rw [m1]
          unfold F_X12_step_65 ck
          rw [p5, if_pos (by omega), if_pos (by omega), a2]
    · obtain ⟨b, h', g', a1, a2, a3⟩ := st79 (op := 0) s p k1 (by omega) (Or.inr ⟨rfl, y⟩)
      refine ⟨b, h', g', ?_, ?_, a3⟩
      · unfold F_X7_takeStep F_X7_takeStep_0 F_X7_takeStep_20 ck
        rw [kh, bind_eq]
        dsimp only
        rw [if_pos (by omega), if_neg (by omega), if_pos (by omega), if_pos (by omega), if_pos (by omega), if_pos (by omega), if_pos rfl, a1]
      · rw [m0]
        unfold F_X12_step_55 ck
        rw [if_pos (by omega), if_neg (by omega), if_pos (by omega), a2]
theorem end_20 : ix w20 0 (zsB.getD 8 []) = 6 := by decide
theorem end_l {L E n dp : Nat} {h g : MH} (s : S0 L h g) (p : PI E n dp h g) (ew : tWd h = zsB.getD 8 []) :
    ∃ b h' g', F_X7_takeEnd h = some (b, h') ∧ F_X12_step g = some (b, g') ∧ TN L h b h' g' ∧ HS h h' ∧ GS g g' := by
  have iw := iw20 s
  rw [ew, end_20] at iw
  have bb := p.b
  obtain ⟨⟨p1, p2, p3, p4, p5⟩, ⟨q1, q2, q3, q4⟩, r, en, st⟩ := id p
  by_cases d0 : dp = 0
  · obtain ⟨h', g', a1, a2, a3, a4, a5⟩ := fl_m s
    refine ⟨0, h', g', ?_, ?_, Or.inr ⟨rfl, a3⟩, fun c k z1 z2 => a4 c k z1, fun c k z1 z2 z3 => a5 c k (by omega)⟩
    · unfold F_X7_takeEnd F_X7_takeEnd_0 ck
      rw [p4, if_pos (by omega), if_neg (by omega), a1, bind_eq]
      dsimp only
      rw [if_pos (by omega)]
    · unfold F_X12_step F_X12_step_0 F_X12_step_49 ck
      rw [iw, bind_eq]
      dsimp only
      rw [nx_eq, nx_eq, if_pos (by omega), if_neg (by omega), if_neg (by omega), if_neg (by omega), if_pos (by omega), if_neg (by omega), a2, bind_eq]
      dsimp only
      rw [if_pos (by omega)]
  · obtain ⟨d, rfl⟩ : ∃ d, dp = d + 1 := ⟨dp - 1, by omega⟩
    obtain ⟨o, s1, s2, s3, s4, s5, s6⟩ := st d (by omega)
    have co := cntS_lt (b := 1760) (h := g) s2 (by omega)
    obtain ⟨co', ec⟩ : ∃ x, x = cntS 1760 g o := ⟨_, rfl⟩
    rw [← ec] at s4 co
    obtain ⟨x, hx⟩ : ∃ x, x = 1760 + 190 + 4 * E := ⟨_, rfl⟩
    generalize eA : hup (hup h 27 3 (d : Int)) 32 co' (n : Int) = hA
    have nA : ∀ c k, ¬ (c = 27 ∧ k = 3) → ¬ (c = 32 ∧ k = co') → hA c k = h c k := fun c k z1 z2 => by rw [← eA, hup_n _ _ _ _ _ _ z2, hup_n _ _ _ _ _ _ z1]
    have A27 : hA 27 3 = (d : Int) := by rw [← eA, hup_n _ _ _ _ _ _ (by omega), hup_s]
    have A32 : hA 32 co' = (n : Int) := by rw [← eA, hup_s]
    generalize eG : pre124 6 x (hup g 141 22 ((n : Int) + 0)) = gA
    have nG : ∀ c k, ¬ (c = 142 ∧ (k = 1765 ∨ (x ≤ k ∧ k ≤ x + 3))) → ¬ (c = 141 ∧ k = 22) → gA c k = g c k := fun c k z1 z2 => by rw [← eG, pre_n z1, hup_n _ _ _ _ _ _ z2]
    have G22 : gA 141 22 = (n : Int) := by rw [← eG, pre_n (by omega), hup_s] <;> omega
    have G5 : gA 142 1765 = (E : Int) + 1 := by rw [← eG, pre_5 (by omega), hup_n _ _ _ _ _ _ (by omega), p1]
    have Gx : gA 142 x = 6 := by rw [← eG, pre_x (by omega)]
    obtain ⟨h2, g2, b1, b2, b3, b4, b5, b6, b7⟩ := adv (h := hA) (g := gA) (s.f (fun c k z => nA _ _ (by omega) (by omega)) (fun c k z => nG _ _ (by omega) (by omega)))
    have A83 : hA 8 3 = h 8 3 := nA _ _ (by omega) (by omega)
    have g21 : g2 141 21 = ((d + 1 : Nat) : Int) := by rw [b7 _ _ (by omega), nG _ _ (by omega) (by omega)]; exact p5
    have g150 : g2 150 d = (o : Int) := by rw [b7 _ _ (by omega), nG _ _ (by omega) (by omega)]; exact s1
    generalize eC : hup (hup (hup g2 141 21 (d : Int)) 142 (x + 3) (o : Int)) 142 (1760 + 190 + 4 * o + 3) (E : Int) = gC
    have nC : ∀ c k, ¬ (c = 141 ∧ k = 21) → ¬ (c = 142 ∧ (k = x + 3 ∨ k = 1760 + 190 + 4 * o + 3)) → gC c k = g2 c k := fun c k z1 z2 => by rw [← eC, hup_n _ _ _ _ _ _ (by omega), hup_n _ _ _ _ _ _ (by omega), hup_n _ _ _ _ _ _ z1]
    obtain ⟨b', h5, g5, f1, f2, f3, f4, f5⟩ := sign_l (h := h2) (g := gC) (b3.f (fun _ _ _ => rfl) (fun c k z => nC _ _ (by omega) (by omega)))
    have k3 := b3.k.2.2.1
    have hb : b' = 0 ∨ b' = 1 := by rcases f3 with ⟨z, _⟩ | ⟨z, _⟩ <;> omega
    have HN : ∀ c k, ¬ (c = 8 ∧ 3 ≤ k ∧ k ≤ 10) → h5 c k = hA c k := fun c k z1 => by rw [f4 c k z1, b6 c k z1]
    have GN : ∀ c k, ¬ (c = 141 ∧ 11 ≤ k ∧ k ≤ 17) → ¬ (c = 141 ∧ k = 21) → ¬ (c = 142 ∧ (k = x + 3 ∨ k = 1760 + 190 + 4 * o + 3)) → g5 c k = gA c k := fun c k z1 z2 z3 => by rw [f5 c k z1, nC c k z2 z3, b7 c k z1]
    have cl : F_X7_takeEnd h = some (b', h5) := by
      unfold F_X7_takeEnd F_X7_takeEnd_0 ck
      rw [p4, if_pos (by omega), if_pos (by omega), nx_eq, hup_s, show ((d + 1 : Nat) : Int) - 1 = (d : Int) by omega, if_pos (by omega), show ((d : Int)).toNat = d by omega, hup_n _ _ _ _ 33 d (by omega), s4, if_pos (by omega), nx_eq, show ((co' : Int)).toNat = co' by omega, hup_n _ _ _ _ 28 0 (by omega), p3, eA, b1, bind_eq, f1, bind_eq]
      dsimp only
      rw [if_pos hb]
    have m6 : mdet 6 (E : Int) (x : Int) g2 = F_X12_step_421 1 gC := by
      unfold mdet F_X12_step_221 ck
      rw [if_neg (by omega), if_neg (by omega), if_neg (by omega), if_pos (by omega), if_pos (by omega), if_pos (by omega), t240 (by omega) (by omega) (by omega), t274 (by omega) (by omega) (by omega)]
      unfold F_X12_step_333 F_X12_step_363 ck
      rw [if_pos (by omega), if_neg (by omega), if_pos (by omega), if_pos (by omega), if_neg (by omega), nx_eq, hup_s, g21, show ((d + 1 : Nat) : Int) - 1 = (d : Int) by omega, if_pos (by omega), show ((d : Int)).toNat = d by omega, hup_n _ _ _ _ 150 d (by omega), g150, if_pos (by omega), if_pos (by omega), nx_eq, show ((x : Int) + 3).toNat = x + 3 by omega, hup_n _ _ _ _ 141 21 (by omega), hup_s, if_pos (by omega), show ((d : Int)).toNat = d by omega, hup_n _ _ _ _ 150 d (by omega), hup_n _ _ _ _ 150 d (by omega), g150, if_pos (by omega), if_pos (by omega), nx_eq, show ((1950 : Int) + 4 * (o : Int) + 3).toNat = 1760 + 190 + 4 * o + 3 by omega, eC]
    have ol : F_X12_step g = if b' = 0 then some (0, g5) else some (1, g5) := by
      unfold F_X12_step F_X12_step_0 ck
      rw [iw, bind_eq]
      dsimp only
      rw [nx_eq, nx_eq, if_pos (by omega), if_neg (by omega), if_neg (by omega), if_neg (by omega), if_pos (by omega), if_pos (by omega), p1, show (1950 : Int) + 4 * (E : Int) = (x : Int) by omega]
      unfold F_X12_step_55 F_X12_step_79 F_X12_step_101 F_X12_step_117 ck
      rw [if_pos (by omega), if_neg (by omega), if_pos (by omega), if_pos (by omega), if_pos rfl, if_pos (by omega), if_pos rfl, p2, nx_eq, show (20000 : Nat) = 19996 + 1 + 1 + 1 + 1 from rfl, t124 (by omega) (by omega), eG, b2, bind_eq, m6]
      unfold F_X12_step_421 ck
      rw [if_pos (by omega), if_neg (by omega), f2, bind_eq]
      dsimp only
      rw [if_pos (by omega)]
    have fh : HS h h5 := fun c k z1 z2 => by rw [HN c k z1, nA _ _ (by omega) (by omega)]
    have fg : GS g g5 := fun c k z1 z2 z3 => by rw [GN c k (by omega) (by omega) (by omega), nG _ _ (by omega) (by omega)]
    rcases f3 with ⟨u1, u2, u3⟩ | ⟨u1, u2⟩
    · rw [u1] at cl
      rw [u1, if_neg (by omega)] at ol
      refine ⟨1, h5, g5, cl, ol, Or.inl ⟨rfl, u2, ⟨E + 1, n, d, PI_end (o := o) p s1 ?_ ?_ ?_ ?_ ?_ ?_ ?_ ?_ (fun k z1 z2 z3 => ?_) (fun k => ?_) ?_ (fun c k z1 z2 z3 => ?_)⟩, by omega⟩, fh, fg⟩
      · rw [GN _ _ (by omega) (by omega) (by omega), G5] <;> omega
      · rw [GN _ _ (by omega) (by omega) (by omega), G22]
      · rw [HN _ _ (by omega), nA _ _ (by omega) (by omega)]; exact p3
      · rw [HN _ _ (by omega)]; exact A27
      · rw [f5 _ _ (by omega), ← eC, hup_n _ _ _ _ _ _ (by omega), hup_n _ _ _ _ _ _ (by omega), hup_s]
      · rw [← hx, GN _ _ (by omega) (by omega) (by omega), Gx]
      · rw [← hx, f5 _ _ (by omega), ← eC, hup_n _ _ _ _ _ _ (by omega), hup_s]
      · rw [f5 _ _ (by omega), ← eC, hup_s]
      · rw [GN _ _ (by omega) (by omega) (by omega), nG _ _ (by omega) (by omega)]
      · rw [GN _ _ (by omega) (by omega) (by omega), nG _ _ (by omega) (by omega)]
      · rw [← ec, HN _ _ (by omega)]; exact A32
      · rw [← ec] at z3
        rw [HN _ _ (by omega), nA _ _ (by omega) z3]
    · rw [u1] at cl
      rw [u1, if_pos rfl] at ol
      exact ⟨0, h5, g5, cl, ol, Or.inr ⟨rfl, u2⟩, fh, fg⟩
