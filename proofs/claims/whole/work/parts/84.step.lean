/-! ===== work: one step ===== -/
/-- what the class's script says of entry e -/
def SY (h0 : MH) (e : Nat) : Prop := kd h0 e ≠ 6 → h0 50 (cntS 0 h0 e) = kd h0 e ∧ (kd h0 e = 1 ∨ kd h0 e = 2 ∨ kd h0 e = 3 ∨ kd h0 e = 5 → nmR (h0 51 (cntS 0 h0 e)) (h0 142 (190 + 4 * e + 1))) ∧ (kd h0 e ≠ 3 → h0 52 (cntS 0 h0 e) = h0 142 (190 + 4 * e + 2)) ∧ (kd h0 e = 3 → h0 142 (190 + 4 * e + 2) = 0) ∧ (kd h0 e = 0 → 1 ≤ h0 142 (190 + 4 * e + 2) ∧ h0 142 (190 + 4 * e + 2) ≤ 60) ∧ (kd h0 e = 1 → 1 ≤ h0 142 (190 + 4 * e + 2) ∧ h0 142 (190 + 4 * e + 2) ≤ 99) ∧ (kd h0 e = 2 → 0 ≤ h0 142 (190 + 4 * e + 2) ∧ h0 142 (190 + 4 * e + 2) ≤ 99) ∧ (kd h0 e = 4 → 1 ≤ h0 142 (190 + 4 * e + 2) ∧ h0 142 (190 + 4 * e + 2) ≤ 9) ∧ (kd h0 e = 5 → 0 ≤ h0 142 (190 + 4 * e + 2) ∧ h0 142 (190 + 4 * e + 2) ≤ 3)
theorem SY_of {h : MH} (s : SR 49 0 h) {E : Nat} (hE : h 142 5 = (E : Int)) : ∀ e, e < E → SY h e := by
  obtain ⟨E', s1, s2, s3, s4, s5, s6, s7, s8⟩ := s
  simp only [Nat.zero_add] at s1
  intro e he hk
  have z := (s7 e (by omega)).2.1
  simp only [Nat.zero_add] at z
  exact z hk
/-- what stays on the class's side, and on the other's -/
def KW (h h' : MH) : Prop := ∀ c k, ¬ (c = 35 ∧ (k = 6 ∨ k = 7)) → c ≠ 36 → ¬ (40 ≤ c ∧ c ≤ 45) → ¬ (70 ≤ c ∧ c ≤ 72) → h' c k = h c k
theorem KW.tr {a b c : MH} (x : KW a b) (y : KW b c) : KW a c := fun i k e e2 e3 e4 => (y i k e e2 e3 e4).trans (x i k e e2 e3 e4)
def OW (c k : Nat) : Prop := OM c k ∧ ¬ (c = 142 ∧ 8 ≤ k ∧ k < 104 ∧ (k - 8) % 16 = 0) ∧ c ≠ 153 ∧ ¬ (c = 141 ∧ (k = 29 ∨ k = 31 ∨ k = 32))
/-- the counts on the class's side -/
def CC (md : Nat) (hc : MH) : Prop := hc 70 2 = (md : Int) ∧ md ≤ 1000 ∧ (0 ≤ hc 70 3 ∧ hc 70 3 ≤ 594 * md) ∧ (hc 70 4 = 0 ∨ (hc 70 4 = 1 ∧ md = 1000))
def CG2 (md : Nat) (hc g : MH) : Prop := g 141 29 = (md : Int) ∧ g 141 31 = hc 70 3 ∧ g 141 32 = hc 70 4
/-- the place behind an entry that is no end: open blocks stay open -/
theorem WC_next {E x D : Nat} {os ls : Nat → Nat} {h0 hc hc' : MH} (s : SX E h0) (hx : x < E) (k6 : kd h0 x ≠ 6) (k45 : ¬ (kd h0 x = 4 ∨ kd h0 x = 5)) (c : WC E h0 x D os ls hc) (oD : opnS 0 h0 x = (D : Int)) (e5 : hc' 70 5 = hc 70 5 + 1) (w : ∀ c k, ¬ (c = 70 ∧ k = 5) → (c = 70 ∧ k = 6) ∨ c = 71 ∨ c = 72 ∨ c = 53 → hc' c k = hc c k) : WC E h0 (x + 1) D os ls hc' := by
  obtain ⟨a1, a2, a3, a4, a5, a6, a7, a8⟩ := s
  obtain ⟨c1, c2, c3, c4, c5, c6⟩ := c
  have cts := cnt_s (h0 := h0) x
  rw [if_neg k6] at cts
  have ops := opn_s (h0 := h0) x
  rw [if_neg k6, if_neg k45] at ops
  refine ⟨by omega, by rw [e5, c2, cts]; omega, by rw [w _ _ (by omega) (by omega)]; exact c3, fun i hi => by rw [w _ _ (by omega) (by omega)]; exact c4 i hi, fun i hi => ?_, Or.inl (by omega)⟩
  obtain ⟨t1, t2, t3, t4, t5, t6, t7, t8, t9, t10⟩ := c5 i hi
  obtain ⟨l, u1, u2, u3, u4, u5, u6⟩ := a6 (os i) (by omega) t4
  have el : l = ls i := by omega
  have xl : x ≠ ls i := fun z => by rw [← el] at z; rw [z] at k6; exact k6 u4
  rw [w 71 i (by omega) (by omega), w 72 i (by omega) (by omega)]
  exact ⟨by omega, by omega, t3, t4, t5, t6, t7, t8, t9, t10⟩
/-- how a step goes on: the class's heap hc', the other's answer x' -/
def STP (E n B : Nat) (h0 : MH) (x D : Nat) (os : Nat → Nat) (md : Nat) (hc hc' : MH) : Prop :=
  ∃ (x' D' md' : Nat) (os' ls' : Nat → Nat), WC E h0 x' D' os' ls' hc' ∧ D' ≤ 3 ∧ WI n B md' h0 hc' ∧ KW hc hc' ∧ CC md' hc' ∧ (hc' 70 0 = hc 70 0 ∧ hc' 70 1 = hc 70 1) ∧
    ∀ g, WG h0 x D os hc g → WE n md h0 hc g → CG2 md hc g → (∀ m, m < 6 → g 142 (8 + 16 * m + 13) = h0 142 (8 + 16 * m + 13)) → ∃ g', F_X12_does (x : Int) g = some ((x' : Int), g') ∧ WG h0 x' D' os' hc' g' ∧ WE n md' h0 hc' g' ∧ CG2 md' hc' g' ∧ Ag OW g g'
theorem FI_c {q : Prop} {A C : Int} {h h' : MH} (w : ∀ c k, 35 ≤ c → c ≤ 45 → h' c k = h c k) (f : FI q 35 A C h) : FI q 35 A C h' := by
  obtain ⟨f1, f2, f3, f4⟩ := f
  refine ⟨by rw [w _ _ (by omega) (by omega)]; exact f1, by rw [w _ _ (by omega) (by omega)]; exact f2, fun m hm => ?_, fun hq => ⟨fun m hm s hs => ?_, fun k hk => ?_⟩⟩
  · rw [w _ _ (by omega) (by omega)] at hm
    have := f3 m hm
    rw [w (35 + 1) m (by omega) (by omega), w (35 + 2) m (by omega) (by omega), w (35 + 3) m (by omega) (by omega), w (35 + 4) m (by omega) (by omega), w (35 + 5) m (by omega) (by omega), w (35 + 7) m (by omega) (by omega), w (35 + 8) m (by omega) (by omega)]
    exact this
  · rw [w _ _ (by omega) (by omega)] at hm
    rw [w _ _ (by omega) (by omega)]; exact (f4 hq).1 m hm s hs
  · rw [w _ _ (by omega) (by omega)]; exact (f4 hq).2 k hk
theorem FE_c {q : Prop} {h h' g : MH} (w : ∀ c k, 35 ≤ c → c ≤ 45 → h' c k = h c k) (f : FE q 35 h g) : FE q 35 h' g := by
  obtain ⟨f1, f2, f3, f4⟩ := f
  refine ⟨by rw [w _ _ (by omega) (by omega)]; exact f1, by rw [w _ _ (by omega) (by omega)]; exact f2, fun m h6 hm => ?_, fun hq => ⟨fun m h6 hm s hs => ?_, fun k hk => ?_⟩⟩
  · rw [w _ _ (by omega) (by omega)] at hm
    have := f3 m h6 hm
    rw [w (35 + 1) m (by omega) (by omega), w (35 + 2) m (by omega) (by omega), w (35 + 3) m (by omega) (by omega), w (35 + 4) m (by omega) (by omega), w (35 + 5) m (by omega) (by omega), w (35 + 6) m (by omega) (by omega), w (35 + 7) m (by omega) (by omega), w (35 + 8) m (by omega) (by omega)]
    exact this
  · rw [w _ _ (by omega) (by omega)] at hm
    rw [w _ _ (by omega) (by omega)]; exact (f4 hq).1 m h6 hm s hs
  · rw [w _ _ (by omega) (by omega)]; exact (f4 hq).2 k hk
theorem WI_n {n B md : Nat} {h0 h h' : MH} (w : ∀ c k, 35 ≤ c → c ≤ 45 → h' c k = h c k) (i : WI n B md h0 h) : WI n B md h0 h' := by
  obtain ⟨w1, w2, w3, w4, w5, w6, w7⟩ := i
  refine ⟨by rw [w _ _ (by omega) (by omega)]; exact w1, w2, fun q => FI_c w (w3 q), fun q c k z1 z2 z3 => by rw [w _ _ z1 z2]; exact w4 q c k z1 z2 z3, fun m hm => ?_, by rw [w _ _ (by omega) (by omega)]; exact w6, w7⟩
  rw [w _ _ (by omega) (by omega)] at hm
  rw [w _ _ (by omega) (by omega), w 35 7 (by omega) (by omega)]
  exact w5 m hm
theorem WE_n {n md : Nat} {h0 h h' g : MH} (w : ∀ c k, 35 ≤ c → c ≤ 45 → h' c k = h c k) (e : WE n md h0 h g) : WE n md h0 h' g := ⟨FE_c w e.1, by rw [w _ _ (by omega) (by omega)]; exact e.2.1, e.2.2⟩
theorem WE_g {n md : Nat} {h0 h g g' : MH} (w : ∀ k, g' 142 k = g 142 k) (e : WE n md h0 h g) : WE n md h0 h g' := ⟨FE_142 (fun k _ => w k) e.1, by rw [w]; exact e.2.1, fun q k hk => by rw [w]; exact e.2.2 q k hk⟩
/-- a run -/
theorem stp_0 {E n B x D md : Nat} {os ls : Nat → Nat} {h0 hc : MH} (s : SX E h0) (hx : x < E) (sy : SY h0 x) (k0 : kd h0 x = 0) (c : WC E h0 x D os ls hc) (oD : opnS 0 h0 x = (D : Int)) (hD : D ≤ 3) (hB : B ≤ 600) (w : WI n B md h0 hc) (kw : ∀ c k, 46 ≤ c → c ≤ 53 → hc c k = h0 c k) (cc : CC md hc) (h1000 : md < 1000) (h4 : hc 70 4 = 0) : ∃ hc', F_X0_doStep 49 34 hc = some hc' ∧ STP E n B h0 x D os md hc hc' := by
  obtain ⟨y1, y2, y3, y4, y5, y6⟩ := sy (by omega)
  have s' := s
  have c' := c
  obtain ⟨a1, a2, -⟩ := s
  obtain ⟨c1, c2, c3, c4, -⟩ := c
  have ctl : cntS 0 h0 x < 30 := by
    have := cntS_lt (b := 0) (h := h0) hx (by rw [Nat.zero_add]; show kd h0 x ≠ 6; omega); omega
  have y3 := y3 (by omega)
  have y5 := y5 k0
  obtain ⟨wn, ewn⟩ : ∃ wn : Nat, h0 142 (190 + 4 * x + 2) = (wn : Int) := ⟨(h0 142 (190 + 4 * x + 2)).toNat, by omega⟩
  obtain ⟨d1, d2, d3, d4⟩ := cc
  generalize hh : hup hc 70 5 (hc 70 5 + 1) = h1
  have n1 : ∀ c k, ¬ (c = 70 ∧ k = 5) → h1 c k = hc c k := fun c k q => by rw [← hh]; exact hup_n _ _ _ _ _ _ q
  obtain ⟨M, eM⟩ : ∃ M : Nat, (M : Int) = min (wn : Int) (1000 - (md : Int)) := ⟨(min (wn : Int) (1000 - (md : Int))).toNat, by omega⟩
  obtain ⟨xm, h2, r1, r2, r3, r4, r5⟩ := wrun (WI_n (fun c k z1 z2 => n1 c k (by omega)) w) (show M ≤ 60 by omega) hB (by omega)
  have m2 : ∀ c k, 46 ≤ c → h2 c k = h1 c k := fun c k z => r4 c k (by unfold CM; omega)
  obtain ⟨ft, eft⟩ : ∃ ft : Int, ft = if wn ≤ M then 0 else 1 := ⟨_, rfl⟩
  have ftb : ft = 0 ∨ (ft = 1 ∧ md + M = 1000) := by
    rw [eft]
    split
    · exact Or.inl rfl
    · exact Or.inr ⟨rfl, by omega⟩
  generalize hk : hup (hup (hup h2 70 3 (hc 70 3 + xm)) 70 2 ((md + M : Nat) : Int)) 70 4 ft = h3
  have m3 : ∀ c k, ¬ (c = 70 ∧ (k = 2 ∨ k = 3 ∨ k = 4)) → h3 c k = h2 c k := fun c k z => by rw [← hk, hup_n _ _ _ _ _ _ (by omega), hup_n _ _ _ _ _ _ (by omega), hup_n _ _ _ _ _ _ (by omega)]
  have e52 : h1 52 (cntS 0 h0 x) = (wn : Int) := by rw [n1 _ _ (by omega), kw _ _ (by omega) (by omega), y3]; exact ewn
  have e50 : h1 50 (cntS 0 h0 x) = 0 := by rw [n1 _ _ (by omega), kw _ _ (by omega) (by omega), y1]; exact k0
  have e702 : h1 70 2 = (md : Int) := by rw [n1 _ _ (by omega)]; exact d1
  have e703 : h1 70 3 = hc 70 3 := n1 _ _ (by omega)
  have f702 : h2 70 2 = (md : Int) := by rw [m2 _ _ (by omega)]; exact e702
  have f704 : h2 70 4 = 0 := by rw [m2 _ _ (by omega), n1 _ _ (by omega)]; exact h4
  have run : F_X0_doRun 35 (wn : Int) h1 = some h3 := by
    unfold F_X0_doRun F_X0_doRun_0 ck
    rw [if_pos (by omega), e702, if_pos (by omega), nx_eq, ← eM, r1, bind_eq]
    dsimp only
    rw [e703, nx_eq, nx_eq, hup_n _ _ _ _ _ _ (show ¬ (70 = 70 ∧ 2 = 3) by omega), f702, if_pos (by omega), show (md : Int) + (M : Int) = ((md + M : Nat) : Int) by omega]
    by_cases z : wn ≤ M
    · rw [if_pos (by omega), ← hk, eft, if_pos z, hup_same _ 70 4 0 (by rw [hup_n _ _ _ _ _ _ (by omega), hup_n _ _ _ _ _ _ (by omega)]; exact f704)]
    · rw [if_neg (by omega), nx_eq, ← hk, eft, if_neg z]
  have W3 : WC E h0 (x + 1) D os ls h3 := WC_next s' hx (by omega) (by omega) c' oD (by rw [m3 _ _ (by omega), m2 _ _ (by omega), ← hh, hup_s]) (fun c k z1 z2 => by rw [m3 _ _ (by omega), m2 _ _ (by omega), n1 _ _ (by omega)])
  refine ⟨h3, ?_, x + 1, D, md + M, os, ls, W3, hD, WI_n (fun c k z1 z2 => m3 c k (by omega)) r3, ?_, ⟨?_, by omega, ?_, ?_⟩, ⟨?_, ?_⟩, fun g wg we cg gn => ?_⟩
  · unfold F_X0_doStep F_X0_doStep_0 ck
    rw [nx_eq, nx_eq, hh, c2, if_pos (by omega), show ((cntS 0 h0 x : Int)).toNat = cntS 0 h0 x by omega, show 49 + 1 = 50 from rfl, show 49 + 3 = 52 from rfl, show 34 + 1 = 35 from rfl, e50, if_pos (by omega), if_pos rfl, e52, run, bind_eq]
  · intro c k z1 z2 z3 z4
    rw [m3 _ _ (by omega), r4 c k (by unfold CM; omega), n1 _ _ (by omega)]
  · rw [← hk, hup_n _ _ _ _ _ _ (by omega), hup_s]
  · rw [← hk, hup_n _ _ _ _ _ _ (by omega), hup_n _ _ _ _ _ _ (by omega), hup_s]
    omega
  · rw [← hk, hup_s]; exact ftb
  · rw [m3 _ _ (by omega), m2 _ _ (by omega), n1 _ _ (by omega)]
  · rw [m3 _ _ (by omega), m2 _ _ (by omega), n1 _ _ (by omega)]
  · obtain ⟨w1, w2, w3, w4⟩ := wg
    obtain ⟨p1, p2, p3⟩ := cg
    have gk : g 142 (190 + 4 * x) = 0 := by rw [w1 _ (by omega) (by omega)]; exact k0
    have gn2 : g 142 (190 + 4 * x + 2) = (wn : Int) := by rw [w1 _ (by omega) (by omega)]; exact ewn
    obtain ⟨g1, q1, q2, q3⟩ := r5 (hup g 141 32 ft) (WE_g (fun k => hup_n _ _ _ _ _ _ (by omega)) (WE_n (fun c k z1 z2 => n1 c k (by omega)) we))
    generalize hg : hup (hup g1 141 31 (hc 70 3 + xm)) 141 29 ((md + M : Nat) : Int) = g2
    have j2 : ∀ c k, ¬ (c = 141 ∧ (k = 29 ∨ k = 31)) → g2 c k = g1 c k := fun c k z => by rw [← hg, hup_n _ _ _ _ _ _ (by omega), hup_n _ _ _ _ _ _ (by omega)]
    have goe : F_X12_goes (wn : Int) g = some g2 := by
      unfold F_X12_goes F_X12_goes_0 F_X12_goes_24 ck
      have e31 : hup g 141 32 ft 141 31 = hc 70 3 := by rw [hup_n _ _ _ _ _ _ (by omega)]; exact p2
      have e29 : hup g1 141 31 (hc 70 3 + xm) 141 29 = (md : Int) := by rw [hup_n _ _ _ _ _ _ (by omega), q3 _ _ (by unfold OM OG O3; omega), hup_n _ _ _ _ _ _ (by omega)]; exact p1
      rw [if_pos (by omega), p1, if_pos (by omega), nx_eq, ← eM, if_pos (by omega)]
      by_cases z : wn ≤ M
      · rw [if_pos z] at eft
        rw [if_pos (by omega), if_pos (Or.inl rfl), nx_eq, ← eft, q1, bind_eq]
        dsimp only
        rw [nx_eq, e31, nx_eq, e29, ← hg, show (md : Int) + (M : Int) = ((md + M : Nat) : Int) by omega]
      · rw [if_neg z] at eft
        rw [if_neg (by omega), if_pos (Or.inr rfl), nx_eq, ← eft, q1, bind_eq]
        dsimp only
        rw [nx_eq, e31, nx_eq, e29, ← hg, show (md : Int) + (M : Int) = ((md + M : Nat) : Int) by omega]
    refine ⟨g2, ?_, ⟨fun k z1 z2 => ?_, ?_, fun i hi hk2 => ?_, fun q => ?_⟩, WE_g (fun k => j2 _ _ (by omega)) (WE_n (fun c k z1 z2 => m3 c k (by omega)) q2), ⟨?_, ?_, ?_⟩, fun c k z => ?_⟩
    · unfold F_X12_does F_X12_does_0 F_X12_does_36 F_X12_does_53 F_X12_does_65 F_X12_does_80 F_X12_does_117 F_X12_does_144 ck
      rw [nx_eq, if_pos (by omega), nx_eq, if_pos (by omega), nx_eq, show (190 + 4 * (x : Int)).toNat = 190 + 4 * x by omega, show (190 + 4 * (x : Int) + 2).toNat = 190 + 4 * x + 2 by omega, gk, gn2, if_pos (by omega), if_pos rfl, if_pos (by omega), if_neg (by omega), goe, bind_eq, if_pos (by omega), if_pos (by omega), if_pos (by omega), if_pos (by omega), if_pos (by omega), if_pos rfl, if_pos (by omega), if_pos rfl, show (x : Int) + 1 = ((x + 1 : Nat) : Int) by omega]
    · rw [j2 _ _ (by omega), q3 _ _ (by unfold OM OG O3; omega), hup_n _ _ _ _ _ _ (by omega)]; exact w1 k z1 z2
    · rw [j2 _ _ (by omega), q3 _ _ (by unfold OM OG O3; omega), hup_n _ _ _ _ _ _ (by omega)]; exact w2
    · rw [j2 _ _ (by omega), q3 _ _ (by unfold OM OG O3; omega), hup_n _ _ _ _ _ _ (by omega), m3 _ _ (by omega), m2 _ _ (by omega), n1 _ _ (by omega)]; exact w3 i hi hk2
    · exfalso
      have ops := opn_s (h0 := h0) x
      rw [if_neg (by omega), if_neg (by omega)] at ops
      omega
    · rw [← hg, hup_s]
    · rw [← hg, hup_n _ _ _ _ _ _ (by omega), hup_s, ← hk, hup_n _ _ _ _ _ _ (by omega), hup_n _ _ _ _ _ _ (by omega), hup_s]
    · rw [j2 _ _ (by omega), q3 _ _ (by unfold OM OG O3; omega), hup_s, ← hk, hup_s]
    · obtain ⟨z1, z2, z3, z4⟩ := z
      rw [j2 _ _ (by omega), q3 _ _ z1, hup_n _ _ _ _ _ _ (by omega)]
