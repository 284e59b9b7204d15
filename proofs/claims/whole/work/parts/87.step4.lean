/-- loop -/
theorem stp_4 {E n B x D md : Nat} {os ls : Nat → Nat} {h0 hc : MH} (s : SX E h0) (hx : x < E) (sy : SY h0 x) (k4 : kd h0 x = 4) (c : WC E h0 x D os ls hc) (oD : opnS 0 h0 x = (D : Int)) (w : WI n B md h0 hc) (kw : ∀ c k, 46 ≤ c → c ≤ 53 → hc c k = h0 c k) (cc : CC md hc) : ∃ hc', F_X0_doStep 49 34 hc = some hc' ∧ STP E n B h0 x D os md hc hc' := by
  obtain ⟨y1, y2, y3, y4, y5, y6, y7, y8, y9⟩ := sy (by omega)
  have y3 := y3 (by omega)
  have y8 := y8 k4
  clear y2 y4 y5 y6 y7 y9
  have s' := s
  have c' := c
  obtain ⟨a1, a2, a3, a4, a5, a6, a7, a8⟩ := s
  obtain ⟨c1, c2, c3, c4, -⟩ := c
  have ctl : cntS 0 h0 x < 30 := by
    have := cntS_lt (b := 0) (h := h0) hx (by rw [Nat.zero_add]; show kd h0 x ≠ 6; omega); omega
  obtain ⟨l, u1, u2, u3, u4, u5, u6⟩ := a6 x hx (Or.inl k4)
  obtain ⟨wn, ewn⟩ : ∃ wn : Int, h0 142 (190 + 4 * x + 2) = wn := ⟨_, rfl⟩
  rw [ewn] at y3 y8
  generalize hh : hup hc 70 5 (hc 70 5 + 1) = h1
  have n1 : ∀ c k, ¬ (c = 70 ∧ k = 5) → h1 c k = hc c k := fun c k q => by rw [← hh]; exact hup_n _ _ _ _ _ _ q
  have e50 : h1 50 (cntS 0 h0 x) = 4 := by rw [n1 _ _ (by omega), kw _ _ (by omega) (by omega), y1]; exact k4
  have e52 : h1 52 (cntS 0 h0 x) = wn := by rw [n1 _ _ (by omega), kw _ _ (by omega) (by omega)]; exact y3
  obtain ⟨h2, D', os', ls', b1, b2, b3, b4, b5⟩ := blk (T := wn) s' hx (Or.inl k4) u1 c' oD y8 (fun q => by omega) (by rw [← hh, hup_s]) n1
  obtain ⟨d1, d2, d3, d4⟩ := cc
  have V : ∀ c k, ¬ (70 ≤ c ∧ c ≤ 72) → h2 c k = hc c k := fun c k z => by rw [b4 _ _ (by omega) (by omega) (by omega), n1 _ _ (by omega)]
  have V7 : ∀ k, k ≤ 4 → h2 70 k = hc 70 k := fun k z => by rw [b4 _ _ (by omega) (by omega) (by omega), n1 _ _ (by omega)]
  refine ⟨h2, ?_, x + 1, D', md, os', ls', b2, b3, WI_n (fun c k z1 z2 => V c k (by omega)) w, fun c k z1 z2 z3 z4 => V c k z4, ⟨by rw [V7 _ (by omega)]; exact d1, d2, by rw [V7 _ (by omega)]; exact d3, by rw [V7 _ (by omega)]; exact d4⟩, ⟨V7 _ (by omega), V7 _ (by omega)⟩, fun g wg we cg gn => ?_⟩
  · unfold F_X0_doStep F_X0_doStep_0 ck
    rw [nx_eq, nx_eq, hh, c2, if_pos (by omega), show ((cntS 0 h0 x : Int)).toNat = cntS 0 h0 x by omega, show 49 + 1 = 50 from rfl, show 49 + 3 = 52 from rfl, e50, if_pos (by omega), if_neg (by omega), if_pos (by omega), e52, b1, bind_eq]
  · have v1 := wg.1
    have gk : g 142 (190 + 4 * x) = 4 := by rw [v1 _ (by omega) (by omega)]; exact k4
    have gn2 : g 142 (190 + 4 * x + 2) = wn := by rw [v1 _ (by omega) (by omega)]; exact ewn
    have N : ∀ c k, ¬ (c = 153 ∧ k = x) → hup g 153 x (wn - 1) c k = g c k := fun c k z => hup_n _ _ _ _ _ _ z
    refine ⟨hup g 153 x (wn - 1), ?_, b5 g _ wg N (fun _ => hup_s _ _ _ _), WE_g (fun k => N _ _ (by omega)) (WE_n (fun c k z1 z2 => V c k (by omega)) we), ⟨by rw [N _ _ (by omega)]; exact cg.1, by rw [N _ _ (by omega), V7 _ (by omega)]; exact cg.2.1, by rw [N _ _ (by omega), V7 _ (by omega)]; exact cg.2.2⟩, fun c k z => N c k (by have := z.2.2.1; omega)⟩
    unfold F_X12_does F_X12_does_0 F_X12_does_36 F_X12_does_53 F_X12_does_65 F_X12_does_80 F_X12_does_117 F_X12_does_144 ck
    rw [nx_eq, if_pos (by omega), nx_eq, if_pos (by omega), nx_eq, show (190 + 4 * (x : Int)).toNat = 190 + 4 * x by omega, show (190 + 4 * (x : Int) + 2).toNat = 190 + 4 * x + 2 by omega, gk, gn2, if_pos (by omega), if_neg (by omega), if_neg (by omega), if_pos (by omega), if_pos (by omega), if_pos (by omega), if_neg (by omega), if_pos (by omega), nx_eq, show ((x : Int)).toNat = x by omega, if_pos (by omega), if_pos (by omega), if_pos (by omega), if_pos rfl, if_pos (by omega), if_pos rfl, show (x : Int) + 1 = ((x + 1 : Nat) : Int) by omega]
/-- when -/
theorem stp_5 {E n B x D md : Nat} {os ls : Nat → Nat} {h0 hc : MH} (s : SX E h0) (hx : x < E) (sy : SY h0 x) (k5 : kd h0 x = 5) (c : WC E h0 x D os ls hc) (oD : opnS 0 h0 x = (D : Int)) (hD : D ≤ 3) (w : WI n B md h0 hc) (kw : ∀ c k, 46 ≤ c → c ≤ 53 → hc c k = h0 c k) (hnm : ∀ m : Nat, (m : Int) < h0 35 0 → nmR (h0 46 m) (h0 142 (8 + 16 * m + 13))) (hn0 : h0 35 0 = (n : Int)) (cc : CC md hc) : ∃ hc', F_X0_doStep 49 34 hc = some hc' ∧ STP E n B h0 x D os md hc hc' := by
  obtain ⟨y1, y2, y3, y4, y5, y6, y7, y8, y9⟩ := sy (by omega)
  have y3 := y3 (by omega)
  have yn := y2 (by omega)
  have y9 := y9 k5
  clear y2 y4 y5 y6 y7 y8
  have s' := s
  have c' := c
  obtain ⟨a1, a2, a3, a4, a5, a6, a7, a8⟩ := s
  obtain ⟨c1, c2, c3, c4, -⟩ := c
  have ctl : cntS 0 h0 x < 30 := by
    have := cntS_lt (b := 0) (h := h0) hx (by rw [Nat.zero_add]; show kd h0 x ≠ 6; omega); omega
  obtain ⟨l, u1, u2, u3, u4, u5, u6⟩ := a6 x hx (Or.inr k5)
  have cle := cntS_le (b := 0) (h := h0) l E (by omega)
  obtain ⟨wn, ewn⟩ : ∃ wn : Int, h0 142 (190 + 4 * x + 2) = wn := ⟨_, rfl⟩
  rw [ewn] at y3 y9
  have w1 := w.1
  have w2 := w.2.1
  generalize hh : hup hc 70 5 (hc 70 5 + 1) = h1
  have n1 : ∀ c k, ¬ (c = 70 ∧ k = 5) → h1 c k = hc c k := fun c k q => by rw [← hh]; exact hup_n _ _ _ _ _ _ q
  have e50 : h1 50 (cntS 0 h0 x) = 5 := by rw [n1 _ _ (by omega), kw _ _ (by omega) (by omega), y1]; exact k5
  have e51 : h1 51 (cntS 0 h0 x) = h0 51 (cntS 0 h0 x) := by rw [n1 _ _ (by omega), kw _ _ (by omega) (by omega)]
  have e52 : h1 52 (cntS 0 h0 x) = wn := by rw [n1 _ _ (by omega), kw _ _ (by omega) (by omega)]; exact y3
  have e53 : h1 53 (cntS 0 h0 x) = (cntS 0 h0 l : Int) := by rw [n1 _ _ (by omega), c4 _ (by omega)]; exact u6
  have n35 : h1 35 0 = (n : Int) := by rw [n1 _ _ (by omega)]; exact w1
  have W1 := WI_n (h' := h1) (fun c k z1 z2 => n1 c k (by omega)) w
  have nam : ∀ g : MH, g 142 0 = h1 35 0 → (∀ m, m < 6 → g 142 (8 + 16 * m + 13) = h0 142 (8 + 16 * m + 13)) → ∃ k : Int, F_X5_machineNamed 34 (h0 51 (cntS 0 h0 x)) h1 = some (k, h1) ∧ F_X12_machineNamed 0 (h0 142 (190 + 4 * x + 1)) g = some (k, g) ∧ (k = -1 ∨ (0 ≤ k ∧ k < (n : Int))) := fun g g0 gn => by
    obtain ⟨k, b1, b2, b3⟩ := named_l (h := h1) (g := g) (by omega) (fun m hm => by rw [n1 _ _ (by omega), kw _ _ (by omega) (by omega), gn m (by omega)]; exact hnm m (by omega)) g0 yn n 20000 20000 0 (by omega) (by omega) (by omega)
    exact ⟨k, b1, b2, by omega⟩
  obtain ⟨k, b1, -, b3⟩ := nam (fun c i => if c = 142 ∧ i = 0 then h1 35 0 else h0 c i) (by simp) (fun m hm => by simp)
  have nam2 : ∀ g : MH, g 142 0 = h1 35 0 → (∀ m, m < 6 → g 142 (8 + 16 * m + 13) = h0 142 (8 + 16 * m + 13)) → F_X12_machineNamed 0 (h0 142 (190 + 4 * x + 1)) g = some (k, g) := fun g g0 gn => by
    obtain ⟨k', d1, d2, d3⟩ := nam g g0 gn
    have : k' = k := congrArg Prod.fst (Option.some.inj (d1.symm.trans b1))
    rw [← this]; exact d2
  -- was it so?
  have sb : ∀ m : Nat, m < n → -1 ≤ h1 41 m ∧ h1 41 m ≤ 3 := fun m hm => by
    have z := W1.2.2.2.2.1 m (by rw [n35]; omega)
    exact ⟨z.1, z.2.1⟩
  obtain ⟨d1, d2, d3, d4⟩ := cc
  have was : F_X0_wasSo 49 (cntS 0 h0 x : Int) 34 h1 = some (if k ≠ -1 ∧ h1 41 k.toNat = wn then 1 else 0, h1) := by
    unfold F_X0_wasSo F_X0_wasSo_0 ck
    rw [if_pos (by omega), show ((cntS 0 h0 x : Int)).toNat = cntS 0 h0 x by omega, show 49 + 2 = 51 from rfl, e51, b1, bind_eq]
    dsimp only
    rw [if_pos (by omega)]
    by_cases km : k = -1
    · rw [if_pos km, if_neg (fun z => z.1 km)]
    · have := sb k.toNat (by omega)
      rw [if_neg km, if_pos (by omega), show 34 + 1 + 6 = 41 from rfl, show 49 + 3 = 52 from rfl, if_pos (by omega), if_pos (by omega)]
      by_cases kq : h1 41 k.toNat = wn
      · rw [if_neg (by omega), if_pos ⟨km, kq⟩]
      · rw [if_pos (by omega), if_neg (fun z => kq z.2)]
  have od : ∀ g : MH, WE n md h0 h1 g → (∀ m, m < 6 → g 142 (8 + 16 * m + 13) = h0 142 (8 + 16 * m + 13)) → (∀ k, 190 ≤ k → k < 430 → g 142 k = h0 142 k) → F_X12_does (x : Int) g = if k ≠ -1 ∧ h1 41 k.toNat = wn then some (((x + 1 : Nat) : Int), g) else some (((l + 1 : Nat) : Int), g) := fun g we gn v1 => by
    have gk : g 142 (190 + 4 * x) = 5 := by rw [v1 _ (by omega) (by omega)]; exact k5
    have gnm : g 142 (190 + 4 * x + 1) = h0 142 (190 + 4 * x + 1) := v1 _ (by omega) (by omega)
    have gn2 : g 142 (190 + 4 * x + 2) = wn := by rw [v1 _ (by omega) (by omega)]; exact ewn
    have gn3 : g 142 (190 + 4 * x + 3) = (l : Int) := by rw [v1 _ (by omega) (by omega)]; exact u1
    have st : F_X12_does (x : Int) g = F_X12_does_80 (x : Int) (190 + 4 * (x : Int)) 5 wn k g := by
      unfold F_X12_does F_X12_does_0 F_X12_does_53 F_X12_does_65 ck
      rw [nx_eq, if_pos (by omega), nx_eq, if_pos (by omega), nx_eq, show (190 + 4 * (x : Int)).toNat = 190 + 4 * x by omega, show (190 + 4 * (x : Int) + 2).toNat = 190 + 4 * x + 2 by omega, show (190 + 4 * (x : Int) + 1).toNat = 190 + 4 * x + 1 by omega, gk, gn2, gnm, if_pos (by omega), if_neg (by omega), if_pos (by omega), if_pos (by omega), nam2 g we.1.1 gn, bind_eq]
      dsimp only
      rw [if_pos (by omega), if_pos (by omega), if_pos (by omega), if_pos (by omega)]
    have e105 : F_X12_does_105 (190 + 4 * (x : Int)) g = some (((l + 1 : Nat) : Int), g) := by
      unfold F_X12_does_105 ck
      rw [if_pos (by omega), show (190 + 4 * (x : Int) + 3).toNat = 190 + 4 * x + 3 by omega, gn3, show (l : Int) + 1 = ((l + 1 : Nat) : Int) by omega]
    rw [st]
    unfold F_X12_does_80 ck
    rw [if_pos (by omega), if_neg (by omega), if_pos (by omega)]
    by_cases km : k = -1
    · rw [if_pos km, if_neg (fun z => z.1 km), e105]
    · obtain ⟨m, em⟩ : ∃ m : Nat, k = (m : Int) := ⟨k.toNat, by omega⟩
      have smn := sb m (by omega)
      obtain ⟨f0, f1, f2, f3, f4, f5, f6, f7⟩ := we.1.2.2.1 m (by omega) (by rw [n35]; omega)
      have f4' : g 142 (8 + 16 * m + 5) = h1 41 m := f4
      have om : F_X12_ofMachine k 5 g = some (h1 41 m, g) := by rw [em, of5 (m := 0) (by omega), f4']
      rw [if_neg km, om, bind_eq]
      dsimp only
      rw [if_pos (by omega), if_pos (by omega), show k.toNat = m by omega]
      by_cases kq : h1 41 m = wn
      · rw [if_pos kq, if_pos ⟨km, kq⟩]
        unfold F_X12_does_117 F_X12_does_144 ck
        rw [if_pos (by omega), if_neg km, if_pos (by omega), if_pos (by omega), if_pos (by omega), if_neg km, if_pos (by omega), if_neg (by omega), if_pos (by omega), show (x : Int) + 1 = ((x + 1 : Nat) : Int) by omega]
      · rw [if_neg kq, if_neg (fun z => kq z.2), e105]
  by_cases so : k ≠ -1 ∧ h1 41 k.toNat = wn
  · rw [if_pos so] at was
    obtain ⟨h2, D', os', ls', p1, p2, p3, p4, p5⟩ := blk (T := 1) s' hx (Or.inr k5) u1 c' oD (by omega) (fun _ => rfl) (by rw [← hh, hup_s]) n1
    have V : ∀ c k, ¬ (70 ≤ c ∧ c ≤ 72) → h2 c k = hc c k := fun c k z => by rw [p4 _ _ (by omega) (by omega) (by omega), n1 _ _ (by omega)]
    have V7 : ∀ k, k ≤ 4 → h2 70 k = hc 70 k := fun k z => by rw [p4 _ _ (by omega) (by omega) (by omega), n1 _ _ (by omega)]
    refine ⟨h2, ?_, x + 1, D', md, os', ls', p2, p3, WI_n (fun c k z1 z2 => V c k (by omega)) w, fun c k z1 z2 z3 z4 => V c k z4, ⟨by rw [V7 _ (by omega)]; exact d1, d2, by rw [V7 _ (by omega)]; exact d3, by rw [V7 _ (by omega)]; exact d4⟩, ⟨V7 _ (by omega), V7 _ (by omega)⟩, fun g wg we cg gn => ⟨g, ?_, p5 g g wg (fun _ _ _ => rfl) (fun z => by omega), WE_n (fun c k z1 z2 => V c k (by omega)) we, ⟨cg.1, by rw [V7 _ (by omega)]; exact cg.2.1, by rw [V7 _ (by omega)]; exact cg.2.2⟩, fun _ _ _ => rfl⟩⟩
    · unfold F_X0_doStep F_X0_doStep_0 F_X0_doStep_105 ck
      rw [nx_eq, nx_eq, hh, c2, if_pos (by omega), show ((cntS 0 h0 x : Int)).toNat = cntS 0 h0 x by omega, show 49 + 1 = 50 from rfl, e50, if_pos (by omega), if_neg (by omega), if_neg (by omega), if_pos (by omega), was, bind_eq]
      dsimp only
      rw [if_pos (by omega), if_neg (by omega), p1, bind_eq]
    · rw [od g (WE_n (fun c k z1 z2 => n1 c k (by omega)) we) gn wg.1, if_pos so]
  · rw [if_neg so] at was
    have N : ∀ c k, ¬ (c = 70 ∧ k = 5) → hup h1 70 5 (cntS 0 h0 l : Int) c k = hc c k := fun c k z => by rw [hup_n _ _ _ _ _ _ z, n1 _ _ z]
    obtain ⟨p1, p2⟩ := ovr (h2 := hup h1 70 5 (cntS 0 h0 l : Int)) s' hx (Or.inr k5) u1 c' oD (hup_s _ _ _ _) N
    refine ⟨hup h1 70 5 (cntS 0 h0 l : Int), ?_, l + 1, D, md, os, ls, p1, hD, WI_n (fun c k z1 z2 => N c k (by omega)) w, fun c k z1 z2 z3 z4 => N c k (by omega), ⟨by rw [N _ _ (by omega)]; exact d1, d2, by rw [N _ _ (by omega)]; exact d3, by rw [N _ _ (by omega)]; exact d4⟩, ⟨N _ _ (by omega), N _ _ (by omega)⟩, fun g wg we cg gn => ⟨g, ?_, ⟨wg.1, wg.2.1, fun i hi hk => by rw [N _ _ (by omega)]; exact wg.2.2.1 i hi hk, fun z => by omega⟩, WE_n (fun c k z1 z2 => N c k (by omega)) we, ⟨cg.1, by rw [N _ _ (by omega)]; exact cg.2.1, by rw [N _ _ (by omega)]; exact cg.2.2⟩, fun _ _ _ => rfl⟩⟩
    · unfold F_X0_doStep F_X0_doStep_0 F_X0_doStep_105 F_X0_enterBlock F_X0_enterBlock_0 ck
      rw [nx_eq, nx_eq, hh, c2, if_pos (by omega), show ((cntS 0 h0 x : Int)).toNat = cntS 0 h0 x by omega, show 49 + 1 = 50 from rfl, e50, if_pos (by omega), if_neg (by omega), if_neg (by omega), if_pos (by omega), was, bind_eq]
      dsimp only
      rw [if_pos (by omega), if_pos rfl, if_pos (by omega), if_pos rfl, if_pos (by omega), nx_eq, bind_eq, show 49 + 4 = 53 from rfl, e53]
    · rw [od g (WE_n (fun c k z1 z2 => n1 c k (by omega)) we) gn wg.1, if_neg so]
