theorem WI_up {n B md c k : Nat} {v : Int} {h0 h : MH} (i : WI n B md h0 h) (hk : k < n) (hc : (c = 36 ∧ 1 ≤ v ∧ v ≤ 99) ∨ (c = 40 ∧ 0 ≤ v ∧ v ≤ 99)) : WI n B md h0 (hup h c k v) := by
  obtain ⟨w1, w2, w3, w4, w5, w6, w7⟩ := i
  refine ⟨by rw [hup_n _ _ _ _ _ _ (by omega)]; exact w1, w2, fun q => ?_, fun q => absurd q (by omega), fun m hm => ?_, by rw [hup_n _ _ _ _ _ _ (by omega)]; exact w6, w7⟩
  · rcases hc with ⟨rfl, v1⟩ | ⟨rfl, v1⟩
    · exact FI_1 (f := 35) v1 (w3 q)
    · exact FI_5 (f := 35) v1 (w3 q)
  · rw [hup_n _ _ _ _ _ _ (by omega)] at hm
    rw [hup_n _ _ _ _ _ _ (by omega), hup_n _ _ _ _ 35 7 (by omega)]
    exact w5 m hm
/-- speed, halt, mend -/
theorem stp_h {E n B x D md : Nat} {os ls : Nat → Nat} {h0 hc : MH} (s : SX E h0) (hx : x < E) (sy : SY h0 x) (k0 : kd h0 x = 1 ∨ kd h0 x = 2 ∨ kd h0 x = 3) (c : WC E h0 x D os ls hc) (oD : opnS 0 h0 x = (D : Int)) (hD : D ≤ 3) (w : WI n B md h0 hc) (kw : ∀ c k, 46 ≤ c → c ≤ 53 → hc c k = h0 c k) (hnm : ∀ m : Nat, (m : Int) < h0 35 0 → nmR (h0 46 m) (h0 142 (8 + 16 * m + 13))) (hn0 : h0 35 0 = (n : Int)) (cc : CC md hc) : ∃ hc', F_X0_doStep 49 34 hc = some hc' ∧ STP E n B h0 x D os md hc hc' := by
  obtain ⟨y1, y2, y3, y4, y5, y6, y7, y8, y9⟩ := sy (by omega)
  have s' := s
  have c' := c
  obtain ⟨a1, a2, -⟩ := s
  obtain ⟨c1, c2, c3, c4, -⟩ := c
  have ctl : cntS 0 h0 x < 30 := by
    have := cntS_lt (b := 0) (h := h0) hx (by rw [Nat.zero_add]; show kd h0 x ≠ 6; omega); omega
  have yn := y2 (by omega)
  obtain ⟨wn, ewn⟩ : ∃ wn : Int, h0 142 (190 + 4 * x + 2) = wn := ⟨_, rfl⟩
  rw [ewn] at y3 y4 y6 y7
  have T : (kd h0 x = 1 ∧ 1 ≤ wn ∧ wn ≤ 99 ∧ h0 52 (cntS 0 h0 x) = wn) ∨ (kd h0 x = 2 ∧ 0 ≤ wn ∧ wn ≤ 99 ∧ h0 52 (cntS 0 h0 x) = wn) ∨ (kd h0 x = 3 ∧ wn = 0) := by
    rcases k0 with q | q | q
    · exact Or.inl ⟨q, (y6 q).1, (y6 q).2, y3 (by rw [q]; decide)⟩
    · exact Or.inr (Or.inl ⟨q, (y7 q).1, (y7 q).2, y3 (by rw [q]; decide)⟩)
    · exact Or.inr (Or.inr ⟨q, y4 q⟩)
  clear y2 y3 y4 y5 y6 y7 y8 y9 k0
  have kb : 1 ≤ kd h0 x ∧ kd h0 x ≤ 3 := by omega
  have w1 := w.1
  have w2 := w.2.1
  generalize hh : hup hc 70 5 (hc 70 5 + 1) = h1
  have n1 : ∀ c k, ¬ (c = 70 ∧ k = 5) → h1 c k = hc c k := fun c k q => by rw [← hh]; exact hup_n _ _ _ _ _ _ q
  have W1 := WI_n (h' := h1) (fun c k z1 z2 => n1 c k (by omega)) w
  have e50 : h1 50 (cntS 0 h0 x) = kd h0 x := by rw [n1 _ _ (by omega), kw _ _ (by omega) (by omega)]; exact y1
  have e51 : h1 51 (cntS 0 h0 x) = h0 51 (cntS 0 h0 x) := by rw [n1 _ _ (by omega), kw _ _ (by omega) (by omega)]
  have e52 : h1 52 (cntS 0 h0 x) = h0 52 (cntS 0 h0 x) := by rw [n1 _ _ (by omega), kw _ _ (by omega) (by omega)]
  have n35 : h1 35 0 = (n : Int) := by rw [n1 _ _ (by omega)]; exact w1
  -- the machine's name, on both sides
  have nam : ∀ g : MH, g 142 0 = h1 35 0 → (∀ m, m < 6 → g 142 (8 + 16 * m + 13) = h0 142 (8 + 16 * m + 13)) → ∃ k : Int, F_X5_machineNamed 34 (h0 51 (cntS 0 h0 x)) h1 = some (k, h1) ∧ F_X12_machineNamed 0 (h0 142 (190 + 4 * x + 1)) g = some (k, g) ∧ (k = -1 ∨ (0 ≤ k ∧ k < (n : Int))) := fun g g0 gn => by
    obtain ⟨k, b1, b2, b3⟩ := named_l (h := h1) (g := g) (by omega) (fun m hm => by rw [n1 _ _ (by omega), kw _ _ (by omega) (by omega), gn m (by omega)]; exact hnm m (by omega)) g0 yn n 20000 20000 0 (by omega) (by omega) (by omega)
    exact ⟨k, b1, b2, by omega⟩
  obtain ⟨k, b1, -, b3⟩ := nam (fun c i => if c = 142 ∧ i = 0 then h1 35 0 else h0 c i) (by simp) (fun m hm => by simp)
  have nam2 : ∀ g : MH, g 142 0 = h1 35 0 → (∀ m, m < 6 → g 142 (8 + 16 * m + 13) = h0 142 (8 + 16 * m + 13)) → F_X12_machineNamed 0 (h0 142 (190 + 4 * x + 1)) g = some (k, g) := fun g g0 gn => by
    obtain ⟨k', d1, d2, d3⟩ := nam g g0 gn
    have : k' = k := congrArg Prod.fst (Option.some.inj (d1.symm.trans b1))
    rw [← this]; exact d2
  -- what is written
  obtain ⟨h2, g2, hst, W2, kk, ge⟩ : ∃ (h2 : MH) (G : MH → MH), F_X0_handle 49 (cntS 0 h0 x : Int) 34 h1 = some h2 ∧ WI n B md h0 h2 ∧ (∀ c i, c ≠ 36 → c ≠ 40 → h2 c i = h1 c i) ∧ ∀ g, WE n md h0 h1 g → (∀ m, m < 6 → g 142 (8 + 16 * m + 13) = h0 142 (8 + 16 * m + 13)) → F_X12_does_53 (x : Int) (190 + 4 * (x : Int)) (kd h0 x) wn k g = some (((x + 1 : Nat) : Int), G g) ∧ WE n md h0 h2 (G g) ∧ ∀ c i, ¬ (c = 142 ∧ 8 ≤ i ∧ i < 104 ∧ ((i - 8) % 16 = 0 ∨ (i - 8) % 16 = 4)) → G g c i = g c i := by
    by_cases km : k = -1
    · refine ⟨h1, fun g => g, ?_, W1, fun _ _ _ _ => rfl, fun g we gn => ⟨?_, we, fun _ _ _ => rfl⟩⟩
      · unfold F_X0_handle F_X0_handle_0 ck
        rw [if_pos (by omega), show ((cntS 0 h0 x : Int)).toNat = cntS 0 h0 x by omega, show 49 + 2 = 51 from rfl, e51, b1, bind_eq]
        dsimp only
        rw [if_pos (by omega), if_neg (by omega)]
      · unfold F_X12_does_53 F_X12_does_65 F_X12_does_80 F_X12_does_117 F_X12_does_144 ck
        rw [if_pos (by omega), if_pos (by omega), if_pos (by omega), if_pos (by omega), if_pos (by omega), if_pos (by omega), if_pos (by omega), if_pos km, if_pos (by omega), if_pos km, show (x : Int) + 1 = ((x + 1 : Nat) : Int) by omega]
    · obtain ⟨m, em⟩ : ∃ m : Nat, k = (m : Int) := ⟨k.toNat, by omega⟩
      have hmn : m < n := by omega
      by_cases k1 : kd h0 x = 1
      · have wb : 1 ≤ wn ∧ wn ≤ 99 ∧ h0 52 (cntS 0 h0 x) = wn := by omega
        refine ⟨hup h1 36 m wn, fun g => hup g 142 (8 + 16 * m) wn, ?_, WI_up W1 hmn (Or.inl ⟨rfl, wb.1, wb.2.1⟩), fun c i z1 z2 => hup_n _ _ _ _ _ _ (by omega), fun g we gn => ⟨?_, ⟨?_, ?_, fun q => absurd q (by omega)⟩, fun c i z => hup_n _ _ _ _ _ _ (by omega)⟩⟩
        · unfold F_X0_handle F_X0_handle_0 ck
          rw [if_pos (by omega), show ((cntS 0 h0 x : Int)).toNat = cntS 0 h0 x by omega, show 49 + 2 = 51 from rfl, e51, b1, bind_eq]
          dsimp only
          rw [if_pos (by omega), if_pos (by omega), show 49 + 1 = 50 from rfl, if_pos (by omega), if_neg (by omega), if_pos (by omega), nx_eq, show 49 + 3 = 52 from rfl, e52, wb.2.2, em, show ((m : Int)).toNat = m by omega]
        · unfold F_X12_does_53 F_X12_does_65 F_X12_does_80 F_X12_does_117 F_X12_does_144 F_X12_machineAt F_X12_machineAt_0 ck
          rw [if_pos (by omega), if_pos (by omega), if_pos (by omega), if_pos (by omega), if_pos (by omega), if_pos (by omega), if_pos (by omega), if_neg km, if_pos (by omega), if_neg (by omega), bind_eq]
          dsimp only
          rw [if_pos (by omega), if_pos (by omega), nx_eq, if_pos (by omega), if_neg km, if_pos (by omega), if_neg (by omega), if_pos (by omega), em, show ((0 : Int) + 8 + 16 * (m : Int) + 0).toNat = 8 + 16 * m by omega, show (x : Int) + 1 = ((x + 1 : Nat) : Int) by omega]
        · exact FE_1 (f := 35) (by omega) (by omega) we.1
        · dsimp only
          rw [hup_n _ _ _ _ _ _ (by omega), hup_n _ _ _ _ _ _ (by omega)]; exact we.2.1
      · have wb : 0 ≤ wn ∧ wn ≤ 99 := by omega
        refine ⟨hup h1 40 m wn, fun g => hup g 142 (8 + 16 * m + 4) wn, ?_, WI_up W1 hmn (Or.inr ⟨rfl, wb⟩), fun c i z1 z2 => hup_n _ _ _ _ _ _ (by omega), fun g we gn => ⟨?_, ⟨?_, ?_, fun q => absurd q (by omega)⟩, fun c i z => hup_n _ _ _ _ _ _ (by omega)⟩⟩
        · unfold F_X0_handle F_X0_handle_0 ck
          rw [if_pos (by omega), show ((cntS 0 h0 x : Int)).toNat = cntS 0 h0 x by omega, show 49 + 2 = 51 from rfl, e51, b1, bind_eq]
          dsimp only
          rw [if_pos (by omega), if_pos (by omega), show 49 + 1 = 50 from rfl, if_pos (by omega), if_pos (by omega)]
          by_cases k2 : kd h0 x = 2
          · have e5 : h0 52 (cntS 0 h0 x) = wn := by omega
            rw [if_neg (by omega), if_pos (by omega), nx_eq, show 49 + 3 = 52 from rfl, e52, e5, em, show ((m : Int)).toNat = m by omega]
          · have : wn = 0 := by omega
            rw [if_pos (by omega), if_pos (by omega), nx_eq, em, show ((m : Int)).toNat = m by omega, this]
        · unfold F_X12_does_53 F_X12_does_65 F_X12_does_80 F_X12_does_117 F_X12_does_144 F_X12_does_160 F_X12_machineAt F_X12_machineAt_0 ck
          have fin : (some ((0 : Int) + 8 + 16 * k, g)).bind (fun q1 => if in32 wn then (if 0 ≤ q1.1 + 4 ∧ q1.1 + 4 < 2640 then nx (hup q1.2 142 (q1.1 + 4).toNat wn) (fun h4 => some ((x : Int) + 1, h4)) else none) else none) = some (((x + 1 : Nat) : Int), hup g 142 (8 + 16 * m + 4) wn) := by
            rw [bind_eq]
            dsimp only
            rw [if_pos (by omega), if_pos (by omega), nx_eq, em, show ((0 : Int) + 8 + 16 * (m : Int) + 4).toNat = 8 + 16 * m + 4 by omega, show (x : Int) + 1 = ((x + 1 : Nat) : Int) by omega]
          rw [if_pos (by omega), if_pos (by omega), if_pos (by omega), if_pos (by omega), if_pos (by omega), if_pos (by omega), if_pos (by omega), if_neg km, if_pos (by omega), if_pos (by omega), if_pos (by omega), if_neg km, if_pos (by omega)]
          by_cases k2 : kd h0 x = 2
          · rw [if_pos k2]; exact fin
          · rw [if_neg k2, if_neg (by omega)]; exact fin
        · exact FE_5 (f := 35) (by omega) (by omega) we.1
        · dsimp only
          rw [hup_n _ _ _ _ _ _ (by omega), hup_n _ _ _ _ _ _ (by omega)]; exact we.2.1
  obtain ⟨d1, d2, d3, d4⟩ := cc
  have W3 : WC E h0 (x + 1) D os ls h2 := WC_next s' hx (by omega) (by omega) c' oD (by rw [kk _ _ (by omega) (by omega), ← hh, hup_s]) (fun c i z1 z2 => by rw [kk _ _ (by omega) (by omega), n1 _ _ (by omega)])
  refine ⟨h2, ?_, x + 1, D, md, os, ls, W3, hD, W2, fun c i z1 z2 z3 z4 => by rw [kk _ _ (by omega) (by omega), n1 _ _ (by omega)], ⟨by rw [kk _ _ (by omega) (by omega), n1 _ _ (by omega)]; exact d1, d2, by rw [kk _ _ (by omega) (by omega), n1 _ _ (by omega)]; exact d3, by rw [kk _ _ (by omega) (by omega), n1 _ _ (by omega)]; exact d4⟩, ⟨by rw [kk _ _ (by omega) (by omega), n1 _ _ (by omega)], by rw [kk _ _ (by omega) (by omega), n1 _ _ (by omega)]⟩, fun g wg we cg gn => ?_⟩
  · unfold F_X0_doStep F_X0_doStep_0 ck
    rw [nx_eq, nx_eq, hh, c2, if_pos (by omega), show ((cntS 0 h0 x : Int)).toNat = cntS 0 h0 x by omega, show 49 + 1 = 50 from rfl, e50, if_pos (by omega), if_neg (by omega), if_neg (by omega), if_neg (by omega), hst, bind_eq]
  · obtain ⟨v1, v2, v3, v4⟩ := wg
    have we1 := WE_n (h' := h1) (fun c k z1 z2 => n1 c k (by omega)) we
    obtain ⟨u1, u2, u3⟩ := ge g we1 gn
    have gk : g 142 (190 + 4 * x) = kd h0 x := v1 _ (by omega) (by omega)
    have gnm : g 142 (190 + 4 * x + 1) = h0 142 (190 + 4 * x + 1) := v1 _ (by omega) (by omega)
    have gn2 : g 142 (190 + 4 * x + 2) = wn := by rw [v1 _ (by omega) (by omega)]; exact ewn
    refine ⟨g2 g, ?_, ⟨fun k z1 z2 => by rw [u3 _ _ (by omega)]; exact v1 k z1 z2, by rw [u3 _ _ (by omega)]; exact v2, fun i hi hk2 => by rw [u3 _ _ (by omega), kk _ _ (by omega) (by omega), n1 _ _ (by omega)]; exact v3 i hi hk2, fun q => ?_⟩, u2, ⟨by rw [u3 _ _ (by omega)]; exact cg.1, by rw [u3 _ _ (by omega), kk _ _ (by omega) (by omega), n1 _ _ (by omega)]; exact cg.2.1, by rw [u3 _ _ (by omega), kk _ _ (by omega) (by omega), n1 _ _ (by omega)]; exact cg.2.2⟩, fun c i z => ?_⟩
    · unfold F_X12_does F_X12_does_0 ck
      rw [nx_eq, if_pos (by omega), nx_eq, if_pos (by omega), nx_eq, show (190 + 4 * (x : Int)).toNat = 190 + 4 * x by omega, show (190 + 4 * (x : Int) + 2).toNat = 190 + 4 * x + 2 by omega, show (190 + 4 * (x : Int) + 1).toNat = 190 + 4 * x + 1 by omega, gk, gn2, gnm, if_pos (by omega), if_neg (by omega), if_pos (by omega), if_pos (by omega), nam2 g we1.1.1 gn, bind_eq]
      exact u1
    · exfalso
      have ops := opn_s (h0 := h0) x
      rw [if_neg (by omega), if_neg (by omega)] at ops
      omega
    · obtain ⟨z1, z2, z3, z4⟩ := z
      unfold OM OG O3 at z1
      exact u3 _ _ (by omega)
