theorem o_work : Ob_work RR := by
  intro n0 h hn r
  refine ob_ev ?_
  obtain ⟨F, X⟩ := PR_FR.mp r.2.2.2.1
  obtain ⟨E, hE, s, hq⟩ := SX_of r.2.2.2.2.1
  have sy := SY_of r.2.2.2.2.1 hE
  obtain ⟨F1, F2, F3, F4, F5, F6⟩ := F
  have F' : FR 35 0 n0 h := ⟨F1, F2, F3, F4, F5, F6⟩
  simp only [Nat.zero_add, show 34 + 1 = 35 from rfl] at F1 F2 F3 F4 F6
  obtain ⟨X1, X2, X3⟩ := X
  have X' : PX 34 0 h := ⟨X1, X2, X3⟩
  simp only [Nat.zero_add, show 34 + 1 = 35 from rfl, show 34 + 12 = 46 from rfl] at X2
  obtain ⟨n, en⟩ : ∃ n : Nat, h 35 0 = (n : Int) := ⟨(h 35 0).toNat, by omega⟩
  generalize hh : hup (hup (hup (hup (hup (hup (hup h 70 0 1) 70 1 0) 70 2 0) 70 3 0) 70 4 0) 70 5 0) 70 6 0 = h7
  have N : ∀ c k, c ≠ 70 → h7 c k = h c k := fun c k z => by
    rw [← hh]; simp (disch := omega) only [hup_n]
  have v0 : h7 70 0 = 1 := by rw [← hh]; simp (disch := omega) only [hup_n, hup_s]
  have v1 : h7 70 1 = 0 := by rw [← hh]; simp (disch := omega) only [hup_n, hup_s]
  have v2 : h7 70 2 = 0 := by rw [← hh]; simp (disch := omega) only [hup_n, hup_s]
  have v3 : h7 70 3 = 0 := by rw [← hh]; simp (disch := omega) only [hup_n, hup_s]
  have v4 : h7 70 4 = 0 := by rw [← hh]; simp (disch := omega) only [hup_n, hup_s]
  have v5 : h7 70 5 = 0 := by rw [← hh]; simp (disch := omega) only [hup_n, hup_s]
  have v6 : h7 70 6 = 0 := by rw [← hh, hup_s]
  have lb : F_X0_leaveBlocks 49 h7 = some h7 := by
    unfold F_X0_leaveBlocks
    rw [show (20000 : Nat) = 19999 + 1 from rfl, F_X0_leaveBlocks_0]
    unfold ck
    rw [v6, if_pos (by omega), if_pos (by omega)]
  have c0 : cntS 0 h 0 = 0 := rfl
  have o0 : opnS 0 h 0 = 0 := rfl
  have wc : WC E h 0 0 (fun _ => 0) (fun _ => 0) h7 := ⟨by omega, by rw [v5, c0]; rfl, by rw [v6]; rfl, fun i _ => N _ _ (by omega), fun i hi => absurd hi (by omega), Or.inl o0⟩
  have xk : 0 = E ∨ kd h 0 ≠ 6 := by
    rcases Nat.eq_zero_or_pos E with q | q
    · exact Or.inl q.symm
    · right
      intro z
      obtain ⟨o, _, w2, _⟩ := s.2.2.2.2.2.2.1 0 q z
      omega
  have wi : WI n n0 0 h h7 := by
    refine ⟨by rw [N _ _ (by omega)]; exact en, by omega, fun q => ?_, fun _ c k z1 z2 _ => N c k (by omega), fun m hm => ?_, by rw [N _ _ (by omega)]; omega, by omega⟩
    · exact (FI_c (h := h) (fun c k z1 z2 => N c k (by omega)) (FI_of F' (by omega))).up (by omega) (by omega)
    · rw [N _ _ (by omega)] at hm
      rw [N _ _ (by omega), N 35 7 (by omega)]
      obtain ⟨_, _, _, _, m5, _⟩ := F5 m hm
      exact ⟨m5.1, m5.2.1, m5.2.2.2⟩
  obtain ⟨md, hF, a1, ⟨a2, a3, a4⟩, a5⟩ := all_l (n := n) (B := n0) s hE hq sy (by omega) (fun m hm => (X2 m hm).2) en 100 19999 19999 0 0 0 0 (fun _ => 0) (fun _ => 0) h7 h7 (by omega) (by omega) (by omega) lb wc o0 (by omega) xk wi (fun c k z1 z2 z3 z4 => N c k (by omega)) ⟨by rw [v2]; rfl, by omega, by rw [v3]; omega, Or.inl v4⟩ (by rw [v1]; rfl) v0
  obtain ⟨b0, b2, bm, b3, b4, b5, b6⟩ := a4
  have ca : F_X0_doAll 49 34 h = some hF := by
    unfold F_X0_doAll F_X0_doAll_0
    simp only [nx_eq]
    rw [hh]
    exact a1
  generalize hg : hup (hup (hup (hup hF 0 0 0) 141 29 0) 141 31 0) 141 32 0 = g3
  have M : ∀ c k, ¬ (c = 141 ∧ (k = 29 ∨ k = 31 ∨ k = 32)) → g3 c k = hup hF 0 0 0 c k := fun c k z => by
    rw [← hg, hup_n _ _ _ _ _ _ (by omega), hup_n _ _ _ _ _ _ (by omega), hup_n _ _ _ _ _ _ (by omega)]
  have M142 : ∀ k, g3 142 k = h 142 k := fun k => by rw [M _ _ (by omega), hup_n _ _ _ _ _ _ (by omega), a3 _ _ (by omega) (by omega) (by omega) (by omega)]
  obtain ⟨gF, d1, d2, ⟨d3, d4, d5, d6⟩, d7⟩ := a5 g3 ⟨fun k _ _ => M142 k, M142 5, fun i hi => absurd hi (by omega), fun q => absurd q (by rw [o0]; omega)⟩ ⟨FE_c (h := h) (fun c k z1 z2 => N c k (by omega)) (FE_of F' M142), by rw [M142, N _ _ (by omega)]; exact F2.2.2, fun _ k _ => M142 k⟩ ⟨by rw [← hg, hup_n _ _ _ _ _ _ (by omega), hup_n _ _ _ _ _ _ (by omega), hup_s]; rfl, by rw [v3, ← hg, hup_n _ _ _ _ _ _ (by omega), hup_s], by rw [v4, ← hg, hup_s]⟩ (fun m _ => M142 _)
  have oa : F_X12_work (hup hF 0 0 0) = some (hF 70 1, gF) := by
    unfold F_X12_work F_X12_work_0
    simp only [nx_eq]
    rw [hg]
    exact d1
  -- what gF holds
  have Q : ∀ c k, c < 141 → ¬ (c = 0 ∧ k = 0) → gF c k = hF c k := fun c k z1 z2 => by
    rw [d7 c k (by unfold OV OW OM OG O3; omega), M _ _ (by omega), hup_n _ _ _ _ _ _ z2]
  have Qh : ∀ c k, OV c k → ¬ (c = 0 ∧ k = 0) → ¬ (c = 35 ∧ (k = 6 ∨ k = 7)) → c ≠ 36 → ¬ (40 ≤ c ∧ c ≤ 45) → ¬ (70 ≤ c ∧ c ≤ 72) → ¬ (c = 141 ∧ (k = 29 ∨ k = 31 ∨ k = 32)) → gF c k = h c k := fun c k z0 z1 z2 z3 z4 z5 z6 => by
    rw [d7 c k z0, M _ _ z6, hup_n _ _ _ _ _ _ z1, a3 c k z2 z3 z4 z5]
  have Q0 : gF 0 0 = 0 := by rw [d7 0 0 (by unfold OV OW OM OG O3; omega), M _ _ (by omega), hup_s]
  obtain ⟨e1, e2, e3⟩ := d2
  obtain ⟨i1, i2, i3, i4, i5, i6, i7⟩ := a2
  have f142_3 : gF 142 3 = h 142 3 := Qh _ _ (by unfold OV OW OM OG O3; omega) (by omega) (by omega) (by omega) (by omega) (by omega) (by omega)
  have hF5 : hF 35 5 = h 35 5 := a3 _ _ (by omega) (by omega) (by omega) (by omega)
  have fr : FR 35 0 (n0 + 1) gF := by
    rcases Nat.eq_zero_or_pos n with q | q
    · have j4 := i4 q
      have j3 := e3 q
      have g35 : ∀ c k, 35 ≤ c → c ≤ 45 → ¬ (c = 35 ∧ k = 7) → gF c k = h c k := fun c k z1 z2 z3 => by rw [Q c k (by omega) (by omega), j4 c k z1 z2 z3]
      have g7 : gF 35 7 = h 35 7 + md := by rw [Q 35 7 (by omega) (by omega)]; exact i6
      unfold FR
      simp only [Nat.zero_add]
      rw [g35 35 0 (by omega) (by omega) (by omega), g35 35 5 (by omega) (by omega) (by omega), g35 35 6 (by omega) (by omega) (by omega), g7, e2, j3 0 (by omega), j3 3 (by omega), j3 4 (by omega), i6]
      refine ⟨F1, ⟨by omega, by omega, rfl⟩, F3, F4, fun m hm => by omega, fun k hk => ?_⟩
      rw [g35 (35 + 10) k (by omega) (by omega) (by omega), j3 _ (by omega)]
      obtain ⟨z1, z2, z3⟩ := F6 k hk
      exact ⟨z1, by omega, z3⟩
    · refine FR_mk (f := 35) (h := hF) (fun c k z => Q c k (by omega) (by omega)) (i3 q) (by omega) (by omega) e1 i5 ⟨by omega, by omega, e2⟩ ⟨by rw [hF5]; exact F3.1, by rw [hF5]; exact F3.2.1, by rw [f142_3, hF5]; exact F3.2.2⟩
  have px : PX 34 0 gF := by
    have P : ∀ c k, (c = 34 ∨ c = 46 ∨ c = 47 ∨ c = 48 ∨ (c = 35 ∧ k = 0) ∨ (c = 142 ∧ (k = 1 ∨ (140 ≤ k ∧ k < 190) ∨ (8 ≤ k ∧ k < 104 ∧ ((k - 8) % 16 = 1 ∨ (k - 8) % 16 = 13))))) → gF c k = h c k := fun c k z => Qh c k (by unfold OV OW OM OG O3; omega) (by omega) (by omega) (by omega) (by omega) (by omega) (by omega)
    refine ⟨?_, fun m hm => ?_, fun k hk => ?_⟩
    · rw [P _ _ (by omega), P _ _ (by omega)]; exact X1
    · rw [show 34 + 1 = 35 from rfl, P 35 0 (by omega)] at hm
      have z := X2 m hm
      rw [Nat.zero_add, show 34 + 13 = 47 from rfl, show 34 + 12 = 46 from rfl, P 47 m (by omega), P 46 m (by omega), P 142 (8 + 16 * m + 1) (by omega), P 142 (8 + 16 * m + 13) (by omega)]
      exact z
    · rw [P _ _ (by omega), P _ _ (by omega)]; exact X3 k hk
  have pr : PR 34 0 (n0 + 1) gF := PR_FR.mpr ⟨fr, px⟩
  unfold F_X11_work F_X11_work_0 F_X11_answer F_X11_answer_0
  rw [ca, bind_eq, nx_eq, bind_eq]
  refine ev_some ?_
  dsimp only
  rw [oa]
  refine ev_some ⟨rfl, by omega, ?_⟩
  dsimp only
  have r1g : R1 gF := by
    obtain ⟨⟨-, s2, s3⟩, -⟩ := r
    unfold R1
    rw [Q0, d6, Qh 0 1 (by unfold OV OW OM OG O3; omega) (by omega) (by omega) (by omega) (by omega) (by omega) (by omega), Qh 0 2 (by unfold OV OW OM OG O3; omega) (by omega) (by omega) (by omega) (by omega) (by omega) (by omega), Qh 141 2 (by unfold OV OW OM OG O3; omega) (by omega) (by omega) (by omega) (by omega) (by omega) (by omega), Qh 141 3 (by unfold OV OW OM OG O3; omega) (by omega) (by omega) (by omega) (by omega) (by omega) (by omega)]
    exact ⟨⟨by omega, by omega, rfl⟩, s2, s3⟩
  generalize hm : (fun c k => if (c = 70 ∧ k ≤ 4) ∨ (c = 141 ∧ 29 ≤ k ∧ k ≤ 31) then h c k else gF c k : MH) = mm
  have m1 : ∀ c k, ¬ ((c = 70 ∧ k ≤ 4) ∨ (c = 141 ∧ 29 ≤ k ∧ k ≤ 31)) → mm c k = gF c k := fun c k z => by rw [← hm]; exact if_neg z
  have m2 : ∀ c k, ((c = 70 ∧ k ≤ 4) ∨ (c = 141 ∧ 29 ≤ k ∧ k ≤ 31)) → mm c k = h c k := fun c k z => by rw [← hm]; exact if_pos z
  have rm : RR (n0 + 1) mm := by
    refine RR_4 (h := h) ?_ ?_ (PR_f (fun c k z => m1 c k (by unfold Zp at z; omega)) pr) (RR_mono _ _ r)
    · intro c k q
      obtain ⟨q, qq⟩ := q
      by_cases z : (c = 70 ∧ k ≤ 4) ∨ (c = 141 ∧ 29 ≤ k ∧ k ≤ 31)
      · exact m2 c k z
      · rw [m1 c k z]
        unfold Zall Z2 Z3 Zp Zs Z6 Z7 Z8 Z9 Z10 Z11 Z12 at q
        unfold Zp at qq
        exact Qh c k (by unfold OV OW OM OG O3; omega) (by omega) (by omega) (by omega) (by omega) (by omega) (by omega)
    · unfold R1 at r1g ⊢
      rw [m1 0 0 (by omega), m1 0 1 (by omega), m1 0 2 (by omega), m1 141 1 (by omega), m1 141 2 (by omega), m1 141 3 (by omega)]
      exact r1g
  refine RR_8 (h := mm) ?_ r1g ?_ rm
  · intro c k q
    obtain ⟨q, qq⟩ := q
    unfold Z8 at qq
    exact (m1 c k (by omega)).symm
  · right
    rw [Q 70 0 (by omega) (by omega), Q 70 2 (by omega) (by omega), Q 70 3 (by omega) (by omega), Q 70 4 (by omega) (by omega), d3, d4, d5, b2]
    exact ⟨b0, b4, rfl, ⟨by omega, by omega, rfl⟩, ⟨b3.1, by omega, rfl⟩⟩
