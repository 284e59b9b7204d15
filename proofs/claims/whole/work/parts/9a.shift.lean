/-! ===== shift ===== -/
theorem shift_k {L : Nat} {h : MH} (hL : L ≤ 300) (h1 : (L : Int) ≤ h 8 1 ∧ h 8 1 ≤ 700 ∧ h 141 9 = h 8 1) (hb : ∀ k : Nat, (k : Int) < h 8 1 → (-128 ≤ h 9 k ∧ h 9 k ≤ 127) ∧ h 146 k = h 9 k) :
    ∀ g, (∀ c k, 141 ≤ c → g c k = h c k) → ∃ b h' g', F_X7_takesAll (L : Int) h = some (b, h') ∧ F_X12_shift (L : Int) g = F_X12_shift_109 g' ∧ ((b = 1 ∧ S0 L h' g' ∧ ∃ E n : Nat, PI E n 0 h' g') ∨ (b = 0 ∧ FT h' g')) ∧ (h' 8 1 = 0 ∧ g' 141 9 = 0) ∧ (∀ c k, c ≠ 8 → ¬ (27 ≤ c ∧ c ≤ 33) → h' c k = h c k) ∧ ∀ c k, ¬ (c = 141 ∧ 9 ≤ k ∧ k ≤ 22) → c ≠ 147 → c ≠ 150 → ¬ (c = 142 ∧ 1760 ≤ k) → g' c k = g c k := by
  intro g hg
  generalize eI : hup (hup h 28 0 0) 27 3 0 = hI
  have nI : ∀ c k, ¬ (c = 28 ∧ k = 0) → ¬ (c = 27 ∧ k = 3) → hI c k = h c k := fun c k z1 z2 => by rw [← eI, hup_n _ _ _ _ _ _ z2, hup_n _ _ _ _ _ _ z1]
  obtain ⟨h2, g2, a1, a2, a3, ⟨a4, a5⟩, a6, a7⟩ := beg_l (L := L) (h := hI) (g := g) (by omega) (by rw [nI _ _ (by omega) (by omega)] <;> omega) (fun k hk => by
    rw [nI _ _ (by omega) (by omega), hg _ _ (by omega)]
    exact hb k (by omega))
  generalize eJ : hup (hup (hup g2 142 1765 0) 141 21 0) 141 22 0 = gJ
  have nJ : ∀ c k, ¬ (c = 142 ∧ k = 1765) → ¬ (c = 141 ∧ (k = 21 ∨ k = 22)) → gJ c k = g2 c k := fun c k z1 z2 => by rw [← eJ, hup_n _ _ _ _ _ _ (by omega), hup_n _ _ _ _ _ _ (by omega), hup_n _ _ _ _ _ _ z1]
  have sJ : S0 L h2 gJ := a3.f (fun _ _ _ => rfl) (fun c k z => nJ _ _ (by omega) (by omega))
  have pJ : PI 0 0 0 h2 gJ := PI_0 (by rw [← eJ, hup_n _ _ _ _ _ _ (by omega), hup_n _ _ _ _ _ _ (by omega), hup_s]) (by rw [← eJ, hup_s]) (by rw [a6 _ _ (by omega), ← eI, hup_n _ _ _ _ _ _ (by omega), hup_s]) (by rw [a6 _ _ (by omega), ← eI, hup_s]) (by rw [← eJ, hup_n _ _ _ _ _ _ (by omega), hup_s])
  obtain ⟨k1, k2, k3, -⟩ := sJ.k
  obtain ⟨m1, m2, m3, m4, m5, m6⟩ := kmp_1 k1
  obtain ⟨b, h5, g5, c1, c2, c3, c4, c5⟩ := turns_l hL 301 20000 20000 0 h2 gJ (by omega) (by omega) (by omega) sJ ⟨0, 0, 0, pJ⟩ (by omega)
  rw [show ((0 : Nat) : Int) = 0 from rfl] at c1
  refine ⟨b, h5, g5, ?_, ?_, c3, ⟨by rw [c4 _ _ (by omega) (by omega)]; exact a4, by rw [c5 _ _ (by omega) (by omega) (by omega), nJ _ _ (by omega) (by omega)]; exact a5⟩, fun c k z1 z2 => by rw [c4 _ _ (by omega) z2, a6 _ _ z1, nI _ _ (by omega) (by omega)], fun c k z1 z2 z3 z4 => by rw [c5 _ _ (by omega) z3 z4, nJ _ _ (by omega) (by omega), a7 _ _ (by omega) z2]⟩
  · unfold F_X7_takesAll F_X7_takesAll_0
    rw [nx_eq, nx_eq, eI, a1, bind_eq, c1]
  · have g9 : g 141 9 = h 8 1 := by rw [hg _ _ (by omega)]; exact h1.2.2
    unfold F_X12_shift F_X12_shift_0 F_X12_shift_61 ck
    rw [if_pos (by omega), if_neg (by omega), g9, if_pos (by omega), if_neg (by omega), if_pos (by omega), a2, bind_eq, nx_eq, nx_eq, nx_eq, eJ, k2, if_pos m1, ← c2]
    by_cases w : h2 8 4 = 0
    · rw [if_pos (m6.mpr w), if_pos w]
    · rw [if_neg (fun v => w (m6.mp v)), if_neg w]
theorem o_shift : Ob_shift RR := by
  intro n h a1 hn r i1
  refine ob_ev ?_
  obtain ⟨⟨c1, c2, c3⟩, c4, c5, c6⟩ := r.2.2.1
  by_cases q : 0 ≤ a1 ∧ a1 ≤ 300 ∧ a1 ≤ h 8 1
  · obtain ⟨L, rfl⟩ : ∃ L : Nat, a1 = (L : Int) := ⟨a1.toNat, by omega⟩
    have key := shift_k (L := L) (h := h) (by omega) ⟨by omega, c2, c3⟩ c6
    obtain ⟨b, h', g0, k1, -, k3, ⟨k4, -⟩, k6, -⟩ := key h (fun _ _ _ => rfl)
    have hb : b = 0 ∨ b = 1 := by rcases k3 with ⟨z, _⟩ | ⟨z, _⟩ <;> omega
    unfold F_X11_shift F_X11_shift_0 F_X11_outside F_X11_outside_0
    refine ev_ck i1 (ev_ck (by omega) (ev_ck (by omega) ?_))
    refine ev_bind ?_
    refine ev_ck (by omega) (ev_ck (by omega) (ev_ie (by omega) (ev_ck (by omega) (ev_it (by omega) (ev_some ?_)))))
    dsimp only
    refine ev_ck (by omega) (ev_it rfl ?_)
    refine ev_bind ?_
    rw [k1]
    refine ev_some ?_
    dsimp only
    refine ev_ck (by omega) ?_
    by_cases b0 : b = 0
    · refine ev_ie (fun z => z b0) ?_
      unfold F_X11_none F_X11_none_0
      rw [nx_eq, bind_eq]
      refine ev_some ?_
      dsimp only
      generalize eF : hup h' 0 0 9 = hF
      have nF : ∀ c k, ¬ (c = 0 ∧ k = 0) → hF c k = h' c k := fun c k z => by rw [← eF, hup_n _ _ _ _ _ _ z]
      obtain ⟨b', h'', g', l1, l2, l3, ⟨l4, l5⟩, l6, l7⟩ := key hF (fun c k z => by rw [nF _ _ (by omega), k6 _ _ (by omega) (by omega)])
      rw [k1] at l1
      obtain ⟨eb, eh⟩ := Prod.mk.inj (Option.some.inj l1)
      rw [← eb, ← eh] at l3
      rcases l3 with ⟨z, -⟩ | ⟨-, ft⟩
      · omega
      obtain ⟨⟨f1, f2, f3⟩, f4, f5, f6⟩ := ft
      rw [l2]
      unfold F_X12_shift_109 F_X12_refuse F_X12_refuse_0 ck
      rw [nx_eq, hup_n _ _ _ _ 141 17 (by omega), if_pos (by omega), if_neg (by omega), nx_eq, bind_eq]
      refine ev_some ⟨rfl, by omega, RR_mono _ _ ?_⟩
      dsimp only
      generalize eZ : hup (hup g' 141 15 (g' 141 17)) 141 1 9 = gZ
      have nZ : ∀ c k, ¬ (c = 141 ∧ (k = 15 ∨ k = 1)) → gZ c k = g' c k := fun c k z => by rw [← eZ, hup_n _ _ _ _ _ _ (by omega), hup_n _ _ _ _ _ _ (by omega)]
      have Z1v : gZ 141 1 = 9 := by rw [← eZ, hup_s]
      have Z15 : gZ 141 15 = h' 8 9 := by rw [← eZ, hup_n _ _ _ _ _ _ (by omega), hup_s, f3]
      have low : ∀ c k, c < 141 → ¬ (c = 0 ∧ k = 0) → gZ c k = h' c k := fun c k z1 z2 => by rw [nZ _ _ (by omega), l7 _ _ (by omega) (by omega) (by omega) (by omega), nF _ _ z2]
      have gen : ∀ c k, c ≠ 8 → ¬ (27 ≤ c ∧ c ≤ 33) → ¬ (c = 0 ∧ k = 0) → ¬ (c = 141 ∧ (k = 1 ∨ (9 ≤ k ∧ k ≤ 22))) → c ≠ 147 → c ≠ 150 → ¬ (c = 142 ∧ 1760 ≤ k) → gZ c k = h c k := fun c k z1 z2 z3 z4 z5 z6 z7 => by
        rw [nZ _ _ (by omega), l7 _ _ (by omega) z5 z6 z7, nF _ _ z3, k6 _ _ z1 z2]
      have Z00 : gZ 0 0 = 9 := by rw [nZ _ _ (by omega), l7 _ _ (by omega) (by omega) (by omega) (by omega), ← eF, hup_s]
      refine RR_3 (h := h) ?_ ?_ ?_ r
      · intro c k w
        obtain ⟨w1, w2⟩ := w
        unfold Zall Z2 Z3 Zp Zs Z6 Z7 Z8 Z9 Z10 Z11 Z12 at w1
        unfold Z3 at w2
        exact gen c k (by omega) (by omega) (by omega) (by omega) (by omega) (by omega) (by omega)
      · obtain ⟨⟨-, s2, s3⟩, -⟩ := r
        unfold R1
        rw [Z00, Z1v, gen 0 1 (by omega) (by omega) (by omega) (by omega) (by omega) (by omega) (by omega), gen 0 2 (by omega) (by omega) (by omega) (by omega) (by omega) (by omega) (by omega), gen 141 2 (by omega) (by omega) (by omega) (by omega) (by omega) (by omega) (by omega), gen 141 3 (by omega) (by omega) (by omega) (by omega) (by omega) (by omega) (by omega)]
        exact ⟨⟨by omega, by omega, rfl⟩, s2, s3⟩
      · unfold R3
        rw [low 8 1 (by omega) (by omega), low 8 9 (by omega) (by omega), low 8 10 (by omega) (by omega), Z15, nZ 141 9 (by omega), nZ 141 16 (by omega), k4, l5, f6]
        exact ⟨⟨by omega, by omega, rfl⟩, ⟨by omega, rfl⟩, ⟨by omega, rfl⟩, fun k hk => absurd hk (by omega)⟩
    · refine ev_it b0 ?_
      obtain ⟨hC, y1, y2, y3, y4⟩ := script_copy (q := 28) (q' := 49) (h := h') (by omega)
      rw [y1, bind_eq]
      unfold F_X11_answer F_X11_answer_0
      rw [nx_eq, bind_eq]
      refine ev_some ?_
      dsimp only
      generalize eF : hup hC 0 0 0 = hF
      have nF : ∀ c k, ¬ (c = 0 ∧ k = 0) → hF c k = hC c k := fun c k z => by rw [← eF, hup_n _ _ _ _ _ _ z]
      obtain ⟨b', h'', g', l1, l2, l3, ⟨l4, l5⟩, l6, l7⟩ := key hF (fun c k z => by rw [nF _ _ (by omega), y4 _ _ (by omega), k6 _ _ (by omega) (by omega)])
      rw [k1] at l1
      obtain ⟨eb, eh⟩ := Prod.mk.inj (Option.some.inj l1)
      rw [← eb, ← eh] at l3
      rcases l3 with ⟨-, s0, E, m, p⟩ | ⟨z, -⟩
      rotate_left
      · exact absurd z b0
      have bb := p.b
      obtain ⟨⟨p1, p2, p3, p4, p5⟩, -⟩ := id p
      obtain ⟨-, -, ⟨x1, x2⟩, x3, x4⟩ := s0
      generalize eU : hup (hup g' 141 15 (g' 141 17)) 142 5 (g' 142 1765) = gU
      have nU : ∀ c k, ¬ (c = 141 ∧ k = 15) → ¬ (c = 142 ∧ k = 5) → gU c k = g' c k := fun c k z1 z2 => by rw [← eU, hup_n _ _ _ _ _ _ z2, hup_n _ _ _ _ _ _ z1]
      obtain ⟨gV, v1, v2, v3⟩ := cp149 250 20000 190 gU (by omega) (by omega) (by rw [nU _ _ (by omega) (by omega), p2] <;> omega)
      rw [show ((190 : Nat) : Int) = 190 from rfl] at v1
      have ol : F_X12_shift (L : Int) hF = some (gU 141 22, hup gV 141 1 0) := by
        rw [l2]
        unfold F_X12_shift_109 ck
        rw [nx_eq, hup_n _ _ _ _ 141 17 (by omega), x3, if_pos (by omega), if_pos (by omega), nx_eq, hup_n _ _ _ _ 142 1765 (by omega)]
        rw [x3] at eU
        rw [eU, v1]
      rw [ol]
      refine ev_some ⟨?_, ?_, RR_mono _ _ ?_⟩
      · try dsimp only
        rw [nU _ _ (by omega) (by omega), p2, y2, p3]
      · try dsimp only
        rw [y2, p3]
        omega
      dsimp only
      generalize eZ : hup gV 141 1 0 = gZ
      have nZ : ∀ c k, ¬ (c = 141 ∧ k = 1) → gZ c k = gV c k := fun c k z => by rw [← eZ, hup_n _ _ _ _ _ _ z]
      have Z1v : gZ 141 1 = 0 := by rw [← eZ, hup_s]
      have up : ∀ c k, ¬ (c = 141 ∧ (k = 1 ∨ k = 15)) → ¬ (c = 142 ∧ k < 440) → gZ c k = g' c k := fun c k z1 z2 => by rw [nZ _ _ (by omega), v3 _ _ (by omega), nU _ _ (by omega) (by omega)]
      have Z15 : gZ 141 15 = 0 := by rw [nZ _ _ (by omega), v3 _ _ (by omega), ← eU, hup_n _ _ _ _ _ _ (by omega), hup_s, x3]
      have low : ∀ c k, c < 141 → ¬ (c = 0 ∧ k = 0) → gZ c k = hC c k := fun c k z1 z2 => by rw [up _ _ (by omega) (by omega), l7 _ _ (by omega) (by omega) (by omega) (by omega), nF _ _ z2]
      have gen : ∀ c k, c ≠ 8 → ¬ (27 ≤ c ∧ c ≤ 33) → ¬ (49 ≤ c ∧ c ≤ 53) → ¬ (c = 0 ∧ k = 0) → ¬ (c = 141 ∧ (k = 1 ∨ (9 ≤ k ∧ k ≤ 22))) → c ≠ 147 → c ≠ 150 → ¬ (c = 142 ∧ (1760 ≤ k ∨ k = 5 ∨ (190 ≤ k ∧ k < 440))) → gZ c k = h c k := fun c k z1 z2 z3 z4 z5 z6 z7 z8 => by
        rw [nZ _ _ (by omega), v3 _ _ (by omega), nU _ _ (by omega) (by omega), l7 _ _ (by omega) z6 z7 (by omega), nF _ _ z4, y4 _ _ z3, k6 _ _ z1 z2]
      have Z00 : gZ 0 0 = 0 := by rw [up _ _ (by omega) (by omega), l7 _ _ (by omega) (by omega) (by omega) (by omega), ← eF, hup_s]
      refine RR_35 (h := h) ?_ ?_ ?_ ?_ r
      · intro c k w
        obtain ⟨w1, w2, w3⟩ := w
        unfold Zall Z2 Z3 Zp Zs Z6 Z7 Z8 Z9 Z10 Z11 Z12 at w1
        unfold Z3 at w2
        unfold Zs at w3
        exact gen c k (by omega) (by omega) (by omega) (by omega) (by omega) (by omega) (by omega) (by omega)
      · obtain ⟨⟨-, s2, s3⟩, -⟩ := r
        unfold R1
        rw [Z00, Z1v, gen 0 1 (by omega) (by omega) (by omega) (by omega) (by omega) (by omega) (by omega) (by omega), gen 0 2 (by omega) (by omega) (by omega) (by omega) (by omega) (by omega) (by omega) (by omega), gen 141 2 (by omega) (by omega) (by omega) (by omega) (by omega) (by omega) (by omega) (by omega), gen 141 3 (by omega) (by omega) (by omega) (by omega) (by omega) (by omega) (by omega) (by omega)]
        exact ⟨⟨by omega, by omega, rfl⟩, s2, s3⟩
      · unfold R3
        rw [low 8 1 (by omega) (by omega), low 8 9 (by omega) (by omega), low 8 10 (by omega) (by omega), y4 _ _ (by omega), y4 _ _ (by omega), y4 _ _ (by omega), Z15, up 141 9 (by omega) (by omega), up 141 16 (by omega) (by omega), k4, l5, x1, x2, x4]
        exact ⟨⟨by omega, by omega, rfl⟩, ⟨by omega, rfl⟩, ⟨by omega, rfl⟩, fun k hk => absurd hk (by omega)⟩
      · have sr := PI_SR p
        generalize eM : (fun c k => if c = 142 ∧ 1760 ≤ k ∧ k < 1950 ∧ k ≠ 1765 then gZ 142 (k - 1760) else mg h' g' c k : MH) = mm
        have M1 : ∀ c k, ¬ (c = 142 ∧ 1760 ≤ k ∧ k < 1950 ∧ k ≠ 1765) → mm c k = mg h' g' c k := fun c k z => by rw [← eM]; exact if_neg z
        have M2 : ∀ c k, (c = 142 ∧ 1760 ≤ k ∧ k < 1950 ∧ k ≠ 1765) → mm c k = gZ 142 (k - 1760) := fun c k z => by rw [← eM]; exact if_pos z
        have sm : SR 28 1760 mm := SR_f (h := mg h' g') (fun c k z => M1 c k (by unfold Zs at z; omega)) sr
        refine SR_move (q := 28) (b := 1760) (h := mm) ?_ (fun d k d1 d2 hk => ?_) (fun k hk => ?_) sm
        · rw [M1 _ _ (by omega), mg_l (by omega), low _ _ (by omega) (by omega), y2]
        · rw [M1 _ _ (by omega), mg_l (by omega), low _ _ (by omega) (by omega), y3 d k d1 d2 hk]
        · rw [Nat.zero_add]
          by_cases z : 190 ≤ k
          · rw [M1 _ _ (by omega), mg_r (by omega), nZ _ _ (by omega), v2 k z hk, nU _ _ (by omega) (by omega)]
          · by_cases w : k = 5
            · subst w
              rw [show 1760 + 5 = 1765 from rfl, M1 _ _ (by omega), mg_r (by omega), nZ _ _ (by omega), v3 _ _ (by omega), ← eU, hup_s]
            · rw [M2 _ _ (by omega), show 1760 + k - 1760 = k by omega]
  · by_cases q2 : a1 < 0
    · have e1 : F_X11_shift a1 h = some (-1, hup h 0 0 1) := by
        unfold F_X11_shift F_X11_shift_0 F_X11_outside F_X11_outside_0 F_X11_none F_X11_none_0 ck
        rw [if_pos i1, if_pos (by omega), if_pos (by omega), if_pos (by omega), if_pos (by omega), if_pos q2, bind_eq]
        dsimp only
        rw [if_pos (by omega), if_neg (by omega), nx_eq, bind_eq]
      rw [e1]
      refine ev_some ?_
      dsimp only
      have e2 : F_X12_shift a1 (hup h 0 0 1) = some (-1, hup (hup h 0 0 1) 141 1 1) := by
        unfold F_X12_shift F_X12_shift_0 F_X12_shift_19 F_X12_refuse F_X12_refuse_0 ck
        rw [if_pos i1, if_pos q2, nx_eq, bind_eq]
      rw [e2]
      exact ev_some ⟨rfl, by omega, RR_st (by omega) r⟩
    · have e1 : F_X11_shift a1 h = some (-1, hup h 0 0 1) := by
        unfold F_X11_shift F_X11_shift_0 F_X11_outside F_X11_outside_0 F_X11_none F_X11_none_0 ck
        rw [if_pos i1, if_pos (by omega), if_pos (by omega), if_pos (by omega), if_pos (by omega), if_neg q2, if_pos (by omega), if_neg (by omega), bind_eq]
        dsimp only
        rw [if_pos (by omega), if_neg (by omega), nx_eq, bind_eq]
      rw [e1]
      refine ev_some ?_
      dsimp only
      have e2 : F_X12_shift a1 (hup h 0 0 1) = some (-1, hup (hup h 0 0 1) 141 1 1) := by
        unfold F_X12_shift F_X12_shift_0 F_X12_shift_19 F_X12_refuse F_X12_refuse_0 ck
        rw [hup_n _ _ _ _ 141 9 (by omega), c3, if_pos i1, if_neg q2, if_pos (by omega), nx_eq, bind_eq]
        by_cases w : h 8 1 < a1
        · rw [if_pos w]
        · rw [if_neg w, if_neg (by omega)]
      rw [e2]
      exact ev_some ⟨rfl, by omega, RR_st (by omega) r⟩
