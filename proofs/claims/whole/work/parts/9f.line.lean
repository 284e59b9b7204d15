/-! ===== line ===== -/
theorem line_k {L : Nat} {h : MH} (hL : L ≤ 700) (h1 : (L : Int) ≤ h 8 1 ∧ h 8 1 ≤ 700 ∧ h 141 9 = h 8 1) (hb : ∀ k : Nat, (k : Int) < h 8 1 → (-128 ≤ h 9 k ∧ h 9 k ≤ 127) ∧ h 146 k = h 9 k) :
    ∀ g, (∀ c k, 141 ≤ c → g c k = h c k) → ∃ b h' g', F_X3_takesAll (L : Int) h = some (b, h') ∧ F_X12_line (L : Int) g = lEnd g' ∧ ((b = 1 ∧ S0 L h' g' ∧ ∃ M T : Nat, LI M T h' g') ∨ (b = 0 ∧ FT h' g')) ∧ FF h' ∧ (h' 8 1 = 0 ∧ g' 141 9 = 0) ∧ (∀ c k, c ≠ 8 → ¬ (10 ≤ c ∧ c ≤ 26) → h' c k = h c k) ∧ ∀ c k, ¬ (c = 141 ∧ 9 ≤ k ∧ k ≤ 17) → c ≠ 147 → c ≠ 148 → c ≠ 149 → ¬ (c = 142 ∧ 1760 ≤ k) → g' c k = g c k := by
  intro g hg
  obtain ⟨hI, i1, i2, ⟨i3, i4⟩, i5, i6⟩ := clear_l (h := h)
  obtain ⟨h2, g2, a1, a2, a3, ⟨a4, a5⟩, a6, a7⟩ := beg_l (L := L) (h := hI) (g := g) (by omega) (by rw [i6 _ _ (by omega)] <;> omega) (fun k hk => by
    rw [i6 _ _ (by omega), hg _ _ (by omega)]
    exact hb k (by omega))
  obtain ⟨gJ, j1, j2, j3⟩ := l25 190 20000 0 g2 (by omega) (by omega)
  rw [show ((0 : Nat) : Int) = 0 from rfl] at j1
  have sJ : S0 L h2 gJ := a3.f (fun _ _ _ => rfl) (fun c k z => j3 _ _ (by omega))
  obtain ⟨k1, k2, k3, -⟩ := sJ.k
  obtain ⟨m1, m2, m3, m4, m5, m6⟩ := kmp_1 k1
  obtain ⟨gK, l1, l2, l3⟩ := l71 49 20000 0 gJ (by omega) (by omega) (by rw [k2]; exact m1)
  rw [show ((0 : Nat) : Int) = 0 from rfl] at l1
  have sK : S0 L h2 gK := sJ.f (fun _ _ _ => rfl) (fun c k z => l3 _ _ (by omega))
  have z142 : ∀ k, k < 190 → gK 142 (1760 + k) = if 140 ≤ k ∧ k < 189 then 10 else 0 := fun k hk => by rw [l3 _ _ (by omega)]; exact j2 k (by omega) hk
  have pK : LI 0 0 h2 gK := by
    refine ⟨⟨by rw [a6 _ _ (by omega)]; exact i3, ?_, by omega⟩, ⟨by rw [a6 _ _ (by omega)]; exact i4, ?_, by omega⟩, fun m hm => absurd hm (by omega), fun m d z1 z2 z3 => ?_, fun m hm => absurd hm (by omega), fun k hk => absurd hk (by omega), fun k hk => Or.inl ⟨by rw [a6 _ _ (by omega)]; exact i5 k hk, ?_, l2 k (by omega) hk⟩⟩
    · have q := z142 0 (by omega)
      rw [if_neg (by omega)] at q
      exact q
    · have q := z142 1 (by omega)
      rw [if_neg (by omega)] at q
      exact q
    · have q := z142 (8 + 16 * m + d) (by omega)
      rw [if_neg (by omega)] at q
      rw [show 1768 + 16 * m + d = 1760 + (8 + 16 * m + d) by omega, q]
    · have q := z142 (140 + k) (by omega)
      rw [if_pos (by omega)] at q
      rw [show 1900 + k = 1760 + (140 + k) by omega, q]
  obtain ⟨b, h5, g5, c1, c2, c3, c4, c5⟩ := ltur hL 701 20000 20000 0 h2 gK (by omega) (by omega) (by omega) sK ⟨0, 0, pK⟩ (by omega)
  rw [show ((0 : Nat) : Int) = 0 from rfl] at c1
  refine ⟨b, h5, g5, ?_, ?_, c3, FF_f i2 (fun c k z => by rw [c4 _ _ (by omega) (by omega) (by omega) (by omega) (by omega) (by omega), a6 _ _ (by omega)]), ⟨by rw [c4 _ _ (by omega) (by omega) (by omega) (by omega) (by omega) (by omega)]; exact a4, by rw [c5 _ _ (by omega) (by omega) (by omega) (by omega), l3 _ _ (by omega), j3 _ _ (by omega)]; exact a5⟩, fun c k z1 z2 => by rw [c4 _ _ (by omega) (by omega) (by omega) (by omega) (by omega) (by omega), a6 _ _ z1, i6 _ _ (by omega)], fun c k z1 z2 z3 z4 z5 => by rw [c5 _ _ (by omega) z5 z3 z4, l3 _ _ (by omega), j3 _ _ (by omega), a7 _ _ (by omega) z2]⟩
  · unfold F_X3_takesAll F_X3_takesAll_0
    rw [i1, bind_eq, a1, bind_eq, c1]
  · have g9 : g 141 9 = h 8 1 := by rw [hg _ _ (by omega)]; exact h1.2.2
    unfold F_X12_line F_X12_line_0 ck
    rw [if_pos (by omega), if_neg (by omega), g9, if_pos (by omega), if_pos (by omega), a2, bind_eq, j1, l1, k2, ← c2]
    by_cases w : h2 8 4 = 0
    · rw [if_pos (m6.mpr w), if_pos w]
    · rw [if_neg (fun v => w (m6.mp v)), if_neg w]
theorem o_line : Ob_line RR := by
  intro n h a1 hn r i1
  refine ob_ev ?_
  obtain ⟨⟨c1, c2, c3⟩, c4, c5, c6⟩ := r.2.2.1
  by_cases q : 0 ≤ a1 ∧ a1 ≤ h 8 1
  · obtain ⟨L, rfl⟩ : ∃ L : Nat, a1 = (L : Int) := ⟨a1.toNat, by omega⟩
    have key := line_k (L := L) (h := h) (by omega) ⟨by omega, c2, c3⟩ c6
    obtain ⟨b, h', g0, k1, -, k3, kff, ⟨k4, -⟩, k6, -⟩ := key h (fun _ _ _ => rfl)
    have hb : b = 0 ∨ b = 1 := by rcases k3 with ⟨z, _⟩ | ⟨z, _⟩ <;> omega
    unfold F_X11_line F_X11_line_0 F_X11_outside F_X11_outside_0
    refine ev_ck i1 (ev_ck (by omega) ?_)
    refine ev_bind ?_
    refine ev_ck (by omega) (ev_ck (by omega) (ev_ie (by omega) (ev_ck (by omega) (ev_it (by omega) (ev_some ?_)))))
    dsimp only
    refine ev_ck (by omega) (ev_it rfl ?_)
    refine ev_bind ?_
    rw [k1]
    refine ev_some ?_
    dsimp only
    refine ev_ck (by omega) ?_
    by_cases b0 : b = 0
    · refine ev_ie (fun z => z b0) ?_
      unfold F_X11_none F_X11_none_0
      rw [nx_eq, bind_eq]
      refine ev_some ?_
      dsimp only
      generalize eF : hup h' 0 0 9 = hF
      have nF : ∀ c k, ¬ (c = 0 ∧ k = 0) → hF c k = h' c k := fun c k z => by rw [← eF, hup_n _ _ _ _ _ _ z]
      obtain ⟨b', h'', g', l1, l2, l3, -, ⟨l4, l5⟩, l6, l7⟩ := key hF (fun c k z => by rw [nF _ _ (by omega), k6 _ _ (by omega) (by omega)])
      rw [k1] at l1
      obtain ⟨eb, eh⟩ := Prod.mk.inj (Option.some.inj l1)
      rw [← eb, ← eh] at l3
      rcases l3 with ⟨z, -⟩ | ⟨-, ft⟩
      · omega
      obtain ⟨⟨f1, f2, f3⟩, f4, f5, f6⟩ := ft
      rw [l2]
      unfold lEnd F_X12_refuse F_X12_refuse_0 ck
      rw [nx_eq, hup_n _ _ _ _ 141 17 (by omega), if_pos (by omega), if_neg (by omega), nx_eq, bind_eq]
      refine ev_some ⟨rfl, by omega, RR_mono _ _ ?_⟩
      dsimp only
      generalize eZ : hup (hup g' 141 15 (g' 141 17)) 141 1 9 = gZ
      have nZ : ∀ c k, ¬ (c = 141 ∧ (k = 15 ∨ k = 1)) → gZ c k = g' c k := fun c k z => by rw [← eZ, hup_n _ _ _ _ _ _ (by omega), hup_n _ _ _ _ _ _ (by omega)]
      have Z1v : gZ 141 1 = 9 := by rw [← eZ, hup_s]
      have Z15 : gZ 141 15 = h' 8 9 := by rw [← eZ, hup_n _ _ _ _ _ _ (by omega), hup_s, f3]
      have low : ∀ c k, c < 141 → ¬ (c = 0 ∧ k = 0) → gZ c k = h' c k := fun c k z1 z2 => by rw [nZ _ _ (by omega), l7 _ _ (by omega) (by omega) (by omega) (by omega) (by omega), nF _ _ z2]
      have gen : ∀ c k, c ≠ 8 → ¬ (10 ≤ c ∧ c ≤ 26) → ¬ (c = 0 ∧ k = 0) → ¬ (c = 141 ∧ (k = 1 ∨ (9 ≤ k ∧ k ≤ 17))) → ¬ (147 ≤ c ∧ c ≤ 149) → ¬ (c = 142 ∧ 1760 ≤ k) → gZ c k = h c k := fun c k z1 z2 z3 z4 z5 z6 => by
        rw [nZ _ _ (by omega), l7 _ _ (by omega) (by omega) (by omega) (by omega) z6, nF _ _ z3, k6 _ _ z1 z2]
      have Z00 : gZ 0 0 = 9 := by rw [nZ _ _ (by omega), l7 _ _ (by omega) (by omega) (by omega) (by omega) (by omega), ← eF, hup_s]
      refine RR_3 (h := h) ?_ ?_ ?_ r
      · intro c k w
        obtain ⟨w1, w2⟩ := w
        unfold Zall Z2 Z3 Zp Zs Z6 Z7 Z8 Z9 Z10 Z11 Z12 at w1
        unfold Z3 at w2
        exact gen c k (by omega) (by omega) (by omega) (by omega) (by omega) (by omega)
      · obtain ⟨⟨-, s2, s3⟩, -⟩ := r
        unfold R1
        rw [Z00, Z1v, gen 0 1 (by omega) (by omega) (by omega) (by omega) (by omega) (by omega), gen 0 2 (by omega) (by omega) (by omega) (by omega) (by omega) (by omega), gen 141 2 (by omega) (by omega) (by omega) (by omega) (by omega) (by omega), gen 141 3 (by omega) (by omega) (by omega) (by omega) (by omega) (by omega)]
        exact ⟨⟨by omega, by omega, rfl⟩, s2, s3⟩
      · unfold R3
        rw [low 8 1 (by omega) (by omega), low 8 9 (by omega) (by omega), low 8 10 (by omega) (by omega), Z15, nZ 141 9 (by omega), nZ 141 16 (by omega), k4, l5, f6]
        exact ⟨⟨by omega, by omega, rfl⟩, ⟨by omega, rfl⟩, ⟨by omega, rfl⟩, fun k hk => absurd hk (by omega)⟩
    · refine ev_it b0 ?_
      obtain ⟨hC, y1, y2, y3⟩ := plan_copy (p := 11) (p' := 34) (h := h') (by omega)
      rw [y1, bind_eq]
      unfold F_X11_answer F_X11_answer_0
      rw [nx_eq, bind_eq]
      refine ev_some ?_
      dsimp only
      generalize eF : hup hC 0 0 0 = hF
      have nF : ∀ c k, ¬ (c = 0 ∧ k = 0) → hF c k = hC c k := fun c k z => by rw [← eF, hup_n _ _ _ _ _ _ z]
      obtain ⟨b', h'', g', l1, l2, l3, -, ⟨l4, l5⟩, l6, l7⟩ := key hF (fun c k z => by rw [nF _ _ (by omega), y3 _ _ (by omega), k6 _ _ (by omega) (by omega)])
      rw [k1] at l1
      obtain ⟨eb, eh⟩ := Prod.mk.inj (Option.some.inj l1)
      rw [← eb, ← eh] at l3
      rcases l3 with ⟨-, s0, M, T, p⟩ | ⟨z, -⟩
      rotate_left
      · exact absurd z b0
      obtain ⟨⟨p1, p2, p3⟩, ⟨q1, q2, q3⟩, -⟩ := id p
      obtain ⟨-, -, ⟨x1, x2⟩, x3, x4⟩ := s0
      have fe := fresh_eq (B := 1760) (x := 0) (g := hup g' 141 15 0) (by omega) (by omega)
      rw [show ((1760 : Nat) : Int) = 1760 from rfl] at fe
      generalize eP : hfr (mI 1760 6 0 (hup (hup (hup (hup g' 141 15 0) 142 (1760 + 2) 0) 142 (1760 + 3) 0) 142 (1760 + 4) 0)) 142 (1760 + 104) 36 0 = gP at fe
      have nP : ∀ c k, ¬ (c = 141 ∧ k = 15) → (c ≠ 142 ∨ k < 1762 ∨ 1900 ≤ k ∨ ∃ m' e, k = 1760 + 8 + 16 * m' + e ∧ m' < 6 ∧ e < 16 ∧ ¬ mW e) → gP c k = g' c k := fun c k z1 z2 => by
        have z3 : ¬ (c = 142 ∧ 1760 + 104 ≤ k ∧ k < 1760 + 104 + 36) := by
          rcases z2 with z | z | z | ⟨m', e, z, za, zb, zc⟩ <;> omega
        have z4 : c ≠ 142 ∨ k < 1760 + 8 + 16 * 0 ∨ 1760 + 8 + 16 * (0 + 6) ≤ k ∨ ∃ m' e, k = 1760 + 8 + 16 * m' + e ∧ e < 16 ∧ ¬ mW e := by
          rcases z2 with z | z | z | ⟨m', e, z, za, zb, zc⟩
          · exact Or.inl z
          · exact Or.inr (Or.inl (by omega))
          · exact Or.inr (Or.inr (Or.inl (by omega)))
          · exact Or.inr (Or.inr (Or.inr ⟨m', e, z, zb, zc⟩))
        have z5 : ¬ (c = 142 ∧ (k = 1762 ∨ k = 1763 ∨ k = 1764)) := by
          rcases z2 with z | z | z | ⟨m', e, z, za, zb, zc⟩ <;> omega
        rw [← eP, hfr_n _ _ _ _ _ _ _ z3, mI_n _ _ _ _ _ z4, hup_n _ _ _ _ _ _ (by omega), hup_n _ _ _ _ _ _ (by omega), hup_n _ _ _ _ _ _ (by omega), hup_n _ _ _ _ _ _ z1]
      have P15 : gP 141 15 = 0 := by
        rw [← eP, hfr_n _ _ _ _ _ _ _ (by omega), mI_n _ _ _ _ _ (Or.inl (by omega)), hup_n _ _ _ _ _ _ (by omega), hup_n _ _ _ _ _ _ (by omega), hup_n _ _ _ _ _ _ (by omega), hup_s]
      have P2 : gP 142 1762 = 0 := by
        rw [← eP, hfr_n _ _ _ _ _ _ _ (by omega), mI_n _ _ _ _ _ (Or.inr (Or.inl (by omega))), hup_n _ _ _ _ _ _ (by omega), hup_n _ _ _ _ _ _ (by omega), hup_s]
      have P3 : gP 142 1763 = 0 := by
        rw [← eP, hfr_n _ _ _ _ _ _ _ (by omega), mI_n _ _ _ _ _ (Or.inr (Or.inl (by omega))), hup_n _ _ _ _ _ _ (by omega), hup_s]
      have P4 : gP 142 1764 = 0 := by
        rw [← eP, hfr_n _ _ _ _ _ _ _ (by omega), mI_n _ _ _ _ _ (Or.inr (Or.inl (by omega))), hup_s]
      have PW : ∀ m e, m < 6 → e < 16 → mW e → gP 142 (1760 + 8 + 16 * m + e) = if e = 5 then -1 else 0 := fun m e hm he hw => by
        rw [← eP, hfr_n _ _ _ _ _ _ _ (by omega), mI_y 6 0 _ m e (by omega) (by omega) hw]
      have PB : ∀ k, k < 36 → gP 142 (1760 + 104 + k) = 0 := fun k hk => by
        rw [← eP, hfr_y _ _ _ _ _ _ _ (by omega)]
      generalize eU : hup gP 142 1765 (gP 142 5) = gU
      have nU : ∀ c k, ¬ (c = 142 ∧ k = 1765) → gU c k = gP c k := fun c k z => by rw [← eU, hup_n _ _ _ _ _ _ z]
      have U5 : gU 142 1765 = h 142 5 := by
        rw [← eU, hup_s, nP _ _ (by omega) (Or.inr (Or.inl (by omega))), l7 _ _ (by omega) (by omega) (by omega) (by omega) (by omega), nF _ _ (by omega), y3 _ _ (by omega), k6 _ _ (by omega) (by omega)]
      obtain ⟨gV, v1, v2, v3⟩ := cp176 190 20000 0 gU (by omega) (by omega)
      rw [show ((0 : Nat) : Int) = 0 from rfl] at v1
      have ol : F_X12_line (L : Int) hF = some (gV 142 0, hup gV 141 1 0) := by
        rw [l2]
        unfold lEnd ck
        rw [nx_eq, hup_n _ _ _ _ 141 17 (by omega), x3, if_pos (by omega), if_pos (by omega), fe, bind_eq, nx_eq, eU, v1]
      have V0 : gV 142 0 = (M : Int) := by
        have z := v2 0 (by omega) (by omega)
        rw [z, nU _ _ (by omega), nP _ _ (by omega) (Or.inr (Or.inl (by omega)))]
        exact p2
      have C0 : hC 35 0 = (M : Int) := by
        have z := y2 1 0 (by unfold plim; omega)
        rw [show 34 + 1 = 35 from rfl, show 11 + 1 = 12 from rfl] at z
        rw [z]; exact p1
      rw [ol]
      refine ev_some ⟨?_, ?_, RR_mono _ _ ?_⟩
      · try dsimp only
        rw [V0, C0]
      · try dsimp only
        rw [C0]
        omega
      dsimp only
      generalize eZ : hup gV 141 1 0 = gZ
      have nZ : ∀ c k, ¬ (c = 141 ∧ k = 1) → gZ c k = gV c k := fun c k z => by rw [← eZ, hup_n _ _ _ _ _ _ z]
      have Z1v : gZ 141 1 = 0 := by rw [← eZ, hup_s]
      have up : ∀ c k, c ≠ 142 → ¬ (c = 141 ∧ (k = 1 ∨ k = 15)) → gZ c k = g' c k := fun c k z1 z2 => by rw [nZ _ _ (by omega), v3 _ _ (by omega), nU _ _ (by omega), nP _ _ (by omega) (Or.inl z1)]
      have Z15 : gZ 141 15 = 0 := by rw [nZ _ _ (by omega), v3 _ _ (by omega), nU _ _ (by omega), P15]
      have low : ∀ c k, c < 141 → ¬ (c = 0 ∧ k = 0) → gZ c k = hC c k := fun c k z1 z2 => by rw [up _ _ (by omega) (by omega), l7 _ _ (by omega) (by omega) (by omega) (by omega) (by omega), nF _ _ z2]
      have gen : ∀ c k, c ≠ 8 → ¬ (10 ≤ c ∧ c ≤ 26) → ¬ (34 ≤ c ∧ c ≤ 48) → ¬ (c = 0 ∧ k = 0) → ¬ (c = 141 ∧ (k = 1 ∨ (9 ≤ k ∧ k ≤ 17))) → ¬ (147 ≤ c ∧ c ≤ 149) → c ≠ 142 → gZ c k = h c k := fun c k z1 z2 z3 z4 z5 z6 z7 => by
        rw [up _ _ z7 (by omega), l7 _ _ (by omega) (by omega) (by omega) (by omega) (by omega), nF _ _ z4, y3 _ _ z3, k6 _ _ z1 z2]
      have g142 : ∀ k, k = 5 ∨ (190 ≤ k ∧ k < 1760) → gZ 142 k = h 142 k := fun k hk => by
        by_cases z : k = 5
        · subst z
          have z := v2 5 (by omega) (by omega)
          rw [nZ _ _ (by omega), z]
          exact U5
        · rw [nZ _ _ (by omega), v3 _ _ (by omega), nU _ _ (by omega), nP _ _ (by omega) (Or.inr (Or.inl (by omega))), l7 _ _ (by omega) (by omega) (by omega) (by omega) (by omega), nF _ _ (by omega), y3 _ _ (by omega), k6 _ _ (by omega) (by omega)]
      have Z00 : gZ 0 0 = 0 := by rw [up _ _ (by omega) (by omega), l7 _ _ (by omega) (by omega) (by omega) (by omega) (by omega), ← eF, hup_s]
      refine RR_34 (h := h) ?_ ?_ ?_ ?_ r
      · intro c k w
        obtain ⟨w1, w2, w3⟩ := w
        unfold Zall Z2 Z3 Zp Zs Z6 Z7 Z8 Z9 Z10 Z11 Z12 at w1
        unfold Z3 at w2
        unfold Zp at w3
        by_cases e : c = 142
        · subst e; exact g142 k (by omega)
        · exact gen c k (by omega) (by omega) (by omega) (by omega) (by omega) (by omega) e
      · obtain ⟨⟨-, s2, s3⟩, -⟩ := r
        unfold R1
        rw [Z00, Z1v, gen 0 1 (by omega) (by omega) (by omega) (by omega) (by omega) (by omega) (by omega), gen 0 2 (by omega) (by omega) (by omega) (by omega) (by omega) (by omega) (by omega), gen 141 2 (by omega) (by omega) (by omega) (by omega) (by omega) (by omega) (by omega), gen 141 3 (by omega) (by omega) (by omega) (by omega) (by omega) (by omega) (by omega)]
        exact ⟨⟨by omega, by omega, rfl⟩, s2, s3⟩
      · unfold R3
        rw [low 8 1 (by omega) (by omega), low 8 9 (by omega) (by omega), low 8 10 (by omega) (by omega), y3 _ _ (by omega), y3 _ _ (by omega), y3 _ _ (by omega), Z15, up 141 9 (by omega) (by omega), up 141 16 (by omega) (by omega), k4, l5, x1, x2, x4]
        exact ⟨⟨by omega, by omega, rfl⟩, ⟨by omega, rfl⟩, ⟨by omega, rfl⟩, fun k hk => absurd hk (by omega)⟩
      · have pr : PR 11 1760 n (mg h' gU) := by
          refine LI_PR p kff ?_ ?_ ?_ ?_ ?_ (fun m e hm he hw => ?_) (fun m e hm he hw => ?_) (fun k hk => ?_) (fun k hk => ?_)
          · rw [nU _ _ (by omega), nP _ _ (by omega) (Or.inr (Or.inl (by omega)))]
          · rw [nU _ _ (by omega), nP _ _ (by omega) (Or.inr (Or.inl (by omega)))]
          · rw [nU _ _ (by omega), P2]
          · rw [nU _ _ (by omega), P3]
          · rw [nU _ _ (by omega), P4]
          · rw [nU _ _ (by omega), nP _ _ (by omega) (Or.inr (Or.inr (Or.inr ⟨m, e, rfl, hm, he, hw⟩))), show 1760 + 8 + 16 * m + e = 1768 + 16 * m + e by omega]
          · rw [nU _ _ (by omega), PW m e hm he hw]
          · rw [nU _ _ (by omega), PB k hk]
          · rw [nU _ _ (by omega), nP _ _ (by omega) (Or.inr (Or.inr (Or.inl (by omega)))), show 1760 + 140 + k = 1900 + k by omega]
        refine PR_move (p := 11) (b := 1760) (h := mg h' gU) (fun d k hl => ?_) (fun k hk h5 => ?_) pr
        · have hd : d ≤ 14 := by unfold plim at hl; omega
          rw [low _ _ (by omega) (by omega), mg_l (by omega), y2 d k hl]
        · rw [mg_r (by omega), Nat.zero_add, nZ _ _ (by omega), v2 k (by omega) hk]
  · have e1 : F_X11_line a1 h = some (-1, hup h 0 0 1) := by
      unfold F_X11_line F_X11_line_0 F_X11_outside F_X11_outside_0 F_X11_none F_X11_none_0 ck
      rw [if_pos i1, if_pos (by omega), if_pos (by omega), if_pos (by omega)]
      by_cases q2 : a1 < 0
      · rw [if_pos q2, bind_eq]
        dsimp only
        rw [if_pos (by omega), if_neg (by omega), nx_eq, bind_eq]
      · rw [if_neg q2, if_pos (by omega), if_neg (by omega), bind_eq]
        dsimp only
        rw [if_pos (by omega), if_neg (by omega), nx_eq, bind_eq]
    rw [e1]
    refine ev_some ?_
    dsimp only
    have e2 : F_X12_line a1 (hup h 0 0 1) = some (-1, hup (hup h 0 0 1) 141 1 1) := by
      unfold F_X12_line F_X12_line_0 F_X12_line_12 F_X12_refuse F_X12_refuse_0 ck
      rw [hup_n _ _ _ _ 141 9 (by omega), c3, if_pos i1, nx_eq, bind_eq]
      by_cases q2 : a1 < 0
      · rw [if_pos q2]
      · rw [if_neg q2, if_pos (by omega), if_neg (by omega)]
    rw [e2]
    exact ev_some ⟨rfl, by omega, RR_st (by omega) r⟩
