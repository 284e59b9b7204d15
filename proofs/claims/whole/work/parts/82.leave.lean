theorem lv_l {E : Nat} {h0 : MH} (s : SX E h0) (hE : h0 142 5 = (E : Int)) : ∀ (d fu x D : Nat) (os ls : Nat → Nat) (hc : MH), x + d = E → d < fu → D ≤ 3 → WC E h0 x D os ls hc →
    ∃ (x' D' : Nat) (os' ls' : Nat → Nat) (hc' : MH), F_X0_leaveBlocks_0 fu 49 hc = some hc' ∧ WC E h0 x' D' os' ls' hc' ∧ opnS 0 h0 x' = (D' : Int) ∧ (x' = E ∨ kd h0 x' ≠ 6) ∧ K70 hc hc' ∧ ∀ (fu' : Nat) (g : MH), 10 * d + 10 < fu' → WG h0 x D os hc g → ∃ g', F_X12_behindEnds_2 fu' (x : Int) g = some ((x' : Int), g') ∧ WG h0 x' D' os' hc' g' ∧ K153 g g' := by
  have s' := s
  obtain ⟨a1, a2, a3, a4, a5, a6, a7, a8⟩ := s
  have ctl : ∀ e, e ≤ E → cntS 0 h0 e ≤ 30 := fun e he => by
    have := cntS_le (b := 0) (h := h0) e E he; omega
  intro d
  induction d with
  | zero =>
    intro fu x D os ls hc e hf hD3 c
    obtain ⟨fu, rfl⟩ : ∃ g, fu = g + 1 := ⟨fu - 1, by omega⟩
    have c' := c
    obtain ⟨c1, c2, c3, c4, c5, c6⟩ := c
    have ex : x = E := by omega
    subst ex
    have D0 : D = 0 := by
      rcases c6 with q | ⟨_, q, _⟩
      · omega
      · omega
    subst D0
    refine ⟨x, 0, os, ls, hc, ?_, c', by omega, Or.inl rfl, fun _ _ _ _ _ => rfl, fun fu' g hf' w => ⟨g, ?_, w, fun _ _ _ => rfl⟩⟩
    · rw [F_X0_leaveBlocks_0]
      unfold ck
      rw [c3, if_pos (by omega), if_pos (by omega)]
    · obtain ⟨fu', rfl⟩ : ∃ g, fu' = g + 1 := ⟨fu' - 1, by omega⟩
      exact (be_s (f := fu') s' hE (by omega) w.1 w.2.1).1 (Or.inl rfl)
  | succ d ih =>
    intro fu x D os ls hc e hf hD3 c
    obtain ⟨fu, rfl⟩ : ∃ g, fu = g + 1 := ⟨fu - 1, by omega⟩
    have c' := c
    obtain ⟨c1, c2, c3, c4, c5, c6⟩ := c
    have ctx := ctl x c1
    -- the class looks at its top block
    have cl : 1 ≤ D → F_X0_leaveBlocks_0 (fu + 1) 49 hc = (if cntS 0 h0 x < cntS 0 h0 (ls (D - 1)) then some hc else if hc 72 (D - 1) - 1 ≤ 0 then F_X0_leaveBlocks_0 fu 49 (hup (hup hc 72 (D - 1) (hc 72 (D - 1) - 1)) 70 6 ((D : Int) - 1)) else some (hup (hup hc 72 (D - 1) (hc 72 (D - 1) - 1)) 70 5 ((cntS 0 h0 (os (D - 1)) : Int) + 1))) := fun hD => by
      obtain ⟨t1, t2, t3, t4, t5, t6, t7, t8, t9, t10⟩ := c5 (D - 1) (by omega)
      have l1 := ctl (os (D - 1)) (by omega)
      have l2 := ctl (ls (D - 1)) (by omega)
      obtain ⟨l, u1, u2, u3, u4, u5, u6⟩ := a6 (os (D - 1)) (by omega) t4
      have el : l = ls (D - 1) := by omega
      subst el
      have e53 : hc 53 (cntS 0 h0 (os (D - 1))) = (cntS 0 h0 (ls (D - 1)) : Int) := by rw [c4 _ (by omega)]; exact u6
      have n6 : hup hc 72 (D - 1) (hc 72 (D - 1) - 1) 70 6 = (D : Int) := by rw [hup_n _ _ _ _ _ _ (by omega)]; exact c3
      have n71 : hup hc 72 (D - 1) (hc 72 (D - 1) - 1) 71 (D - 1) = (cntS 0 h0 (os (D - 1)) : Int) := by rw [hup_n _ _ _ _ _ _ (by omega)]; exact t8
      rw [F_X0_leaveBlocks_0]
      unfold ck
      rw [c3, if_pos (by omega), if_neg (by omega), if_pos (by omega), show ((D : Int) - 1).toNat = D - 1 by omega, t8, if_pos (by omega), c2, if_pos (by omega), show ((cntS 0 h0 (os (D - 1)) : Int)).toNat = cntS 0 h0 (os (D - 1)) by omega, show 49 + 4 = 53 from rfl, e53, if_pos (by omega)]
      by_cases q : cntS 0 h0 x < cntS 0 h0 (ls (D - 1))
      · rw [if_pos (by omega), if_pos q]
      · rw [if_neg (by omega), if_neg q, nx_eq, n6, if_pos (by omega), show ((D : Int) - 1).toNat = D - 1 by omega, hup_s, if_pos (by omega)]
        by_cases q2 : hc 72 (D - 1) - 1 ≤ 0
        · rw [if_pos q2, if_pos q2, nx_eq]
        · rw [if_neg q2, if_neg q2, nx_eq, n71]
    by_cases k6 : kd h0 x = 6
    rotate_left
    · -- no end here
      have oD : opnS 0 h0 x = (D : Int) := by
        rcases c6 with q | ⟨_, _, q, _⟩
        · exact q
        · exact absurd q k6
      refine ⟨x, D, os, ls, hc, ?_, c', oD, Or.inr k6, fun _ _ _ _ _ => rfl, fun fu' g hf' w => ⟨g, ?_, w, fun _ _ _ => rfl⟩⟩
      · rcases Nat.eq_zero_or_pos D with q | q
        · rw [F_X0_leaveBlocks_0]
          unfold ck
          rw [c3, if_pos (by omega), if_pos (by omega)]
        · obtain ⟨t1, t2, t3, t4, t5, t6, t7, t8, t9, t10⟩ := c5 (D - 1) (by omega)
          obtain ⟨l, u1, u2, u3, u4, u5, u6⟩ := a6 (os (D - 1)) (by omega) t4
          have el : l = ls (D - 1) := by omega
          have xl : x < ls (D - 1) := by
            rcases Nat.lt_or_ge x (ls (D - 1)) with z | z
            · exact z
            · have : x = l := by omega
              rw [this] at k6; exact absurd u4 k6
          have lt := cntS_lt (b := 0) (h := h0) (e := x) xl (by rw [Nat.zero_add]; exact k6)
          rw [cl q, if_pos lt]
      · obtain ⟨fu', rfl⟩ : ∃ g, fu' = g + 1 := ⟨fu' - 1, by omega⟩
        exact (be_s (f := fu') s' hE (by omega) w.1 w.2.1).1 (Or.inr k6)
    -- an end
    have xE : x < E := by omega
    obtain ⟨o, o1, o2, o3, o4⟩ := a7 x xE k6
    obtain ⟨p1, p2⟩ := a8 o x (by omega) o4 o3
    have ops := opn_s (h0 := h0) x
    rw [if_pos k6] at ops
    have cts := cnt_s (h0 := h0) x
    rw [if_pos k6, Nat.add_zero] at cts
    have opo := a4 o (by omega)
    -- blocks below stay open behind this end
    have below : ∀ i, i < D → (i : Int) ≠ opnS 0 h0 o → os i < x + 1 ∧ x + 1 ≤ ls i := fun i hi hne => by
      obtain ⟨t1, t2, t3, t4, t5, t6, t7, t8, t9, t10⟩ := c5 i hi
      refine ⟨by omega, ?_⟩
      rcases Nat.lt_or_ge x (ls i) with z | z
      · exact z
      · obtain ⟨l, u1, u2, u3, u4, u5, u6⟩ := a6 (os i) (by omega) t4
        have el : l = x := by omega
        rw [el] at u5
        have : os i = o := by omega
        rw [this] at t6
        exact absurd t6.symm hne
    by_cases hA : opnS 0 h0 x = (D : Int)
    rotate_left
    · -- an empty block that the class has passed by
      have hB : opnS 0 h0 x = (D : Int) + 1 ∧ x < E ∧ kd h0 x = 6 ∧ ∃ o : Nat, lk h0 x = (o : Int) ∧ x = o + 1 := by
        rcases c6 with q | q
        · exact absurd q hA
        · exact q
      obtain ⟨b1, -, -, o', b2, b3⟩ := hB
      have eo : o = o' := by omega
      subst eo
      have W' : WC E h0 (x + 1) D os ls hc := by
        refine ⟨by omega, by rw [cts]; exact c2, c3, c4, fun i hi => ?_, Or.inl (by omega)⟩
        obtain ⟨t1, t2, t3, t4⟩ := c5 i hi
        obtain ⟨v1, v2⟩ := below i hi (by omega)
        exact ⟨v1, v2, t3, t4⟩
      obtain ⟨x', D', os', ls', hc', g1, g2, g3, g4, g5, g6⟩ := ih (fu + 1) (x + 1) D os ls hc (by omega) (by omega) hD3 W'
      refine ⟨x', D', os', ls', hc', g1, g2, g3, g4, g5, fun fu' g hf' w => ?_⟩
      obtain ⟨w1, w2, w3, w4⟩ := w
      rcases o3 with k | k
      · have gb := w4 b1 o b2 k
        obtain ⟨cc, ec⟩ : ∃ cc : Nat, g 153 o = (cc : Int) := ⟨(g 153 o).toNat, by omega⟩
        obtain ⟨f2, ef⟩ : ∃ f2, fu' = f2 + 1 + cc := ⟨fu' - 1 - cc, by omega⟩
        subst ef
        have z := be_empty (E := E) (x := x) (o := o) s' hE xE k6 o1 k b3 cc f2 g w1 w2 ec (by omega)
        obtain ⟨g', v1, v2, v3⟩ := g6 f2 (hup g 153 o 0) (by omega) ⟨fun k a b => by rw [hup_n _ _ _ _ _ _ (by omega)]; exact w1 k a b, by rw [hup_n _ _ _ _ _ _ (by omega)]; exact w2, fun i hi hk => by
          have t6 := (c5 i hi).2.2.2.2.2.1
          have ne : os i ≠ o := fun z => by rw [z] at t6; omega
          rw [hup_n _ _ _ _ _ _ (by omega)]; exact w3 i hi hk, fun q => absurd q (by omega)⟩
        exact ⟨g', by rw [z]; exact v1, v2, fun c k q => by rw [v3 c k q, hup_n _ _ _ _ _ _ (by omega)]⟩
      · obtain ⟨fu', rfl⟩ : ∃ g, fu' = g + 1 := ⟨fu' - 1, by omega⟩
        have z := ((be_s (f := fu') s' hE (by omega) w1 w2).2 xE k6 o o1).1 k
        obtain ⟨g', v1, v2, v3⟩ := g6 fu' g (by omega) ⟨w1, w2, w3, fun q => absurd q (by omega)⟩
        exact ⟨g', by rw [z]; exact v1, v2, v3⟩
    -- the top block ends here
    have hD : 1 ≤ D := by omega
    obtain ⟨t1, t2, t3, t4, t5, t6, t7, t8, t9, t10⟩ := c5 (D - 1) (by omega)
    have eo : os (D - 1) = o := by
      have u1 := top_eq (l' := ls (D - 1)) s' xE o3 o4 o2 t4 t5 t1 t2 (by omega) t3
      have u2 := top_ge (o := o) (l' := ls (D - 1)) s' o2 t4 t5 (by omega) t2 (by omega)
      omega
    have el : ls (D - 1) = x := by rw [eo] at t5; omega
    have cl' := cl hD
    rw [el, if_neg (by omega), eo] at cl'
    rw [eo] at t4 t5 t6 t7 t8 t10
    have lower : ∀ i, i < D - 1 → os i < o := fun i hi => by
      obtain ⟨i1, i2, i3, i4, i5, i6, i7, i8, i9, i10⟩ := c5 i (by omega)
      have u1 := top_eq (l' := ls i) s' xE o3 o4 o2 i4 i5 i1 i2 (by omega) i3
      have ne : os i ≠ o := fun z => by rw [z] at i6; omega
      omega
    by_cases q : hc 72 (D - 1) - 1 ≤ 0
    · -- its rounds are done
      rw [if_pos q] at cl'
      generalize hh : hup (hup hc 72 (D - 1) (hc 72 (D - 1) - 1)) 70 6 ((D : Int) - 1) = h1 at cl'
      have n0 : ∀ c k, ¬ (c = 72 ∧ k = D - 1) → ¬ (c = 70 ∧ k = 6) → h1 c k = hc c k := fun c k z1 z2 => by rw [← hh, hup_n _ _ _ _ _ _ z2, hup_n _ _ _ _ _ _ z1]
      have W' : WC E h0 (x + 1) (D - 1) os ls h1 := by
        refine ⟨by omega, by rw [cts, n0 _ _ (by omega) (by omega)]; exact c2, by rw [← hh, hup_s]; omega, fun i hi => by rw [n0 _ _ (by omega) (by omega)]; exact c4 i hi, fun i hi => ?_, Or.inl (by omega)⟩
        obtain ⟨i1, i2, i3, i4, i5, i6, i7, i8, i9, i10⟩ := c5 i (by omega)
        obtain ⟨v1, v2⟩ := below i (by omega) (by omega)
        rw [n0 71 i (by omega) (by omega), n0 72 i (by omega) (by omega)]
        exact ⟨v1, v2, i3, i4, i5, i6, i7, i8, i9, i10⟩
      obtain ⟨x', D', os', ls', hc', g1, g2, g3, g4, g5, g6⟩ := ih fu (x + 1) (D - 1) os ls h1 (by omega) (by omega) (by omega) W'
      refine ⟨x', D', os', ls', hc', by rw [cl']; exact g1, g2, g3, g4, fun c k z1 z2 z3 => by rw [g5 c k z1 z2 z3, n0 c k (by omega) (by omega)], fun fu' g hf' w => ?_⟩
      obtain ⟨w1, w2, w3, w4⟩ := w
      obtain ⟨fu', rfl⟩ : ∃ g, fu' = g + 1 := ⟨fu' - 1, by omega⟩
      have z : F_X12_behindEnds_2 (fu' + 1) (x : Int) g = F_X12_behindEnds_2 fu' ((x + 1 : Nat) : Int) g := by
        have bs := (be_s (f := fu') s' hE (by omega) w1 w2).2 xE k6 o o1
        rcases o3 with k | k
        · have g3 := w3 (D - 1) (by omega) (by rw [eo]; exact k)
          rw [eo] at g3
          exact (bs.2 k (by omega)).1 (by omega)
        · exact bs.1 k
      obtain ⟨g', v1, v2, v3⟩ := g6 fu' g (by omega) ⟨w1, w2, fun i hi hk => by rw [n0 72 i (by omega) (by omega)]; exact w3 i (by omega) hk, fun q => absurd q (by omega)⟩
      exact ⟨g', by rw [z]; exact v1, v2, v3⟩
    · -- once more from its beginning
      rw [if_neg q] at cl'
      have k4 : kd h0 o = 4 := by
        rcases o3 with k | k
        · exact k
        · have := t10 k; omega
      generalize hh : hup (hup hc 72 (D - 1) (hc 72 (D - 1) - 1)) 70 5 ((cntS 0 h0 o : Int) + 1) = h1 at cl'
      have n0 : ∀ c k, ¬ (c = 72 ∧ k = D - 1) → ¬ (c = 70 ∧ k = 5) → h1 c k = hc c k := fun c k z1 z2 => by rw [← hh, hup_n _ _ _ _ _ _ z2, hup_n _ _ _ _ _ _ z1]
      have cto := cnt_s (h0 := h0) o
      rw [if_neg (by omega)] at cto
      have opo1 := opn_s (h0 := h0) o
      rw [if_neg (by omega), if_pos (Or.inl k4)] at opo1
      have nk6 : kd h0 (o + 1) ≠ 6 := fun z => by
        obtain ⟨o', v1, v2, v3, v4⟩ := a7 (o + 1) (by omega) z
        obtain ⟨y1, y2⟩ := a8 o' (o + 1) (by omega) v4 v3
        by_cases z2 : o' = o
        · subst z2
          have : o' + 1 = x := by omega
          rw [el, ← this, cto] at t7
          omega
        · have := y2 o (by omega) (by omega)
          omega
      have h72 : h1 72 (D - 1) = hc 72 (D - 1) - 1 := by rw [← hh, hup_n _ _ _ _ _ _ (by omega), hup_s]
      have W' : WC E h0 (o + 1) D os ls h1 := by
        refine ⟨by omega, by rw [cto, ← hh, hup_s]; omega, by rw [n0 _ _ (by omega) (by omega)]; exact c3, fun i hi => by rw [n0 _ _ (by omega) (by omega)]; exact c4 i hi, fun i hi => ?_, Or.inl (by omega)⟩
        obtain ⟨i1, i2, i3, i4, i5, i6, i7, i8, i9, i10⟩ := c5 i hi
        rw [n0 71 i (by omega) (by omega)]
        by_cases z : i = D - 1
        · subst z
          rw [h72]
          exact ⟨by omega, by omega, i3, i4, i5, i6, i7, i8, by omega, fun w => by rw [eo] at w; omega⟩
        · have := lower i (by omega)
          rw [n0 72 i (by omega) (by omega)]
          exact ⟨by omega, by omega, i3, i4, i5, i6, i7, i8, i9, i10⟩
      refine ⟨o + 1, D, os, ls, h1, cl', W', by omega, Or.inr nk6, fun c k z1 z2 z3 => n0 c k (by omega) (by omega), fun fu' g hf' w => ?_⟩
      obtain ⟨w1, w2, w3, w4⟩ := w
      obtain ⟨fu', rfl⟩ : ∃ g, fu' = g + 1 + 1 := ⟨fu' - 2, by omega⟩
      have g3 := w3 (D - 1) (by omega) (by rw [eo]; exact k4)
      rw [eo] at g3
      have z := (((be_s (f := fu' + 1) s' hE (by omega) w1 w2).2 xE k6 o o1).2 k4 (by omega)).2 (by omega)
      have y1 : ∀ k, 190 ≤ k → k < 430 → hup g 153 o (g 153 o - 1) 142 k = h0 142 k := fun k a b => by rw [hup_n _ _ _ _ _ _ (by omega)]; exact w1 k a b
      have y2 : hup g 153 o (g 153 o - 1) 142 5 = h0 142 5 := by rw [hup_n _ _ _ _ _ _ (by omega)]; exact w2
      have z2 := (be_s (f := fu') (x := o + 1) s' hE (by omega) y1 y2).1 (Or.inr nk6)
      refine ⟨hup g 153 o (g 153 o - 1), by rw [z, z2], ⟨y1, y2, fun i hi hk => ?_, fun q => absurd q (by omega)⟩, fun c k q => hup_n _ _ _ _ _ _ (by omega)⟩
      by_cases z3 : i = D - 1
      · subst z3
        rw [eo, hup_s, h72]; omega
      · have := lower i (by omega)
        rw [hup_n _ _ _ _ _ _ (by omega), n0 72 i (by omega) (by omega)]
        exact w3 i hi hk
