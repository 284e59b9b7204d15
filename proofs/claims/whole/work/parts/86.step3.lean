/-- a block is entered -/
theorem blk {E x D l : Nat} {T : Int} {os ls : Nat → Nat} {h0 hc h1 : MH} (s : SX E h0) (hx : x < E) (k45 : kd h0 x = 4 ∨ kd h0 x = 5) (el : lk h0 x = (l : Int)) (c : WC E h0 x D os ls hc) (oD : opnS 0 h0 x = (D : Int)) (hT : 1 ≤ T ∧ T ≤ 9) (h5 : kd h0 x = 5 → T = 1) (e5 : h1 70 5 = hc 70 5 + 1) (n1 : ∀ c k, ¬ (c = 70 ∧ k = 5) → h1 c k = hc c k) :
    ∃ (hc' : MH) (D' : Nat) (os' ls' : Nat → Nat), F_X0_enterBlock 49 (cntS 0 h0 x : Int) T h1 = some hc' ∧ WC E h0 (x + 1) D' os' ls' hc' ∧ D' ≤ 3 ∧ (∀ c k, ¬ (c = 70 ∧ (k = 5 ∨ k = 6)) → c ≠ 71 → c ≠ 72 → hc' c k = h1 c k) ∧ ∀ g g', WG h0 x D os hc g → (∀ c k, ¬ (c = 153 ∧ k = x) → g' c k = g c k) → (kd h0 x = 4 → g' 153 x = T - 1) → WG h0 (x + 1) D' os' hc' g' := by
  obtain ⟨a1, a2, a3, a4, a5, a6, a7, a8⟩ := s
  obtain ⟨c1, c2, c3, c4, c5, c6⟩ := c
  have k6 : kd h0 x ≠ 6 := by omega
  obtain ⟨l', u1, u2, u3, u4, u5, u6⟩ := a6 x hx k45
  have ell : l' = l := by omega
  subst ell
  have cts := cnt_s (h0 := h0) x
  rw [if_neg k6] at cts
  have ops := opn_s (h0 := h0) x
  rw [if_neg k6, if_pos k45] at ops
  have op1 := a4 (x + 1) (by omega)
  have cl := cntS_le (b := 0) (h := h0) (x + 1) l' (by omega)
  have clE := cntS_le (b := 0) (h := h0) l' E (by omega)
  have old : ∀ i, i < D → os i < x + 1 ∧ x + 1 ≤ ls i ∧ os i ≠ x := fun i hi => by
    obtain ⟨t1, t2, t3, t4, t5, t6, t7, t8, t9, t10⟩ := c5 i hi
    obtain ⟨l2, v1, v2, v3, v4, v5, v6⟩ := a6 (os i) (by omega) t4
    have e2 : l2 = ls i := by omega
    have xl : x ≠ ls i := fun z => by rw [← e2] at z; rw [z] at k6; exact k6 v4
    omega
  have e53 : h1 53 (cntS 0 h0 x) = (cntS 0 h0 l' : Int) := by rw [n1 _ _ (by omega), c4 _ (by omega)]; exact u6
  have e706 : h1 70 6 = (D : Int) := by rw [n1 _ _ (by omega)]; exact c3
  by_cases em : cntS 0 h0 l' = cntS 0 h0 x + 1
  · -- empty
    have lx : l' = x + 1 := by
      rcases Nat.lt_or_ge (x + 1) l' with q | q
      · exfalso
        by_cases z : kd h0 (x + 1) = 6
        · obtain ⟨o2, v1, v2, v3, v4⟩ := a7 (x + 1) (by omega) z
          obtain ⟨b1, b2⟩ := a8 o2 (x + 1) (by omega) v4 v3
          by_cases z2 : o2 = x
          · subst z2; omega
          · have := b2 x (by omega) (by omega); omega
        · have lt := cntS_lt (b := 0) (h := h0) (e := x + 1) q (by rw [Nat.zero_add]; exact z)
          omega
      · omega
    have W : WC E h0 (x + 1) D os ls h1 := by
      refine ⟨by omega, by rw [e5, c2, cts]; omega, e706, fun i hi => by rw [n1 _ _ (by omega)]; exact c4 i hi, fun i hi => ?_, Or.inr ⟨by omega, by omega, by rw [← lx]; exact u4, x, by rw [← lx]; exact u5, rfl⟩⟩
      obtain ⟨t1, t2, t3, t4, t5, t6, t7, t8, t9, t10⟩ := c5 i hi
      obtain ⟨o1, o2, o3⟩ := old i hi
      rw [n1 71 i (by omega), n1 72 i (by omega)]
      exact ⟨o1, o2, t3, t4, t5, t6, t7, t8, t9, t10⟩
    refine ⟨h1, D, os, ls, ?_, W, by omega, fun _ _ _ _ _ => rfl, fun g g' wg gg g4 => ?_⟩
    · unfold F_X0_enterBlock F_X0_enterBlock_0 ck
      rw [if_pos (by omega), if_neg (by omega), if_pos (by omega), show ((cntS 0 h0 x : Int)).toNat = cntS 0 h0 x by omega, show 49 + 4 = 53 from rfl, e53, if_pos (by omega), if_pos (by omega), if_pos (by omega), nx_eq, hup_same _ _ _ _ (by rw [e5, c2]; omega)]
    · obtain ⟨w1, w2, w3, w4⟩ := wg
      refine ⟨fun k z1 z2 => by rw [gg _ _ (by omega)]; exact w1 k z1 z2, by rw [gg _ _ (by omega)]; exact w2, fun i hi hk => by rw [gg _ _ (by have := (old i hi).2.2; omega), n1 _ _ (by omega)]; exact w3 i hi hk, fun _ o ho hk => ?_⟩
      have : o = x := by rw [← lx, u5] at ho; omega
      subst this
      rw [g4 hk]; omega
  · -- pushed
    have W : WC E h0 (x + 1) (D + 1) (fun i => if i = D then x else os i) (fun i => if i = D then l' else ls i) (hup (hup (hup h1 71 D (cntS 0 h0 x : Int)) 72 D T) 70 6 ((D : Int) + 1)) := by
      have N : ∀ c k, ¬ (c = 71 ∧ k = D) → ¬ (c = 72 ∧ k = D) → ¬ (c = 70 ∧ k = 6) → hup (hup (hup h1 71 D (cntS 0 h0 x : Int)) 72 D T) 70 6 ((D : Int) + 1) c k = h1 c k := fun c k z1 z2 z3 => by rw [hup_n _ _ _ _ _ _ z3, hup_n _ _ _ _ _ _ z2, hup_n _ _ _ _ _ _ z1]
      refine ⟨by omega, by rw [N _ _ (by omega) (by omega) (by omega), e5, c2, cts]; omega, by rw [hup_s]; omega, fun i hi => by rw [N _ _ (by omega) (by omega) (by omega), n1 _ _ (by omega)]; exact c4 i hi, fun i hi => ?_, Or.inl (by omega)⟩
      by_cases z : i = D
      · subst z
        dsimp only
        rw [if_pos rfl, if_pos rfl, hup_n _ _ _ _ 71 i (by omega), hup_n _ _ _ _ 71 i (by omega), hup_s, hup_n _ _ _ _ 72 i (by omega), hup_s]
        exact ⟨by omega, by omega, u3, k45, u1, oD, by omega, rfl, hT, h5⟩
      · obtain ⟨t1, t2, t3, t4, t5, t6, t7, t8, t9, t10⟩ := c5 i (by omega)
        obtain ⟨o1, o2, o3⟩ := old i (by omega)
        dsimp only
        rw [if_neg z, if_neg z, N 71 i (by omega) (by omega) (by omega), N 72 i (by omega) (by omega) (by omega), n1 71 i (by omega), n1 72 i (by omega)]
        exact ⟨o1, o2, t3, t4, t5, t6, t7, t8, t9, t10⟩
    refine ⟨_, D + 1, _, _, ?_, W, by omega, fun c k z1 z2 z3 => by rw [hup_n _ _ _ _ _ _ (by omega), hup_n _ _ _ _ _ _ (by omega), hup_n _ _ _ _ _ _ (by omega)], fun g g' wg gg g4 => ?_⟩
    · unfold F_X0_enterBlock F_X0_enterBlock_0 ck
      have n6 : hup h1 71 D (cntS 0 h0 x : Int) 70 6 = (D : Int) := by rw [hup_n _ _ _ _ _ _ (by omega)]; exact e706
      have n62 : hup (hup h1 71 D (cntS 0 h0 x : Int)) 72 D T 70 6 = (D : Int) := by rw [hup_n _ _ _ _ _ _ (by omega)]; exact n6
      rw [if_pos (by omega), if_neg (by omega), if_pos (by omega), show ((cntS 0 h0 x : Int)).toNat = cntS 0 h0 x by omega, show 49 + 4 = 53 from rfl, e53, if_pos (by omega), if_pos (by omega), if_neg (by omega), e706, if_pos (by omega), if_pos (by omega), if_pos (by omega), nx_eq, show ((D : Int)).toNat = D by omega, n6, if_pos (by omega), nx_eq, show ((D : Int)).toNat = D by omega, nx_eq, n62]
    · obtain ⟨w1, w2, w3, w4⟩ := wg
      refine ⟨fun k z1 z2 => by rw [gg _ _ (by omega)]; exact w1 k z1 z2, by rw [gg _ _ (by omega)]; exact w2, fun i hi hk => ?_, fun q => absurd q (by omega)⟩
      by_cases z : i = D
      · subst z
        dsimp only at hk ⊢
        rw [if_pos rfl] at hk ⊢
        rw [g4 hk, hup_n _ _ _ _ 72 i (by omega), hup_s]
      · dsimp only at hk ⊢
        rw [if_neg z] at hk ⊢
        rw [gg _ _ (by have := (old i (by omega)).2.2; omega), hup_n _ _ _ _ _ _ (by omega), hup_n _ _ _ _ _ _ (by omega), hup_n _ _ _ _ _ _ (by omega), n1 _ _ (by omega)]
        exact w3 i (by omega) hk
/-- a block is passed over -/
theorem ovr {E x D l : Nat} {os ls : Nat → Nat} {h0 hc h2 : MH} (s : SX E h0) (hx : x < E) (k45 : kd h0 x = 4 ∨ kd h0 x = 5) (el : lk h0 x = (l : Int)) (c : WC E h0 x D os ls hc) (oD : opnS 0 h0 x = (D : Int)) (e5 : h2 70 5 = (cntS 0 h0 l : Int)) (n1 : ∀ c k, ¬ (c = 70 ∧ k = 5) → h2 c k = hc c k) : WC E h0 (l + 1) D os ls h2 ∧ opnS 0 h0 (l + 1) = (D : Int) := by
  obtain ⟨a1, a2, a3, a4, a5, a6, a7, a8⟩ := s
  obtain ⟨c1, c2, c3, c4, c5, c6⟩ := c
  obtain ⟨l', u1, u2, u3, u4, u5, u6⟩ := a6 x hx k45
  have ell : l' = l := by omega
  subst ell
  obtain ⟨b1, b2⟩ := a8 x l' hx u1 k45
  have cts := cnt_s (h0 := h0) l'
  rw [if_pos u4] at cts
  have ops := opn_s (h0 := h0) l'
  rw [if_pos u4] at ops
  refine ⟨⟨by omega, by rw [e5, cts]; rfl, by rw [n1 _ _ (by omega)]; exact c3, fun i hi => by rw [n1 _ _ (by omega)]; exact c4 i hi, fun i hi => ?_, Or.inl (by omega)⟩, by omega⟩
  obtain ⟨t1, t2, t3, t4, t5, t6, t7, t8, t9, t10⟩ := c5 i hi
  obtain ⟨l2, v1, v2, v3, v4, v5, v6⟩ := a6 (os i) (by omega) t4
  have e2 : l2 = ls i := by omega
  obtain ⟨d1, d2⟩ := a8 (os i) l2 (by omega) v1 t4
  have xl : x ≠ ls i := fun z => by
    have k6 : kd h0 x ≠ 6 := by omega
    rw [← e2] at z; rw [z] at k6; exact k6 v4
  have ll : l' < ls i := by
    rcases Nat.lt_or_ge l' (ls i) with q | q
    · exact q
    · exfalso
      have z := b2 (ls i) (by omega) q
      rw [← e2, d1] at z
      omega
  rw [n1 71 i (by omega), n1 72 i (by omega)]
  exact ⟨by omega, by omega, t3, t4, t5, t6, t7, t8, t9, t10⟩
