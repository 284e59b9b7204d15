/-! ===== shared: the whole row ===== -/
theorem rg_l {u T n M : Nat} {bo : Int} (hu : u ≤ 8) (hT : 1 ≤ T ∧ T ≤ 5) (hn : n = T + 1) (hM : M ≤ 1000) (hb : 1 ≤ bo ∧ bo ≤ 99) : ∀ (r t nd left : Nat) (d : Nat → Nat) (h : MH), t + r + 1 = T → r < nd → (∀ k, k < t → d k < u + 1) → (∀ k, k < t → h 69 k = (d k : Int)) → dS d t + left = u → CI T n M h →
    ∃ h', F_X9_shareFrom nd (t : Int) (left : Int) bo (M : Int) h = some h' ∧ CI T n M h' ∧ CF h h' ∧ (∀ k, k < t → h' 69 k = h 69 k) ∧ 0 ≤ h' 56 6 ∧
      ∀ f x6 G, OI T n h x6 G → ∃ x6' G', F_X12_shared_103 (f + (u + 1) ^ r) (u : Int) bo (M : Int) (T : Int) (((u + 1) ^ (T - 1) : Nat) : Int) x6 ((dV (u + 1) d t * (u + 1) ^ r : Nat) : Int) G = F_X12_shared_103 f (u : Int) bo (M : Int) (T : Int) (((u + 1) ^ (T - 1) : Nat) : Int) x6' (((dV (u + 1) d t + 1) * (u + 1) ^ r : Nat) : Int) G' ∧ OI T n h' x6' G' ∧ OF G G' := by
  intro r
  induction r with
  | zero =>
    intro t nd left d h e1 l1 hd h9 hs ci
    obtain ⟨nd, rfl⟩ : ∃ g, nd = g + 1 := ⟨nd - 1, by omega⟩
    have et : t = T - 1 := by omega
    subst et
    obtain ⟨h', a1, a2, a3, a4, a5, a6⟩ := leaf_l (nd := nd) hu hT hn hM hb hd h9 hs ci
    refine ⟨h', a1, a2, a3, a4, a5, fun f x6 G o => ?_⟩
    obtain ⟨x6', G', b1, b2⟩ := a6 f x6 G o
    refine ⟨x6', G', ?_, b2⟩
    rw [Nat.pow_zero, Nat.mul_one, Nat.mul_one]
    exact b1
  | succ r ih =>
    intro t nd left d h e1 l1 hd h9 hs ci
    obtain ⟨nd, rfl⟩ : ∃ g, nd = g + 1 := ⟨nd - 1, by omega⟩
    -- the class's loop beside the other's stretches
    have L : ∀ (e j fu : Nat) (h : MH), j + e = left + 1 → e < fu → (∀ k, k < t → h 69 k = (d k : Int)) → CI T n M h →
        ∃ h', F_X9_shareFrom_28 (F_X9_shareFrom nd) fu (t : Int) (left : Int) bo (M : Int) (j : Int) h = some h' ∧ CI T n M h' ∧ CF h h' ∧ (∀ k, k < t → h' 69 k = h 69 k) ∧ (1 ≤ e → 0 ≤ h' 56 6) ∧
          ∀ f x6 G, OI T n h x6 G → ∃ x6' G', F_X12_shared_103 (f + e * (u + 1) ^ r) (u : Int) bo (M : Int) (T : Int) (((u + 1) ^ (T - 1) : Nat) : Int) x6 (((dV (u + 1) d t * (u + 1) + j) * (u + 1) ^ r : Nat) : Int) G = F_X12_shared_103 f (u : Int) bo (M : Int) (T : Int) (((u + 1) ^ (T - 1) : Nat) : Int) x6' (((dV (u + 1) d t * (u + 1) + (left + 1)) * (u + 1) ^ r : Nat) : Int) G' ∧ OI T n h' x6' G' ∧ OF G G' := by
      intro e
      induction e with
      | zero =>
        intro j fu h e2 l2 h9 ci
        obtain ⟨fu, rfl⟩ : ∃ g, fu = g + 1 := ⟨fu - 1, by omega⟩
        have ej : j = left + 1 := by omega
        subst ej
        refine ⟨h, ?_, ci, fun _ _ _ _ => rfl, fun _ _ => rfl, fun x => absurd x (by omega), fun f x6 G o => ⟨x6, G, by rw [Nat.zero_mul, Nat.add_zero], o, fun _ _ _ _ _ => rfl⟩⟩
        rw [F_X9_shareFrom_28]
        unfold ck
        rw [if_pos (by omega), if_pos (by omega), if_pos (by omega)]
      | succ e ihe =>
        intro j fu h e2 l2 h9 ci
        obtain ⟨fu, rfl⟩ : ∃ g, fu = g + 1 := ⟨fu - 1, by omega⟩
        have K : ∀ c k, ¬ (c = 69 ∧ k = t) → hup h 69 t (j : Int) c k = h c k := fun c k q => hup_n _ _ _ _ _ _ q
        obtain ⟨c1, c2, c3, c4⟩ := ci
        obtain ⟨h1, a1, a2, a3, a4, a5, a6⟩ := ih (t + 1) nd (left - j) (dgU d t j) (hup h 69 t (j : Int)) (by omega) (by omega) (fun k hk => by
          by_cases q : k = t
          · subst q; rw [dgU_s]; omega
          · rw [dgU_n _ _ _ _ q]; exact hd k (by omega)) (fun k hk => by
          by_cases q : k = t
          · subst q; rw [dgU_s, hup_s]
          · rw [dgU_n _ _ _ _ q, K _ _ (by omega)]; exact h9 k (by omega)) (by rw [dS_u]; omega) ⟨CS_n (fun c k q1 q2 => K c k (by omega)) c1, by rw [K _ _ (by omega)]; exact c2, by rw [K _ _ (by omega)]; exact c3, fun q k hk => by rw [K _ _ (by omega)] at q; rw [K _ _ (by omega)]; exact c4 q k hk⟩
        have p9 : ∀ k, k < t → h1 69 k = h 69 k := fun k hk => by rw [a4 k (by omega), K _ _ (by omega)]
        obtain ⟨h', b1, b2, b3, b4, b5, b6⟩ := ihe (j + 1) fu h1 (by omega) (by omega) (fun k hk => by rw [p9 k hk]; exact h9 k hk) a2
        refine ⟨h', ?_, b2, ?_, fun k hk => by rw [b4 k hk, p9 k hk], fun _ => ?_, fun f x6 G o => ?_⟩
        · rw [← b1, F_X9_shareFrom_28]
          unfold ck
          rw [if_pos (by omega), if_pos (by omega), if_neg (by omega), if_pos (by omega), nx_eq, show ((t : Int)).toNat = t by omega, show (t : Int) + 1 = ((t + 1 : Nat) : Int) by omega, show (left : Int) - (j : Int) = ((left - j : Nat) : Int) by omega, a1, bind_eq, show (j : Int) + 1 = ((j + 1 : Nat) : Int) by omega]
        · refine CF.tr ?_ b3
          intro i k q1 q2
          rw [a3 i k q1 q2, K _ _ (by omega)]
        · rcases Nat.eq_zero_or_pos e with q | q
          · subst q
            have := b2.2.2.1
            obtain ⟨fu, rfl⟩ : ∃ g, fu = g + 1 := ⟨fu - 1, by omega⟩
            rw [F_X9_shareFrom_28] at b1
            unfold ck at b1
            rw [if_pos (by omega), if_pos (by omega), if_pos (by omega)] at b1
            rw [← Option.some.inj b1]
            exact a5
          · exact b5 q
        · obtain ⟨o1, o2, o3⟩ := o
          have o' : OI T n (hup h 69 t (j : Int)) x6 G := ⟨SE_n (fun c k q1 q2 => K c k (by omega)) (fun _ => rfl) o1, by rw [K _ _ (by omega)]; exact o2, fun q k hk => by rw [K _ _ (by omega)] at q; rw [K _ _ (by omega)]; exact o3 q k hk⟩
          obtain ⟨y6, G1, z1, z2, z3⟩ := a6 (f + e * (u + 1) ^ r) x6 G o'
          obtain ⟨x6', G', w1, w2, w3⟩ := b6 f y6 G1 z2
          rw [dV_u] at z1
          refine ⟨x6', G', ?_, w2, z3.tr w3⟩
          rw [← w1, ← Nat.add_assoc (dV (u + 1) d t * (u + 1)) j 1, ← z1, Nat.add_mul e 1, Nat.one_mul, Nat.add_assoc]
    obtain ⟨h', a1, a2, a3, a4, a5, a6⟩ := L (left + 1) 0 20000 h (by omega) (by omega) h9 ci
    have c2 := ci.2.1
    refine ⟨h', ?_, a2, a3, a4, a5 (by omega), fun f x6 G o => ?_⟩
    · rw [F_X9_shareFrom]
      unfold F_X9_shareFrom_0 ck
      rw [if_pos (by omega), if_pos (by omega), if_pos (by omega)]
      exact a1
    · obtain ⟨x6', G1, b1, b2, b3⟩ := a6 (f + (u - left) * (u + 1) ^ r) x6 G o
      obtain ⟨G', d1, d2⟩ := skip_i (u := u) (T := T) (t := t) (p := (u + 1) ^ r) (d := d) (bo := bo) (x6 := x6') (M := M) (x5 := (((u + 1) ^ (T - 1) : Nat) : Int)) (fun v hv hs f G => by
        have z := skip_l (u := u) (T := T) (M := M) (bo := bo) (x6 := x6') hu hT r (t + 1) (dgU d t v) (by omega) (fun k hk => by
          by_cases q : k = t
          · subst q; rw [dgU_s]; exact hv
          · rw [dgU_n _ _ _ _ q]; exact hd k (by omega)) (by rw [dS_u]; exact hs) f G
        rw [dV_u] at z
        exact z) (u - left) (left + 1) f G1 (by omega) (by omega)
      have e1 : dV (u + 1) d t * ((u + 1) ^ r * (u + 1)) = (dV (u + 1) d t * (u + 1) + 0) * (u + 1) ^ r := by simp only [Nat.add_zero, Nat.mul_comm ((u + 1) ^ r) (u + 1), Nat.mul_assoc]
      have e2 : f + (u + 1) ^ r * (u + 1) = f + (u - left) * (u + 1) ^ r + (left + 1) * (u + 1) ^ r := by
        rw [Nat.add_assoc, ← Nat.add_mul, Nat.mul_comm, show u - left + (left + 1) = u + 1 by omega]
      obtain ⟨o1, o2, o3⟩ := b2
      refine ⟨x6', G', ?_, ⟨SE_n (fun _ _ _ _ => rfl) (fun k => d2 _ _ (by omega)) o1, o2, fun q k hk => by rw [d2 _ _ (by omega)]; exact o3 q k hk⟩, b3.tr d2.of⟩
      rw [Nat.pow_succ, e1, e2, b1, d1]
theorem pw_l {u T : Nat} {b M : Int} (hu : u ≤ 8) (hT : T ≤ 5) : ∀ (d fu j : Nat) (G : MH), j + d = T → 1 ≤ j → d < fu → F_X12_shared_74 fu (u : Int) b M (T : Int) (((u + 1) ^ (j - 1) : Nat) : Int) (j : Int) G = F_X12_shared_103 20000 (u : Int) b M (T : Int) (((u + 1) ^ (T - 1) : Nat) : Int) (-1) 0 G := by
  intro d
  induction d with
  | zero =>
    intro fu j G e1 h1 l1
    obtain ⟨fu, rfl⟩ : ∃ g, fu = g + 1 := ⟨fu - 1, by omega⟩
    have : j = T := by omega
    subst this
    rw [F_X12_shared_74]
    unfold ck
    rw [if_pos (by omega), if_pos (by omega), if_pos (by omega)]
  | succ d ih =>
    intro fu j G e1 h1 l1
    obtain ⟨fu, rfl⟩ : ∃ g, fu = g + 1 := ⟨fu - 1, by omega⟩
    have z := ih fu (j + 1) G (by omega) (by omega) (by omega)
    have e : (((u + 1) ^ (j - 1) : Nat) : Int) * ((u : Int) + 1) = (((u + 1) ^ (j + 1 - 1) : Nat) : Int) := by
      rw [show j + 1 - 1 = (j - 1) + 1 by omega, Nat.pow_succ, Int.natCast_mul]
      rfl
    rw [← z, F_X12_shared_74]
    unfold ck
    rw [if_pos (by omega), if_pos (by omega), if_neg (by omega), nx_eq, e]
    rfl
theorem keep_b2 {g g1 g2 g3 : MH} (e1 : F_X12_copies 0 2200 g = some g1) (a : ∀ k, 440 ≤ k → g2 142 k = g1 142 k) (e3 : F_X12_copies 2200 0 g2 = some g3) : (∀ k, k < 2200 → g3 142 k = g 142 k) ∧ ∀ c k, c ≠ 142 → g3 c k = g2 c k := by
  have c1 := copies_eq (a := 0) (b := 2200) (g := g) (by omega) (by omega) (by omega)
  have c3 := copies_eq (a := 2200) (b := 0) (g := g2) (by omega) (by omega) (by omega)
  rw [show ((0 : Nat) : Int) = 0 from rfl, show ((2200 : Nat) : Int) = 2200 from rfl] at c1 c3
  have d1 := Option.some.inj (e1.symm.trans c1)
  have d3 := Option.some.inj (e3.symm.trans c3)
  refine ⟨fun k e => ?_, fun c k e => by rw [d3, hcp_n _ _ _ _ _ _ _ _ (by omega)]⟩
  rw [d3]
  by_cases x : k < 440
  · rw [hcp_y _ _ _ _ _ _ _ _ (by omega), a _ (by omega), d1, hcp_y _ _ _ _ _ _ _ _ (by omega)]
    exact congrArg (g 142) (by omega)
  · rw [hcp_n _ _ _ _ _ _ _ _ (by omega), a _ (by omega), d1, hcp_n _ _ _ _ _ _ _ _ (by omega)]
theorem o_shared : Ob_shared RR := by
  intro n h a1 a2 a3 hn r i1 i2 i3
  refine ob_ev ?_
  obtain ⟨F, X⟩ := PR_FR.mp r.2.2.2.1
  have F1 := F.1
  have F3 := F.2.2.1
  simp only [Nat.zero_add, show 34 + 1 = 35 from rfl] at F1 F3
  by_cases c : 0 ≤ a1 ∧ a1 ≤ 8 ∧ 1 ≤ a2 ∧ a2 ≤ 99 ∧ 1 ≤ a3 ∧ a3 ≤ 200 ∧ 2 ≤ h 35 0
  · obtain ⟨u, eu⟩ : ∃ u : Nat, a1 = (u : Int) := ⟨a1.toNat, by omega⟩
    obtain ⟨M, eM⟩ : ∃ M : Nat, a3 = (M : Int) := ⟨a3.toNat, by omega⟩
    obtain ⟨T, en⟩ : ∃ T : Nat, h 35 0 = ((T + 1 : Nat) : Int) := ⟨(h 35 0).toNat - 1, by omega⟩
    have I0 : FI True 35 (600000 * n) (6000 * n) h := FI_of (f := 35) F (by omega)
    obtain ⟨h1, p1, p2, p3, p4⟩ := floor_copy (h := h)
    generalize hh : hup (hup h1 56 3 (T : Int)) 56 6 (-1) = h2
    have K2 : ∀ c k, ¬ (c = 56 ∧ (k = 3 ∨ k = 6)) → h2 c k = h1 c k := fun c k q => by rw [← hh, hup_n _ _ _ _ _ _ (by omega), hup_n _ _ _ _ _ _ (by omega)]
    have k3 : h2 56 3 = (T : Int) := by rw [← hh, hup_n _ _ _ _ _ _ (by omega), hup_s]
    have k6 : h2 56 6 = -1 := by rw [← hh, hup_s]
    have ci : CI T (T + 1) M h2 := by
      refine ⟨⟨by rw [K2 _ _ (by omega), p2.1]; exact en, by rw [K2 _ _ (by omega), p2.2.1]; omega, fun m hm => ?_⟩, k3, by omega, fun q => absurd q (by omega)⟩
      have := I0.2.2.1 m (by omega)
      rw [K2 58 m (by omega), K2 59 m (by omega), K2 60 m (by omega), K2 61 m (by omega), show (58 : Nat) = 57 + 1 from rfl, show (59 : Nat) = 57 + 2 from rfl, show (60 : Nat) = 57 + 3 from rfl, show (61 : Nat) = 57 + 4 from rfl, p3 1 m (by omega) (by omega) (by omega), p3 2 m (by omega) (by omega) (by omega), p3 3 m (by omega) (by omega) (by omega), p3 4 m (by omega) (by omega) (by omega)]
      exact ⟨this.1, this.2.1, this.2.2.1, this.2.2.2.2.2.1⟩
    obtain ⟨h3, q1, q2, q3, q4, q5, q6⟩ := rg_l (u := u) (T := T) (n := T + 1) (M := M) (bo := a2) (by omega) (by omega) rfl (by omega) (by omega) (T - 1) 0 10 u (fun _ => 0) h2 (by omega) (by omega) (fun k hk => absurd hk (by omega)) (fun k hk => absurd hk (by omega)) (by rw [dS]; omega) ci
    rw [show ((0 : Nat) : Int) = 0 from rfl, ← eM, ← eu] at q1
    have b1 : F_X9_shareOut 35 a1 a2 a3 h = some (h3 56 6, h3) := by
      unfold F_X9_shareOut F_X9_shareOut_0 F_X1_tables F_X1_tables_0 ck
      rw [p1, bind_eq, p4 35 0 (by omega), if_pos (by omega), bind_eq]
      dsimp only
      rw [show max 0 (h 35 0 - 1) = (T : Int) by omega, nx_eq, nx_eq, hh, q1, bind_eq]
    have K3 : ∀ c k, ¬ (57 ≤ c ∧ c ≤ 69) → ¬ (c = 56 ∧ (k = 3 ∨ k = 6)) → h3 c k = h c k := fun c k x1 x2 => by
      rw [q3 c k x1 (by omega), K2 c k (by omega), p4 c k (by omega)]
    -- the other
    have e0 : ∀ k, hup h3 0 0 0 142 k = h 142 k := fun k => by rw [hup_n _ _ _ _ _ _ (by omega), K3 142 k (by omega) (by omega)]
    have E := FE_of F e0
    obtain ⟨G1, y1, y2⟩ := keep_1 (g := hup h3 0 0 0)
    have ck1 := copies_eq (a := 0) (b := 2200) (g := hup h3 0 0 0) (by omega) (by omega) (by omega)
    rw [show ((0 : Nat) : Int) = 0 from rfl, show ((2200 : Nat) : Int) = 2200 from rfl, y1] at ck1
    have y3 : G1 142 2203 = h 35 5 := by
      rw [Option.some.inj ck1, hcp_y _ _ _ _ _ _ _ _ (by omega)]
      rw [show 0 + (2203 - 2200) = 3 from rfl, e0]
      exact F3.2.2
    have oi : OI T (T + 1) h2 (-1) G1 := by
      obtain ⟨f1, f2, f3, f4⟩ := E
      refine ⟨⟨by rw [y2 _ _ (by omega), f1]; exact en, by rw [y3, K2 _ _ (by omega), p2.2.1], fun m hm => ?_⟩, k6.symm, fun q => absurd q (by omega)⟩
      obtain ⟨w0, w1, w2, w3, w4, w5, w6, w7⟩ := f3 m (by omega) (by show (m : Int) < h 35 0; omega)
      rw [y2 _ _ (by omega), y2 _ _ (by omega), y2 _ _ (by omega), y2 _ _ (by omega), w0, w1, w2, w6, K2 58 m (by omega), K2 59 m (by omega), K2 60 m (by omega), K2 61 m (by omega), show (58 : Nat) = 57 + 1 from rfl, show (59 : Nat) = 57 + 2 from rfl, show (60 : Nat) = 57 + 3 from rfl, show (61 : Nat) = 57 + 4 from rfl, p3 1 m (by omega) (by omega) (by omega), p3 2 m (by omega) (by omega) (by omega), p3 3 m (by omega) (by omega) (by omega), p3 4 m (by omega) (by omega) (by omega)]
      exact ⟨rfl, rfl, rfl, rfl⟩
    have pb := pow_b (b := u + 1) (t := T - 1) (by omega) (by omega) (by omega)
    obtain ⟨x6', G2, z1, z2, z3⟩ := q6 (20000 - (u + 1) ^ (T - 1)) (-1) G1 oi
    obtain ⟨G3, u1⟩ := keep_3 (g := G2)
    obtain ⟨kb1, kb2⟩ := keep_b2 y1 (fun k hk => z3 142 k (by omega) (by omega) (by omega)) u1
    have kk : ∀ c k, c ≠ 151 → c ≠ 152 → ¬ (c = 142 ∧ 2200 ≤ k) → G3 c k = hup h3 0 0 0 c k := fun c k x1 x2 x3 => by
      by_cases x : c = 142
      · subst x; exact kb1 k (by omega)
      · rw [kb2 c k x, z3 c k (by omega) x1 x2, y2 c k (by omega)]
    have x5 : ∀ k, k < T → G3 152 k = h3 68 k := fun k hk => by
      rw [kb2 152 k (by omega)]
      exact z2.2.2 q5 k hk
    have q74 := pw_l (u := u) (T := T) (b := a2) (M := a3) (by omega) (by omega) (T - 1) 20000 1 G1 (by omega) (by omega) (by omega)
    rw [show (u + 1) ^ (1 - 1) = 1 from rfl, show ((1 : Nat) : Int) = 1 from rfl, ← eu, eM] at q74
    rw [dV, Nat.zero_mul, show 20000 - (u + 1) ^ (T - 1) + (u + 1) ^ (T - 1) = 20000 by omega, show ((0 : Nat) : Int) = 0 from rfl, Nat.zero_add, Nat.one_mul, ← eu] at z1
    rw [z1] at q74
    have fin : F_X12_shared_103 (20000 - (u + 1) ^ (T - 1)) a1 a2 (M : Int) (T : Int) (((u + 1) ^ (T - 1) : Nat) : Int) x6' (((u + 1) ^ (T - 1) : Nat) : Int) G2 = some (x6', hup (hup G3 141 27 (T : Int)) 141 1 0) := by
      obtain ⟨fu, ef⟩ : ∃ fu, 20000 - (u + 1) ^ (T - 1) = fu + 1 := ⟨20000 - (u + 1) ^ (T - 1) - 1, by omega⟩
      rw [ef, F_X12_shared_103]
      unfold F_X12_gives F_X12_gives_0 ck
      rw [if_pos (by omega), if_pos (by omega), if_pos (by omega), u1, bind_eq, nx_eq, nx_eq, bind_eq]
    rw [fin, ← eM] at q74
    have e1 : h3 142 0 = h 35 0 := by rw [K3 142 0 (by omega) (by omega)]; exact F1.2.2
    have mx : max 0 (h3 142 0 - 1) = (T : Int) := by omega
    have x6e : x6' = h3 56 6 := z2.2.1
    have q2b := q2.2.2.1
    simp only [F_X11_shared, F_X11_shared_0, F_X11_outside, F_X11_outside_0, F_X11_shared_36, F_X11_none, F_X11_none_0, F_X11_answer, F_X11_answer_0]
    ((try simp only [hup_s, hup_c, hup_k, ne_eq, Nat.reduceEqDiff, not_false_eq_true]); repeat' (first | (with_reducible refine ev_ck ?_ ?_; first | omega | trivial) | with_reducible refine ev_bind ?_ | (with_reducible refine ev_nx ?_; first | simp only [hup_s, hup_c, hup_k, ne_eq, Nat.reduceEqDiff, not_false_eq_true] | dsimp only | skip) | (with_reducible refine ev_some ?_; first | simp only [hup_s, hup_c, hup_k, ne_eq, Nat.reduceEqDiff, not_false_eq_true] | dsimp only | skip) | (with_reducible refine ev_it ?_ ?_; first | omega | trivial) | (with_reducible refine ev_ie ?_ ?_; first | omega | trivial) | with_reducible refine ev_if (fun _ => ?_) (fun _ => ?_) | rw [b1]))
    simp only [F_X12_shared, F_X12_shared_0, F_X12_isFrom, F_X12_isFrom_0, F_X12_shared_36, F_X12_refuse, F_X12_refuse_0, F_X12_tables, F_X12_tables_0]
    ((try simp only [hup_s, hup_c, hup_k, ne_eq, Nat.reduceEqDiff, not_false_eq_true, mx]); repeat' (first | (with_reducible refine ev_ck ?_ ?_; first | omega | trivial) | with_reducible refine ev_bind ?_ | (with_reducible refine ev_nx ?_; first | simp only [hup_s, hup_c, hup_k, ne_eq, Nat.reduceEqDiff, not_false_eq_true, mx] | dsimp only | skip) | (with_reducible refine ev_some ?_; first | simp only [hup_s, hup_c, hup_k, ne_eq, Nat.reduceEqDiff, not_false_eq_true, mx] | dsimp only | skip) | (with_reducible refine ev_it ?_ ?_; first | omega | trivial) | (with_reducible refine ev_ie ?_ ?_; first | omega | trivial) | with_reducible refine ev_if (fun _ => ?_) (fun _ => ?_) | rw [y1] | rw [q74]))
    have V : ∀ c k, ¬ (c = 142 ∧ 2200 ≤ k) → ¬ (57 ≤ c ∧ c ≤ 69) → ¬ (c = 0 ∧ k = 0) → ¬ (c = 141 ∧ (k = 1 ∨ k = 27)) → ¬ (c = 56 ∧ (k = 3 ∨ k = 6)) → c ≠ 151 → c ≠ 152 → hup (hup G3 141 27 (T : Int)) 141 1 0 c k = h c k := fun c k w1 w2 w3 w4 w5 w6 w7 => by
      rw [hup_n _ _ _ _ _ _ (by omega), hup_n _ _ _ _ _ _ (by omega), kk c k w6 w7 w1, hup_n _ _ _ _ _ _ (by omega), K3 c k w2 w5]
    have u0 : hup (hup G3 141 27 (T : Int)) 141 1 0 0 0 = 0 := by rw [hup_n _ _ _ _ _ _ (by omega), hup_n _ _ _ _ _ _ (by omega), kk 0 0 (by omega) (by omega) (by omega), hup_s]
    have u3 : hup (hup G3 141 27 (T : Int)) 141 1 0 56 3 = (T : Int) := by rw [hup_n _ _ _ _ _ _ (by omega), hup_n _ _ _ _ _ _ (by omega), kk 56 3 (by omega) (by omega) (by omega), hup_n _ _ _ _ _ _ (by omega)]; exact q2.2.1
    have u27 : hup (hup G3 141 27 (T : Int)) 141 1 0 141 27 = (T : Int) := by rw [hup_n _ _ _ _ _ _ (by omega), hup_s]
    have u11 : hup (hup G3 141 27 (T : Int)) 141 1 0 141 1 = 0 := hup_s _ _ _ _
    have u68 : ∀ k, hup (hup G3 141 27 (T : Int)) 141 1 0 68 k = h3 68 k := fun k => by rw [hup_n _ _ _ _ _ _ (by omega), hup_n _ _ _ _ _ _ (by omega), kk 68 k (by omega) (by omega) (by omega), hup_n _ _ _ _ _ _ (by omega)]
    have u152 : ∀ k, k < T → hup (hup G3 141 27 (T : Int)) 141 1 0 152 k = h3 68 k := fun k hk => by rw [hup_n _ _ _ _ _ _ (by omega), hup_n _ _ _ _ _ _ (by omega), x5 k hk]
    generalize hup (hup G3 141 27 (T : Int)) 141 1 0 = g at *
    refine ⟨x6e.symm, by clear z1 q74 fin; omega, RR_7 (h := h) ?_ ?_ ?_ (RR_mono _ _ r)⟩
    · intro c k q
      obtain ⟨q, q2⟩ := q
      unfold Zall Z2 Z3 Zp Zs Z6 Z7 Z8 Z9 Z10 Z11 Z12 at q
      unfold Z7 at q2
      exact V c k (by omega) (by omega) (by omega) (by omega) (by omega) (by omega) (by omega)
    · obtain ⟨⟨-, s2, s3⟩, -⟩ := r
      unfold R1
      rw [u0, u11, V 0 1 (by omega) (by omega) (by omega) (by omega) (by omega) (by omega) (by omega), V 0 2 (by omega) (by omega) (by omega) (by omega) (by omega) (by omega) (by omega), V 141 2 (by omega) (by omega) (by omega) (by omega) (by omega) (by omega) (by omega), V 141 3 (by omega) (by omega) (by omega) (by omega) (by omega) (by omega) (by omega)]
      exact ⟨⟨by omega, by omega, rfl⟩, s2, s3⟩
    · obtain ⟨t1, t2, t3, t4⟩ := r.2.2.2.2.2.2.1
      unfold R7
      rw [V 56 1 (by omega) (by omega) (by omega) (by omega) (by omega) (by omega) (by omega), V 56 2 (by omega) (by omega) (by omega) (by omega) (by omega) (by omega) (by omega), V 141 24 (by omega) (by omega) (by omega) (by omega) (by omega) (by omega) (by omega), V 141 23 (by omega) (by omega) (by omega) (by omega) (by omega) (by omega) (by omega), u3, u27]
      refine ⟨t1, t2, ⟨by omega, by omega, rfl⟩, fun k hk => ?_⟩
      have z := q2.2.2.2 q5 k (by omega)
      rw [u68, u152 k (by omega)]
      exact ⟨z.1, z.2, rfl⟩
  · simp only [F_X11_shared, F_X11_shared_0, F_X11_outside, F_X11_outside_0, F_X11_shared_36, F_X11_none, F_X11_none_0, F_X11_answer, F_X11_answer_0]
    ((try simp only [hup_s, hup_c, hup_k, ne_eq, Nat.reduceEqDiff, not_false_eq_true]); repeat' (first | (with_reducible refine ev_ck ?_ ?_; first | omega | trivial) | with_reducible refine ev_bind ?_ | (with_reducible refine ev_nx ?_; first | simp only [hup_s, hup_c, hup_k, ne_eq, Nat.reduceEqDiff, not_false_eq_true] | dsimp only | skip) | (with_reducible refine ev_some ?_; first | simp only [hup_s, hup_c, hup_k, ne_eq, Nat.reduceEqDiff, not_false_eq_true] | dsimp only | skip) | (with_reducible refine ev_it ?_ ?_; first | omega | trivial) | (with_reducible refine ev_ie ?_ ?_; first | omega | trivial) | with_reducible refine ev_if (fun _ => ?_) (fun _ => ?_)))
    all_goals (try (exfalso; omega))
    all_goals simp only [F_X12_shared, F_X12_shared_0, F_X12_isFrom, F_X12_isFrom_0, F_X12_shared_36, F_X12_refuse, F_X12_refuse_0, F_X12_tables, F_X12_tables_0]
    all_goals ((try simp only [hup_s, hup_c, hup_k, ne_eq, Nat.reduceEqDiff, not_false_eq_true]); repeat' (first | (with_reducible refine ev_ck ?_ ?_; first | omega | trivial) | with_reducible refine ev_bind ?_ | (with_reducible refine ev_nx ?_; first | simp only [hup_s, hup_c, hup_k, ne_eq, Nat.reduceEqDiff, not_false_eq_true] | dsimp only | skip) | (with_reducible refine ev_some ?_; first | simp only [hup_s, hup_c, hup_k, ne_eq, Nat.reduceEqDiff, not_false_eq_true] | dsimp only | skip) | (with_reducible refine ev_it ?_ ?_; first | omega | trivial) | (with_reducible refine ev_ie ?_ ?_; first | omega | trivial) | with_reducible refine ev_if (fun _ => ?_) (fun _ => ?_)))
    all_goals (first | (exfalso; omega) | (refine ⟨?_, ?_, RR_st (by omega) r⟩ <;> first | trivial | omega))
