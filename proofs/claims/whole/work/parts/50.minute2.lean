/-! ===== a minute: stops ===== -/
theorem draw_b {x : Int} (hx : 0 ≤ x ∧ x ≤ 65535) : 0 ≤ Int.tmod (x * 3373 + 12289) 65536 ∧ Int.tmod (x * 3373 + 12289) 65536 ≤ 65535 := by
  have h1 : (0:Int) ≤ x * 3373 + 12289 := by omega
  rw [Int.tmod_eq_emod_of_nonneg h1]
  omega
theorem draw_c {y : Int} (hy : 0 ≤ y ∧ y ≤ 65535) : (0 ≤ Int.tdiv y 8 ∧ Int.tdiv y 8 ≤ 8191) ∧ 0 ≤ Int.tmod (Int.tdiv y 8) 64 ∧ Int.tmod (Int.tdiv y 8) 64 < 64 := by
  rw [Int.tdiv_eq_ediv_of_nonneg hy.1, Int.tmod_eq_emod_of_nonneg (by omega)]
  omega
/-- one machine's stop: the class's -/
theorem st_c {q : Prop} {f m : Nat} {A C : Int} {h : MH} (hf : f < 100) (hm : m < 6) (r : FI q f A C h) (hl : (m : Int) < h f 0) :
    (0 < h (f + 5) m ∧ F_X1_standsStill f (m : Int) h = some (1, hup h (f + 5) m (h (f + 5) m - 1))) ∨
    (h (f + 5) m ≤ 0 ∧ h (f + 2) m = 0 ∧ F_X1_standsStill f (m : Int) h = some (0, h)) ∨
    (h (f + 5) m ≤ 0 ∧ 0 < h (f + 2) m ∧ ∃ y d : Int, y = Int.tmod (h f 6 * 3373 + 12289) 65536 ∧ (0 ≤ y ∧ y ≤ 65535) ∧ d = Int.tmod (Int.tdiv y 8) 64 ∧
      ((d < h (f + 2) m ∧ F_X1_standsStill f (m : Int) h = some (1, hup (hup h f 6 y) (f + 5) m (h (f + 3) m - 1))) ∨
       (h (f + 2) m ≤ d ∧ F_X1_standsStill f (m : Int) h = some (0, hup h f 6 y)))) := by
  obtain ⟨r1, r2, r3, r4⟩ := r
  have b := r3 m hl
  have et : ((m : Int)).toNat = m := by omega
  unfold F_X1_standsStill F_X1_standsStill_0 F_X1_draw F_X1_draw_0 ck
  rw [if_pos (by omega), et, if_pos (by omega)]
  by_cases c1 : h (f + 5) m ≤ 0
  · rw [if_pos c1, if_pos (by omega)]
    right
    by_cases c2 : h (f + 2) m = 0
    · rw [if_pos c2]
      exact Or.inl ⟨c1, c2, rfl⟩
    · rw [if_neg c2]
      right
      have e1 := draw_b r2
      have e2 := draw_c e1
      refine ⟨c1, by omega, _, _, rfl, e1, rfl, ?_⟩
      rw [if_pos (by omega)]
      simp only [nx_eq, hup_s]
      rw [if_pos (by omega), if_pos (by omega)]
      simp (disch := omega) only [bind_eq, hup_n]
      rw [if_pos (by omega), if_pos (by omega)]
      by_cases c3 : Int.tmod (Int.tdiv (Int.tmod (h f 6 * 3373 + 12289) 65536) 8) 64 < h (f + 2) m
      · rw [if_pos c3]; exact Or.inl ⟨c3, rfl⟩
      · rw [if_neg c3]; exact Or.inr ⟨by omega, rfl⟩
  · rw [if_neg c1]
    exact Or.inl ⟨by omega, rfl⟩
/-- .. and the other's -/
theorem st_o {q : Prop} {f m : Nat} {A C : Int} {h g : MH} (hf : f < 100) (hm : m < 6) (r : FI q f A C h) (hl : (m : Int) < h f 0) (e : FE q f h g) :
    (0 < h (f + 5) m → F_X12_stops (m : Int) g = some (hup (hup (hup g 142 (8 + 16 * m + 5) 0) 142 (8 + 16 * m + 4) (h (f + 5) m - 1)) 142 (8 + 16 * m + 5) 3)) ∧
    (h (f + 5) m ≤ 0 → h (f + 2) m = 0 → F_X12_stops (m : Int) g = some (hup g 142 (8 + 16 * m + 5) 0)) ∧
    (h (f + 5) m ≤ 0 → 0 < h (f + 2) m → ∀ y d : Int, y = Int.tmod (h f 6 * 3373 + 12289) 65536 → (0 ≤ y ∧ y ≤ 65535) → d = Int.tmod (Int.tdiv y 8) 64 →
      ((d < h (f + 2) m → F_X12_stops (m : Int) g = some (hup (hup (hup (hup g 142 (8 + 16 * m + 5) 0) 142 4 y) 142 (8 + 16 * m + 4) (h (f + 3) m - 1)) 142 (8 + 16 * m + 5) 3)) ∧
       (h (f + 2) m ≤ d → F_X12_stops (m : Int) g = some (hup (hup g 142 (8 + 16 * m + 5) 0) 142 4 y)))) := by
  obtain ⟨r1, r2, r3, r4⟩ := r
  obtain ⟨e1, e2, e3, e4⟩ := e
  have b := r3 m hl
  obtain ⟨x0, x1, x2, x3, x4, x5, x6, x7⟩ := e3 m hm hl
  have t2 : ((0 : Int) + 8 + 16 * (m : Int) + 2).toNat = 8 + 16 * m + 2 := by omega
  have t3 : ((0 : Int) + 8 + 16 * (m : Int) + 3).toNat = 8 + 16 * m + 3 := by omega
  have t4 : ((0 : Int) + 8 + 16 * (m : Int) + 4).toNat = 8 + 16 * m + 4 := by omega
  have t5 : ((0 : Int) + 8 + 16 * (m : Int) + 5).toNat = 8 + 16 * m + 5 := by omega
  have u : F_X12_stops (m : Int) g = F_X12_stops_24 (0 + 8 + 16 * (m : Int)) (if h (f + 5) m ≤ 0 then 0 else 1) g := by
    unfold F_X12_stops F_X12_stops_0 F_X12_machineAt F_X12_machineAt_0 ck
    simp only [bind_eq, t4, x3]
    rw [if_pos (by omega), if_pos (by omega)]
    by_cases c1 : h (f + 5) m ≤ 0
    · rw [if_pos c1, if_pos c1]
    · rw [if_neg c1, if_neg c1]
  have n2 : hup g 142 (8 + 16 * m + 5) 0 142 (8 + 16 * m + 2) = h (f + 2) m := by rw [hup_n _ _ _ _ _ _ (by omega)]; exact x1
  have n4 : hup g 142 (8 + 16 * m + 5) 0 142 (8 + 16 * m + 4) = h (f + 5) m := by rw [hup_n _ _ _ _ _ _ (by omega)]; exact x3
  have ns : hup g 142 (8 + 16 * m + 5) 0 142 4 = h f 6 := by rw [hup_n _ _ _ _ _ _ (by omega)]; exact e2
  have v : ∀ s0, F_X12_stops_24 (0 + 8 + 16 * (m : Int)) s0 g = (if in32 s0 then (if s0 = 0 then (if h (f + 2) m ≤ 0 then F_X12_stops_104 (0 + 8 + 16 * (m : Int)) s0 (hup g 142 (8 + 16 * m + 5) 0) else (F_X12_draw 64 (hup g 142 (8 + 16 * m + 5) 0)).bind fun q8 => ck (in64 q8.1) <| ck (in64 (q8.2 142 (8 + 16 * m + 2))) <|
      if (q8.2 142 (8 + 16 * m + 2)) ≤ q8.1 then F_X12_stops_104 (0 + 8 + 16 * (m : Int)) s0 q8.2 else F_X12_stops_104 (0 + 8 + 16 * (m : Int)) 1 (hup q8.2 142 (8 + 16 * m + 4) ((q8.2 142 (8 + 16 * m + 3)) - 1))) else F_X12_stops_104 (0 + 8 + 16 * (m : Int)) s0 (hup (hup g 142 (8 + 16 * m + 5) 0) 142 (8 + 16 * m + 4) (h (f + 5) m - 1))) else none) := by
    intro s0
    unfold F_X12_stops_24
    simp only [nx_eq, t2, t3, t4, t5]
    unfold ck
    simp only [n2, n4]
    rw [if_pos (show 0 ≤ (0 : Int) + 8 + 16 * (m : Int) + 5 ∧ (0 : Int) + 8 + 16 * (m : Int) + 5 < 2640 by omega), if_pos (show 0 ≤ (0 : Int) + 8 + 16 * (m : Int) + 2 ∧ (0 : Int) + 8 + 16 * (m : Int) + 2 < 2640 by omega), if_pos (show 0 ≤ (0 : Int) + 8 + 16 * (m : Int) + 4 ∧ (0 : Int) + 8 + 16 * (m : Int) + 4 < 2640 by omega), if_pos (show in64 (h (f + 2) m) by omega)]
    simp only [if_pos (show 0 ≤ (0 : Int) + 8 + 16 * (m : Int) + 3 ∧ (0 : Int) + 8 + 16 * (m : Int) + 3 < 2640 by omega), if_pos (show 0 ≤ (0 : Int) + 8 + 16 * (m : Int) + 4 ∧ (0 : Int) + 8 + 16 * (m : Int) + 4 < 2640 by omega)]
  have w0 : ∀ k, F_X12_stops_104 (0 + 8 + 16 * (m : Int)) 0 k = some k := fun k => by
    unfold F_X12_stops_104 ck
    rw [if_pos (by omega), if_pos rfl]
  have w1 : ∀ k, F_X12_stops_104 (0 + 8 + 16 * (m : Int)) 1 k = some (hup k 142 (8 + 16 * m + 5) 3) := fun k => by
    unfold F_X12_stops_104 ck
    rw [if_pos (by omega), if_neg (by omega), if_pos (by omega), t5]
    rfl
  have dr : ∀ y d : Int, y = Int.tmod (h f 6 * 3373 + 12289) 65536 → (0 ≤ y ∧ y ≤ 65535) → d = Int.tmod (Int.tdiv y 8) 64 → F_X12_draw 64 (hup g 142 (8 + 16 * m + 5) 0) = some (d, hup (hup g 142 (8 + 16 * m + 5) 0) 142 4 y) := by
    intro y d hy yb hd
    have z := draw_c yb
    unfold F_X12_draw F_X12_draw_0 ck
    simp only [nx_eq, ns, hup_s]
    rw [← hy, ← hd, if_pos (by omega), if_pos (by omega), if_pos (by omega), if_pos (by omega), if_pos (by omega)]
  rw [u]
  refine ⟨fun c1 => ?_, fun c1 c2 => ?_, fun c1 c2 y d hy yb hd => ?_⟩
  · rw [if_neg (by omega), v, if_pos (by omega), if_neg (by omega), w1]
  · rw [if_pos (by omega), v, if_pos (by omega), if_pos (by omega), if_pos (by omega), w0]
  · have z := draw_c yb
    rw [if_pos (by omega), v, if_pos (by omega), if_pos (by omega), if_neg (by omega), dr y d hy yb hd]
    have k2 : hup (hup g 142 (8 + 16 * m + 5) 0) 142 4 y 142 (8 + 16 * m + 2) = h (f + 2) m := by rw [hup_n _ _ _ _ _ _ (by omega)]; exact n2
    have k3 : hup (hup g 142 (8 + 16 * m + 5) 0) 142 4 y 142 (8 + 16 * m + 3) = h (f + 3) m := by rw [hup_n _ _ _ _ _ _ (by omega), hup_n _ _ _ _ _ _ (by omega)]; exact x2
    simp only [bind_eq, k2, k3]
    unfold ck
    rw [if_pos (by omega), if_pos (by omega)]
    refine ⟨fun c3 => ?_, fun c3 => ?_⟩
    · rw [if_neg (by omega), w1]
    · rw [if_pos (by omega), w0]
theorem st_l {q : Prop} {f m : Nat} {A C : Int} {h : MH} (hf : f < 100) (hm : m < 6) (r : FI q f A C h) (hl : (m : Int) < h f 0) :
    ∃ (b w : Int) (h1 : MH), F_X1_standsStill f (m : Int) h = some (b, h1) ∧ ((b = 0 ∧ w = 0) ∨ (b = 1 ∧ w = 3)) ∧ FI q f A C (hup h1 (f + 6) m w) ∧ Ag (CG f) h (hup h1 (f + 6) m w) ∧ (∀ k, k ≠ m → hup h1 (f + 6) m w (f + 6) k = h (f + 6) k) ∧ (∀ k, hup h1 (f + 6) m w (f + 7) k = h (f + 7) k) ∧
      ∀ g, FE q f h g → ∃ g', F_X12_stops (m : Int) g = some g' ∧ FE q f (hup h1 (f + 6) m w) g' ∧ Ag OG g g' := by
  have b := r.2.2.1 m hl
  rcases st_c hf hm r hl with ⟨c1, e⟩ | ⟨c1, c2, e⟩ | ⟨c1, c2, y, d, hy, yb, hd, ⟨c3, e⟩ | ⟨c3, e⟩⟩
  · refine ⟨1, 3, _, e, Or.inr ⟨rfl, rfl⟩, FI_6 (FI_5 (by omega) r), ?_, fun k hk => ?_, fun k => ?_, fun g x => ⟨_, (st_o hf hm r hl x).1 c1, ?_, ?_⟩⟩
    · exact (Ag.rf.up (by unfold CG; omega)).up (by unfold CG; omega)
    · rw [hup_n _ _ _ _ _ _ (by omega), hup_n _ _ _ _ _ _ (by omega)]
    · rw [hup_n _ _ _ _ _ _ (by omega), hup_n _ _ _ _ _ _ (by omega)]
    · have z := FE_6 (v := 3) hf hm (FE_5 (v := h (f + 5) m - 1) hf hm (FE_6 (v := 0) hf hm x))
      rw [hup_comm h (f + 6) m (f + 5) m _ _ (by omega), hup_hup] at z
      exact z
    · exact ((Ag.rf.up (by unfold OG; omega)).up (by unfold OG; omega)).up (by unfold OG; omega)
  · refine ⟨0, 0, _, e, Or.inl ⟨rfl, rfl⟩, FI_6 r, ?_, fun k hk => ?_, fun k => ?_, fun g x => ⟨_, (st_o hf hm r hl x).2.1 c1 c2, ?_, ?_⟩⟩
    · exact Ag.rf.up (by unfold CG; omega)
    · rw [hup_n _ _ _ _ _ _ (by omega)]
    · rw [hup_n _ _ _ _ _ _ (by omega)]
    · exact FE_6 (v := 0) hf hm x
    · exact Ag.rf.up (by unfold OG; omega)
  · refine ⟨1, 3, _, e, Or.inr ⟨rfl, rfl⟩, FI_6 (FI_5 (by omega) (FI_seed yb r)), ?_, fun k hk => ?_, fun k => ?_, fun g x => ⟨_, ((st_o hf hm r hl x).2.2 c1 c2 y d hy yb hd).1 c3, ?_, ?_⟩⟩
    · exact ((Ag.rf.up (by unfold CG; omega)).up (by unfold CG; omega)).up (by unfold CG; omega)
    · rw [hup_n _ _ _ _ _ _ (by omega), hup_n _ _ _ _ _ _ (by omega), hup_n _ _ _ _ _ _ (by omega)]
    · rw [hup_n _ _ _ _ _ _ (by omega), hup_n _ _ _ _ _ _ (by omega), hup_n _ _ _ _ _ _ (by omega)]
    · have z := FE_6 (v := 3) hf hm (FE_5 (v := h (f + 3) m - 1) hf hm (FE_seed (v := y) hf (FE_6 (v := 0) hf hm x)))
      rw [hup_comm h (f + 6) m f 6 _ _ (by omega), hup_comm _ (f + 6) m (f + 5) m _ _ (by omega), hup_hup] at z
      exact z
    · exact (((Ag.rf.up (by unfold OG; omega)).up (by unfold OG; omega)).up (by unfold OG; omega)).up (by unfold OG; omega)
  · refine ⟨0, 0, _, e, Or.inl ⟨rfl, rfl⟩, FI_6 (FI_seed yb r), ?_, fun k hk => ?_, fun k => ?_, fun g x => ⟨_, ((st_o hf hm r hl x).2.2 c1 c2 y d hy yb hd).2 c3, ?_, ?_⟩⟩
    · exact (Ag.rf.up (by unfold CG; omega)).up (by unfold CG; omega)
    · rw [hup_n _ _ _ _ _ _ (by omega), hup_n _ _ _ _ _ _ (by omega)]
    · rw [hup_n _ _ _ _ _ _ (by omega), hup_n _ _ _ _ _ _ (by omega)]
    · have z := FE_seed (v := y) hf (FE_6 (v := 0) hf hm x)
      rw [hup_comm h (f + 6) m f 6 _ _ (by omega)] at z
      exact z
    · exact (Ag.rf.up (by unfold OG; omega)).up (by unfold OG; omega)
theorem CG_0 {f : Nat} : CG f f 0 := by unfold CG; omega
/-- the first loop -/
theorem mlp1 {q : Prop} {f n : Nat} {A C : Int} (hf : f < 100) : ∀ (d fu fu' m : Nat) (h : MH), m + d = n → d < fu → d < fu' → h f 0 = (n : Int) → FI q f A C h → FS f (fun k s => k < m → s = 0 ∨ s = 3) h →
    ∃ h', F_X1_goOn_2 fu f (m : Int) h = F_X1_goOn_42 20000 f ((n : Int) - 1) h' ∧ FI q f A C h' ∧ FS f (fun _ s => s = 0 ∨ s = 3) h' ∧ Ag (CG f) h h' ∧ (∀ k, h' (f + 7) k = h (f + 7) k) ∧
      ∀ g, FE q f h g → ∃ g', F_X12_minute_12 fu' ((n : Int) - 1) (m : Int) g = F_X12_minute_30 20000 ((n : Int) - 1) ((n : Int) - 1) g' ∧ FE q f h' g' ∧ Ag OG g g' := by
  intro d
  induction d with
  | zero =>
    intro fu fu' m h e1 l1 l2 hn r s
    obtain ⟨fu, rfl⟩ : ∃ g, fu = g + 1 := ⟨fu - 1, by omega⟩
    obtain ⟨fu', rfl⟩ : ∃ g, fu' = g + 1 := ⟨fu' - 1, by omega⟩
    have r1 := r.1
    refine ⟨h, ?_, r, fun k hk => s k hk (by omega), Ag.rf, fun _ => rfl, fun g x => ⟨g, ?_, x, Ag.rf⟩⟩
    · rw [F_X1_goOn_2]
      unfold ck
      rw [if_pos (by omega), if_pos (by omega), if_pos (by omega), nx_eq, hn]
    · rw [F_X12_minute_12]
      unfold ck
      rw [if_pos (by omega), if_pos (by omega), if_pos (by omega)]
  | succ d ih =>
    intro fu fu' m h e1 l1 l2 hn r s
    obtain ⟨fu, rfl⟩ : ∃ g, fu = g + 1 := ⟨fu - 1, by omega⟩
    obtain ⟨fu', rfl⟩ : ∃ g, fu' = g + 1 := ⟨fu' - 1, by omega⟩
    have r1 := r.1
    obtain ⟨b, w, h1, k1, k2, k3, k4, k5, k7, k6⟩ := st_l hf (show m < 6 by omega) r (by omega)
    have hn' : hup h1 (f + 6) m w f 0 = (n : Int) := by rw [k4 f 0 CG_0]; exact hn
    obtain ⟨h', j1, j2, j3, j4, j7, j5⟩ := ih fu fu' (m + 1) _ (by omega) (by omega) (by omega) hn' k3 (fun k hk hkm => by
      by_cases e : k = m
      · subst e; rw [hup_s]; omega
      · rw [k5 k e]; exact s k (by omega) (by omega))
    have et : ((m : Int)).toNat = m := by omega
    refine ⟨h', ?_, j2, j3, k4.tr j4, fun k => by rw [j7, k7], fun g x => ?_⟩
    · rw [← j1, F_X1_goOn_2]
      unfold ck
      rw [if_pos (by omega), if_pos (by omega), if_neg (by omega), k1, bind_eq]
      dsimp only
      rw [if_pos (by omega)]
      unfold F_X1_goOn_28 ck
      rcases k2 with ⟨rfl, rfl⟩ | ⟨rfl, rfl⟩
      · rw [if_pos rfl, if_pos (by omega), nx_eq, et]; rfl
      · rw [if_neg (by omega), if_pos (by omega), nx_eq, et]; rfl
    · obtain ⟨g1, y1, y2, y3⟩ := k6 g x
      obtain ⟨g', z1, z2, z3⟩ := j5 g1 y2
      refine ⟨g', ?_, z2, y3.tr z3⟩
      rw [← z1, F_X12_minute_12]
      unfold ck
      rw [if_pos (by omega), if_pos (by omega), if_neg (by omega), y1, bind_eq]
      rfl
