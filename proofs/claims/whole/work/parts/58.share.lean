/-! ===== shared: one way to share ===== -/
/-- what stays of the trial's floor -/
def CS (n : Nat) (h : MH) : Prop := h 57 0 = (n : Int) ∧ (0 ≤ h 57 5 ∧ h 57 5 ≤ 9999) ∧ ∀ m : Nat, m < n → (1 ≤ h 58 m ∧ h 58 m ≤ 99) ∧ (0 ≤ h 59 m ∧ h 59 m ≤ 64) ∧ (0 ≤ h 60 m ∧ h 60 m ≤ 99 ∧ (0 < h 59 m → 1 ≤ h 60 m)) ∧ (0 ≤ h 61 m ∧ h 61 m ≤ 999)
def SE (n : Nat) (h g : MH) : Prop := g 142 0 = (n : Int) ∧ g 142 2203 = h 57 5 ∧ ∀ m : Nat, m < n → g 142 (8 + 16 * m) = h 58 m ∧ g 142 (8 + 16 * m + 2) = h 59 m ∧ g 142 (8 + 16 * m + 3) = h 60 m ∧ g 142 (8 + 16 * m + 11) = h 61 m
theorem rooms_c {T : Nat} {b M : Int} (hT : T ≤ 5) : ∀ (d fu j : Nat) (h : MH), j + d = T → d < fu → h 56 3 = (T : Int) → ∃ (e : Nat) (h' : MH), F_X9_trySharing_2 fu b M (j : Int) h = F_X9_trySharing_2 (e + 1) b M (T : Int) h' ∧ (∀ k, j ≤ k → k < T → h' 61 k = h 69 k * b) ∧ ∀ c k, ¬ (c = 61 ∧ j ≤ k ∧ k < T) → h' c k = h c k := by
  intro d
  induction d with
  | zero =>
    intro fu j h e1 l1 hT3
    obtain ⟨fu, rfl⟩ : ∃ g, fu = g + 1 := ⟨fu - 1, by omega⟩
    have : j = T := by omega
    subst this
    exact ⟨fu, h, rfl, fun k _ _ => absurd ‹k < j› (by omega), fun _ _ _ => rfl⟩
  | succ d ih =>
    intro fu j h e1 l1 hT3
    obtain ⟨fu, rfl⟩ : ∃ g, fu = g + 1 := ⟨fu - 1, by omega⟩
    have ej : (j : Int) + 1 = ((j + 1 : Nat) : Int) := by omega
    obtain ⟨e, h', a1, a2, a3⟩ := ih fu (j + 1) (hup h 61 j (h 69 j * b)) (by omega) (by omega) (by rw [hup_n _ _ _ _ _ _ (by omega)]; exact hT3)
    refine ⟨e, h', ?_, fun k q1 q2 => ?_, fun c k q => ?_⟩
    · rw [← a1, F_X9_trySharing_2]
      unfold ck
      rw [if_pos (by omega), if_pos (by omega), if_neg (by omega), if_pos (by omega), if_pos (by omega), nx_eq, show ((j : Int)).toNat = j by omega, ej]
    · by_cases q : k = j
      · subst q
        rw [a3 _ _ (by omega), hup_s]
      · rw [a2 k (by omega) q2, hup_n _ _ _ _ _ _ (by omega)]
    · rw [a3 c k (by omega), hup_n _ _ _ _ _ _ (by omega)]
theorem rooms_o {T : Nat} {u b M x5 x6 x8 : Int} {k103 : Int → Int → Int → Int → Int → Int → Int → MH → Option (Int × MH)} (hT : T ≤ 5) (hb : in32 b) : ∀ (d fu j : Nat) (g : MH), j + d = T → d < fu → (∀ k, k < T → in32 (g 151 k)) → ∃ (e : Nat) (g' : MH), F_X12_shared_206 k103 fu u b M (T : Int) x5 x6 x8 (j : Int) g = F_X12_shared_206 k103 (e + 1) u b M (T : Int) x5 x6 x8 (T : Int) g' ∧ (∀ k, j ≤ k → k < T → g' 142 (8 + 16 * k + 11) = g 151 k * b) ∧ ∀ c k, (c = 142 → ∀ i, i < T → j ≤ i → k ≠ 8 + 16 * i + 11) → g' c k = g c k := by
  intro d
  induction d with
  | zero =>
    intro fu j g e1 l1 hu
    obtain ⟨fu, rfl⟩ : ∃ g, fu = g + 1 := ⟨fu - 1, by omega⟩
    have : j = T := by omega
    subst this
    exact ⟨fu, g, rfl, fun k _ _ => absurd ‹k < j› (by omega), fun _ _ _ => rfl⟩
  | succ d ih =>
    intro fu j g e1 l1 hu
    obtain ⟨fu, rfl⟩ : ∃ g, fu = g + 1 := ⟨fu - 1, by omega⟩
    have ej : (j : Int) + 1 = ((j + 1 : Nat) : Int) := by omega
    have uj := hu j (by omega)
    obtain ⟨e, g', a1, a2, a3⟩ := ih fu (j + 1) (hup g 142 (8 + 16 * j + 11) (g 151 j * b)) (by omega) (by omega) (fun k hk => by rw [hup_n _ _ _ _ _ _ (by omega)]; exact hu k hk)
    refine ⟨e, g', ?_, fun k q1 q2 => ?_, fun c k q => ?_⟩
    · rw [← a1, F_X12_shared_206]
      unfold F_X12_machineAt F_X12_machineAt_0 ck
      rw [if_pos (by omega), if_pos (by omega), if_neg (by omega), bind_eq, if_pos (by omega), show ((j : Int)).toNat = j by omega]
      dsimp only
      rw [if_pos uj, if_pos hb, if_pos (by omega), nx_eq, show ((0 : Int) + 8 + 16 * (j : Int) + 11).toNat = 8 + 16 * j + 11 by omega, ej]
    · by_cases q : k = j
      · subst q
        rw [a3 _ _ (by omega), hup_s]
      · rw [a2 k (by omega) q2, hup_n _ _ _ _ _ _ (by omega)]
    · rw [a3 c k (fun x i i1 i2 => q x i i1 (by omega)), hup_n _ _ _ _ _ _ (fun x => q x.1 j (by omega) (by omega) x.2)]
theorem try_l {T n M : Nat} {b : Int} {h : MH} (hn : n = T + 1) (hT : 1 ≤ T ∧ T ≤ 5) (hM : M ≤ 1000) (hb : 1 ≤ b ∧ b ≤ 99) (s : CS n h) (h3 : h 56 3 = (T : Int)) (hu : ∀ k, k < T → 0 ≤ h 69 k ∧ h 69 k ≤ 8) (hm : -1 ≤ h 56 6 ∧ h 56 6 ≤ 594000) :
    ∃ (x : Int) (h1 : MH), F_X9_trySharing b (M : Int) h = some (if x ≤ h 56 6 then h1 else hcp (hup h1 56 6 x) 69 0 68 0 T) ∧ (0 ≤ x ∧ x ≤ 594 * M) ∧ K57 h h1 ∧ CS n h1 ∧
      ∀ (u x5 x6 x8 : Int) (k103 : Int → Int → Int → Int → Int → Int → Int → MH → Option (Int × MH)) (G : MH), in32 x6 → SE n h G → (∀ k, k < T → G 151 k = h 69 k) →
        ∃ G1, ((F_X12_fresh 0 (G 142 2203) G).bind fun q8 => F_X12_shared_206 k103 20000 u b (M : Int) (T : Int) x5 x6 x8 0 q8) = (if x6 < x then F_X12_shared_269 k103 20000 u b (M : Int) (T : Int) x5 x x8 0 G1 else F_X12_shared_296 k103 u b (M : Int) (T : Int) x5 x6 x8 G1) ∧ SE n h1 G1 ∧ ∀ c k, ¬ (c = 142 ∧ k < 440) → G1 c k = G c k := by
  obtain ⟨s1, s2, s3⟩ := s
  obtain ⟨e, hr, a1, a2, a3⟩ := rooms_c (b := b) (M := (M : Int)) hT.2 T 20000 0 h (by omega) (by omega) h3
  have r5 : hr 57 5 = h 57 5 := a3 _ _ (by omega)
  have st := start_eq (f := 57) (x := h 57 5) (h := hr)
  generalize hh : hfl (hfl (hfl (hfl (hfl (hfl (hup (hup (hup hr 57 5 (h 57 5)) 57 6 (h 57 5)) 57 7 0) (57 + 5) 6 0) (57 + 6) 6 (-1)) (57 + 7) 6 0) (57 + 8) 6 0) (57 + 9) 24 0) (57 + 10) 36 0 = h2 at st
  have b0 : h2 57 0 = (n : Int) := by
    rw [← hh]; simp (disch := omega) only [hfl_n, hup_n]; rw [a3 _ _ (by omega)]; exact s1
  have b5 : h2 57 5 = h 57 5 := by
    rw [← hh]; simp (disch := omega) only [hfl_n, hup_n, hup_s]
  have b6 : h2 57 6 = h 57 5 := by
    rw [← hh]; simp (disch := omega) only [hfl_n, hup_n, hup_s]
  have bo : ∀ c k, ¬ (57 ≤ c ∧ c ≤ 67) → h2 c k = h c k := fun c k q => by
    rw [← hh]; simp (disch := omega) only [hfl_n, hup_n]; exact a3 c k (by omega)
  have bs : ∀ c k, 58 ≤ c → c ≤ 60 → h2 c k = h c k := fun c k q1 q2 => by
    rw [← hh]; simp (disch := omega) only [hfl_n, hup_n]; exact a3 c k (by omega)
  have b4 : ∀ k, h2 61 k = hr 61 k := fun k => by
    rw [← hh]; simp (disch := omega) only [hfl_n, hup_n]
  have z5 : ∀ m, m < 6 → h2 (57 + 5) m = 0 := fun m q => by
    rw [← hh]; simp (disch := omega) only [hfl_n, hup_n, hfl_y]
  have z6 : ∀ m, m < 6 → h2 (57 + 6) m = -1 := fun m q => by
    rw [← hh]; simp (disch := omega) only [hfl_n, hup_n, hfl_y]
  have z7 : ∀ m, m < 6 → h2 (57 + 7) m = 0 := fun m q => by
    rw [← hh]; simp (disch := omega) only [hfl_n, hup_n, hfl_y]
  have z8 : ∀ m, m < 6 → h2 (57 + 8) m = 0 := fun m q => by
    rw [← hh]; simp (disch := omega) only [hfl_n, hup_n, hfl_y]
  clear hh
  -- the rooms
  have ro : ∀ m, m < n → 0 ≤ h2 61 m ∧ h2 61 m ≤ 999 := fun m q => by
    rw [b4]
    by_cases c : m < T
    · rw [a2 m (by omega) c]
      have := hu m c
      have p1 : 0 ≤ h 69 m * b := Int.mul_nonneg (by omega) (by omega)
      have p2 : h 69 m * b ≤ 8 * 99 := Int.mul_le_mul (by omega) (by omega) (by omega) (by omega)
      omega
    · rw [a3 _ _ (by omega)]
      exact (s3 m q).2.2.2
  have I : FI False 57 0 0 h2 := by
    refine ⟨by omega, by omega, fun m q => ?_, fun x => x.elim⟩
    have q' : m < n := by omega
    have := s3 m q'
    have := ro m q'
    rw [z5 m (by omega), z7 m (by omega), z8 m (by omega), show 57 + 1 = 58 from rfl, show 57 + 2 = 59 from rfl, show 57 + 3 = 60 from rfl, show 57 + 4 = 61 from rfl, bs 58 m (by omega) (by omega), bs 59 m (by omega) (by omega), bs 60 m (by omega) (by omega)]
    omega
  obtain ⟨h', w1, w2, w3, w4, w5⟩ := would_b (f := 57) (M := M) (by omega) hM b0 I
  have mb := w4 (n - 1)
  have K : K57 h h' := fun c k q => by rw [w3 c k (by unfold CM; omega), bo c k q]
  obtain ⟨x, ex⟩ : ∃ x, x = h' (57 + 7) (n - 1) - h2 (57 + 7) (n - 1) := ⟨_, rfl⟩
  rw [← ex] at w1 w5
  have hs : CS n h' := by
    refine ⟨by rw [w3 _ _ (by unfold CM; omega)]; exact b0, by rw [w3 _ _ (by unfold CM; omega), b5]; exact s2, fun m q => ?_⟩
    have := s3 m q
    rw [w3 58 m (by unfold CM; omega), w3 59 m (by unfold CM; omega), w3 60 m (by unfold CM; omega), w3 61 m (by unfold CM; omega), bs 58 m (by omega) (by omega), bs 59 m (by omega) (by omega), bs 60 m (by omega) (by omega)]
    exact ⟨this.1, this.2.1, this.2.2.1, ro m q⟩
  refine ⟨x, h', ?_, by omega, K, hs, fun u x5 x6 x8 k103 G i6 E U => ?_⟩
  · have k3 : h' 56 3 = (T : Int) := by rw [K _ _ (by omega)]; exact h3
    have k6 : h' 56 6 = h 56 6 := K _ _ (by omega)
    have r3 : hr 56 3 = (T : Int) := by rw [a3 _ _ (by omega)]; exact h3
    unfold F_X9_trySharing F_X9_trySharing_0
    rw [show (0 : Int) = ((0 : Nat) : Int) from rfl, a1, F_X9_trySharing_2]
    unfold ck
    rw [if_pos (by omega), if_pos (by omega), if_pos (by omega), r5, st, bind_eq, w1, bind_eq]
    dsimp only
    rw [if_pos (show in32 x by omega), if_pos (show in32 (h' 56 6) by omega)]
    by_cases c : x ≤ h 56 6
    · rw [if_pos (show x ≤ h' 56 6 by omega), if_pos c]
    · have e3 : hup h' 56 6 x 56 3 = (T : Int) := by rw [hup_n _ _ _ _ _ _ (by omega)]; exact k3
      rw [if_neg (show ¬ x ≤ h' 56 6 by omega), if_neg c, nx_eq, if_pos (by omega), nx_eq, e3]
      rfl
  · obtain ⟨E1, E2, E3⟩ := E
    have fe := fresh_eq (B := 0) (x := G 142 2203) (g := G) (by omega) (by omega)
    rw [show ((0 : Nat) : Int) = 0 from rfl] at fe
    generalize hg : hfr (mI 0 6 0 (hup (hup (hup G 142 (0 + 2) 0) 142 (0 + 3) (G 142 2203)) 142 (0 + 4) (G 142 2203))) 142 (0 + 104) 36 0 = g2 at fe
    have c1 : ∀ c k, ¬ (c = 142 ∧ k < 440) → g2 c k = G c k := fun c k q => by
      rw [← hg, hfr_n _ _ _ _ _ _ _ (by omega), mI_n _ _ _ _ _ (by
        by_cases e : c = 142
        · exact Or.inr (Or.inr (Or.inl (by omega)))
        · exact Or.inl e), hup_n _ _ _ _ _ _ (by omega), hup_n _ _ _ _ _ _ (by omega), hup_n _ _ _ _ _ _ (by omega)]
    have c0 : g2 142 0 = G 142 0 := by
      rw [← hg, hfr_n _ _ _ _ _ _ _ (by omega), mI_n _ _ _ _ _ (Or.inr (Or.inl (by omega))), hup_n _ _ _ _ _ _ (by omega), hup_n _ _ _ _ _ _ (by omega), hup_n _ _ _ _ _ _ (by omega)]
    have c4 : g2 142 4 = h 57 5 := by
      rw [← hg, hfr_n _ _ _ _ _ _ _ (by omega), mI_n _ _ _ _ _ (Or.inr (Or.inl (by omega))), show (4 : Nat) = 0 + 4 from rfl, hup_s]
      exact E2
    have cn : ∀ m i, m < 6 → i < 16 → ¬ mW i → g2 142 (8 + 16 * m + i) = G 142 (8 + 16 * m + i) := fun m i q1 q2 q3 => by
      rw [← hg, hfr_n _ _ _ _ _ _ _ (by omega), mI_n _ _ _ _ _ (Or.inr (Or.inr (Or.inr ⟨m, i, by omega, q2, q3⟩))), hup_n _ _ _ _ _ _ (by omega), hup_n _ _ _ _ _ _ (by omega), hup_n _ _ _ _ _ _ (by omega)]
    have cy : ∀ m i, m < 6 → mW i → g2 142 (8 + 16 * m + i) = if i = 5 then -1 else 0 := fun m i q1 q3 => by
      have := mI_y (B := 0) 6 0 (hup (hup (hup G 142 (0 + 2) 0) 142 (0 + 3) (G 142 2203)) 142 (0 + 4) (G 142 2203)) m i (by omega) (by omega) q3
      rw [Nat.zero_add] at this
      unfold mW at q3
      rw [← hg, hfr_n _ _ _ _ _ _ _ (by omega), this]
    clear hg
    obtain ⟨e', g3, d1, d2, d3⟩ := rooms_o (u := u) (b := b) (M := (M : Int)) (x5 := x5) (x6 := x6) (x8 := x8) (k103 := k103) hT.2 (by omega) T 20000 0 g2 (by omega) (by omega) (fun k hk => by
      rw [c1 _ _ (by omega), U k hk]; have := hu k hk; omega)
    have d11 : ∀ m, m < n → g3 142 (8 + 16 * m + 11) = h2 61 m := fun m q => by
      rw [b4]
      by_cases c : m < T
      · rw [d2 m (by omega) c, a2 m (by omega) c, c1 _ _ (by omega), U m c]
      · rw [d3 _ _ (fun _ i q1 q2 => by omega), cn m 11 (by omega) (by omega) (by unfold mW; omega), a3 _ _ (by omega)]
        exact (E3 m q).2.2.2
    have F : FE False 57 h2 g3 := by
      refine ⟨?_, ?_, fun m q1 q2 => ?_, fun x => x.elim⟩
      · rw [d3 _ _ (fun _ i q1 q2 => by omega), c0, E1, b0]
      · rw [d3 _ _ (fun _ i q1 q2 => by omega), c4, b6]
      · have q : m < n := by omega
        have E := E3 m q
        refine ⟨?_, ?_, ?_, ?_, ?_, ?_, d11 m q, ?_⟩
        · rw [d3 _ _ (fun _ i q1 q2 => by omega), show 8 + 16 * m = 8 + 16 * m + 0 from rfl, cn m 0 q1 (by omega) (by unfold mW; omega), show 57 + 1 = 58 from rfl, bs 58 m (by omega) (by omega)]; exact E.1
        · rw [d3 _ _ (fun _ i q1 q2 => by omega), cn m 2 q1 (by omega) (by unfold mW; omega), show 57 + 2 = 59 from rfl, bs 59 m (by omega) (by omega)]; exact E.2.1
        · rw [d3 _ _ (fun _ i q1 q2 => by omega), cn m 3 q1 (by omega) (by unfold mW; omega), show 57 + 3 = 60 from rfl, bs 60 m (by omega) (by omega)]; exact E.2.2.1
        · rw [d3 _ _ (fun _ i q1 q2 => by omega), cy m 4 q1 (by unfold mW; omega), z5 m q1]; rfl
        · rw [d3 _ _ (fun _ i q1 q2 => by omega), cy m 5 q1 (by unfold mW; omega), z6 m q1]; rfl
        · rw [d3 _ _ (fun _ i q1 q2 => by omega), cy m 6 q1 (by unfold mW; omega), z7 m q1]; rfl
        · rw [d3 _ _ (fun _ i q1 q2 => by omega), cy m 12 q1 (by unfold mW; omega), z8 m q1]; rfl
    obtain ⟨G1, v1, v2, v3⟩ := w5 g3 F
    have X : ∀ c k, ¬ (c = 142 ∧ k < 440) → G1 c k = G c k := fun c k q => by
      rw [OM_big v3 c k q, d3 c k (fun _ i q1 q2 => by omega), c1 c k q]
    refine ⟨G1, ?_, ⟨?_, ?_, fun m q => ?_⟩, X⟩
    · rw [fe, bind_eq, show (0 : Int) = ((0 : Nat) : Int) from rfl, d1, F_X12_shared_206]
      unfold ck
      rw [if_pos (by omega), if_pos (by omega), if_pos (by omega), v1, bind_eq]
      dsimp only
      rw [if_pos (by omega), if_pos (by omega)]
      rfl
    · rw [v3 _ _ (by unfold OM OG O3; omega), d3 _ _ (fun _ i q1 q2 => by omega), c0, E1]
    · rw [X _ _ (by omega), E2, w3 _ _ (by unfold CM; omega), b5]
    · obtain ⟨f1, f2, f3, f4, f5, f6, f7, f8⟩ := v2.2.2.1 m (by omega) (by rw [w3 _ _ (by unfold CM; omega)]; omega)
      exact ⟨f1, f2, f3, f7⟩
