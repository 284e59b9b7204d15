/-! ===== shared: all ways, in one order on both sides ===== -/
def dV (b : Nat) (d : Nat → Nat) : Nat → Nat
  | 0 => 0
  | t + 1 => dV b d t * b + d t
def dS (d : Nat → Nat) : Nat → Nat
  | 0 => 0
  | t + 1 => dS d t + d t
def dgU (d : Nat → Nat) (t v : Nat) : Nat → Nat := fun k => if k = t then v else d k
theorem dgU_s (d : Nat → Nat) (t v : Nat) : dgU d t v t = v := if_pos rfl
theorem dgU_n (d : Nat → Nat) (t v k : Nat) (h : k ≠ t) : dgU d t v k = d k := if_neg h
theorem dV_e {b : Nat} {d d' : Nat → Nat} : ∀ t, (∀ k, k < t → d' k = d k) → dV b d' t = dV b d t
  | 0, _ => rfl
  | t + 1, h => by rw [dV, dV, dV_e t (fun k hk => h k (by omega)), h t (by omega)]
theorem dS_e {d d' : Nat → Nat} : ∀ t, (∀ k, k < t → d' k = d k) → dS d' t = dS d t
  | 0, _ => rfl
  | t + 1, h => by rw [dS, dS, dS_e t (fun k hk => h k (by omega)), h t (by omega)]
theorem dV_u {b t v : Nat} {d : Nat → Nat} : dV b (dgU d t v) (t + 1) = dV b d t * b + v := by
  rw [dV, dV_e t (fun k hk => dgU_n d t v k (by omega)), dgU_s]
theorem dS_u {t v : Nat} {d : Nat → Nat} : dS (dgU d t v) (t + 1) = dS d t + v := by
  rw [dS, dS_e t (fun k hk => dgU_n d t v k (by omega)), dgU_s]
theorem dV_lt {b : Nat} {d : Nat → Nat} : ∀ t, (∀ k, k < t → d k < b) → dV b d t < b ^ t
  | 0, _ => by rw [dV, Nat.pow_zero]; omega
  | t + 1, h => by
    have a := dV_lt t (fun k hk => h k (by omega))
    have c := h t (by omega)
    rw [dV, Nat.pow_succ]
    have : (dV b d t + 1) * b ≤ b ^ t * b := Nat.mul_le_mul_right b a
    rw [Nat.add_mul] at this
    omega
theorem pow_b {b t : Nat} (hb : 1 ≤ b) (h9 : b ≤ 9) (ht : t ≤ 4) : b ^ t ≤ 6561 := by
  have a : b ^ t ≤ b ^ 4 := Nat.pow_le_pow_right hb ht
  have c : b ^ 4 ≤ 9 ^ 4 := Nat.pow_le_pow_left h9 4
  omega
theorem dS_b {d : Nat → Nat} {b : Nat} (hb : b ≤ 9) : ∀ t, (∀ k, k < t → d k < b) → dS d t ≤ 9 * t
  | 0, _ => by rw [dS]; omega
  | t + 1, h => by
    have a := dS_b hb t (fun k hk => h k (by omega))
    have c := h t (by omega)
    rw [dS]; omega
theorem tdm {q r b : Nat} (h : r < b) : Int.tmod ((q * b + r : Nat) : Int) (b : Int) = (r : Int) ∧ Int.tdiv ((q * b + r : Nat) : Int) (b : Int) = (q : Int) := by
  rw [Int.tmod_eq_emod_of_nonneg (by omega), Int.tdiv_eq_ediv_of_nonneg (by omega)]
  constructor
  · rw [← Int.natCast_emod, Nat.add_comm, Nat.add_mul_mod_self_right, Nat.mod_eq_of_lt h]
  · rw [← Int.natCast_ediv, Nat.add_comm, Nat.add_mul_div_right _ _ (by omega), Nat.div_eq_of_lt h, Nat.zero_add]
/-- the other reads a number's places -/
theorem dec_l {u T : Nat} {d : Nat → Nat} {bo M x5 x6 x8 : Int} {k103 : Int → Int → Int → Int → Int → Int → Int → MH → Option (Int × MH)} (hu : u ≤ 8) : ∀ (j fu acc : Nat) (g : MH), j ≤ 4 → j < fu → (∀ k, k < j → d k < u + 1) →
    ∃ (e : Nat) (g' : MH), F_X12_shared_123 k103 fu (u : Int) bo M (T : Int) x5 x6 x8 ((dV (u + 1) d j : Nat) : Int) (acc : Int) ((j : Int) - 1) g = F_X12_shared_123 k103 (e + 1) (u : Int) bo M (T : Int) x5 x6 x8 0 ((acc + dS d j : Nat) : Int) (-1) g' ∧ (∀ k, k < j → g' 151 k = (d k : Int)) ∧ ∀ c k, ¬ (c = 151 ∧ k < j) → g' c k = g c k := by
  intro j
  induction j with
  | zero =>
    intro fu acc g h4 l1 hd
    obtain ⟨fu, rfl⟩ : ∃ g, fu = g + 1 := ⟨fu - 1, by omega⟩
    exact ⟨fu, g, rfl, fun k hk => absurd hk (by omega), fun _ _ _ => rfl⟩
  | succ j ih =>
    intro fu acc g h4 l1 hd
    obtain ⟨fu, rfl⟩ : ∃ g, fu = g + 1 := ⟨fu - 1, by omega⟩
    have hj := hd j (by omega)
    obtain ⟨e, g', a1, a2, a3⟩ := ih fu (acc + d j) (hup g 151 j (d j : Int)) (by omega) (by omega) (fun k hk => hd k (by omega))
    obtain ⟨t1, t2⟩ := tdm (q := dV (u + 1) d j) (r := d j) (b := u + 1) hj
    have vb : dV (u + 1) d (j + 1) < 6561 := Nat.lt_of_lt_of_le (dV_lt (j + 1) hd) (pow_b (by omega) (by omega) h4)
    refine ⟨e, g', ?_, fun k hk => ?_, fun c k q => ?_⟩
    · rw [show acc + dS d (j + 1) = acc + d j + dS d j by rw [dS]; omega, ← a1, F_X12_shared_123]
      unfold ck
      have e1 : ((j + 1 : Nat) : Int) - 1 = (j : Int) := by omega
      have e2 : (u : Int) + 1 = ((u + 1 : Nat) : Int) := by omega
      rw [e1, if_pos (by omega), if_neg (by omega), if_pos (by omega), if_pos (by omega), if_pos (by omega), if_pos (by omega), nx_eq, nx_eq, if_pos (by omega), nx_eq, show ((j : Int)).toNat = j by omega, e2, dV, t1, t2, hup_s]
      rfl
    · by_cases q : k = j
      · subst q; rw [a3 _ _ (by omega), hup_s]
      · exact a2 k (by omega)
    · rw [a3 c k (by omega), hup_n _ _ _ _ _ _ (by omega)]
/-- .. and one number of the row -/
theorem one_o {u T f : Nat} {d : Nat → Nat} {bo x6 : Int} {M : Nat} {G : MH} (hu : u ≤ 8) (hT : 1 ≤ T ∧ T ≤ 5) (hd : ∀ k, k < T - 1 → d k < u + 1) :
    ∃ g', (∀ k, k < T - 1 → g' 151 k = (d k : Int)) ∧ (∀ c k, c ≠ 151 → g' c k = G c k) ∧
      F_X12_shared_103 (f + 1) (u : Int) bo (M : Int) (T : Int) (((u + 1) ^ (T - 1) : Nat) : Int) x6 ((dV (u + 1) d (T - 1) : Nat) : Int) G =
        (if dS d (T - 1) ≤ u then (F_X12_fresh 0 (hup g' 151 (T - 1) ((u : Int) - (dS d (T - 1) : Nat)) 142 2203) (hup g' 151 (T - 1) ((u : Int) - (dS d (T - 1) : Nat)))).bind fun q8 => F_X12_shared_206 (F_X12_shared_103 f) 20000 (u : Int) bo (M : Int) (T : Int) (((u + 1) ^ (T - 1) : Nat) : Int) x6 ((dV (u + 1) d (T - 1) : Nat) : Int) 0 q8
         else F_X12_shared_103 f (u : Int) bo (M : Int) (T : Int) (((u + 1) ^ (T - 1) : Nat) : Int) x6 ((dV (u + 1) d (T - 1) + 1 : Nat) : Int) g') := by
  obtain ⟨e, g', a1, a2, a3⟩ := dec_l (T := T) (d := d) (bo := bo) (M := (M : Int)) (x5 := (((u + 1) ^ (T - 1) : Nat) : Int)) (x6 := x6) (x8 := ((dV (u + 1) d (T - 1) : Nat) : Int)) (k103 := F_X12_shared_103 f) hu (T - 1) 20000 0 G (by omega) (by omega) hd
  have v1 := dV_lt (T - 1) hd
  have v2 := pow_b (b := u + 1) (t := T - 1) (by omega) (by omega) (by omega)
  have v3 := dS_b (b := u + 1) (by omega) (T - 1) hd
  refine ⟨g', a2, fun c k q => a3 c k (by omega), ?_⟩
  rw [F_X12_shared_103]
  unfold ck
  rw [if_pos (by omega), if_pos (by omega), if_neg (by omega), nx_eq]
  rw [show ((T : Int) - 2) = ((T - 1 : Nat) : Int) - 1 by omega, show (0 : Int) = ((0 : Nat) : Int) from rfl, a1, F_X12_shared_123]
  unfold ck
  rw [if_pos (by omega), if_pos (by omega), if_pos (by omega), if_pos (by omega), Nat.zero_add]
  by_cases c : dS d (T - 1) ≤ u
  · rw [if_pos c, if_pos (by omega), if_pos (by omega), nx_eq, show ((T : Int) - 1).toNat = T - 1 by omega]
    rfl
  · rw [if_neg c, if_neg (by omega)]
    unfold F_X12_shared_296
    rw [show ((dV (u + 1) d (T - 1) : Nat) : Int) + 1 = ((dV (u + 1) d (T - 1) + 1 : Nat) : Int) by omega]
def C151 (g g' : MH) : Prop := ∀ c k, c ≠ 151 → g' c k = g c k
theorem C151.tr {a b c : MH} (x : C151 a b) (y : C151 b c) : C151 a c := fun i k e => (y i k e).trans (x i k e)
/-- numbers whose places hold too much are passed over -/
theorem skip_i {u T t p : Nat} {d : Nat → Nat} {bo x6 : Int} {M : Nat} {x5 : Int}
    (H : ∀ v, v < u + 1 → u < dS d t + v → ∀ f G, ∃ G', F_X12_shared_103 (f + p) (u : Int) bo (M : Int) (T : Int) x5 x6 (((dV (u + 1) d t * (u + 1) + v) * p : Nat) : Int) G = F_X12_shared_103 f (u : Int) bo (M : Int) (T : Int) x5 x6 (((dV (u + 1) d t * (u + 1) + v + 1) * p : Nat) : Int) G' ∧ C151 G G') :
    ∀ (e i f : Nat) (G : MH), i + e = u + 1 → u < dS d t + i → ∃ G', F_X12_shared_103 (f + e * p) (u : Int) bo (M : Int) (T : Int) x5 x6 (((dV (u + 1) d t * (u + 1) + i) * p : Nat) : Int) G = F_X12_shared_103 f (u : Int) bo (M : Int) (T : Int) x5 x6 (((dV (u + 1) d t + 1) * (p * (u + 1)) : Nat) : Int) G' ∧ C151 G G' := by
  intro e
  induction e with
  | zero =>
    intro i f G h1 h2
    have : i = u + 1 := by omega
    subst this
    refine ⟨G, ?_, fun _ _ _ => rfl⟩
    rw [Nat.zero_mul, Nat.add_zero, show (dV (u + 1) d t + 1) * (p * (u + 1)) = (dV (u + 1) d t * (u + 1) + (u + 1)) * p by rw [Nat.mul_comm p, ← Nat.mul_assoc, Nat.add_mul _ 1 (u + 1), Nat.one_mul]]
  | succ e ih =>
    intro i f G h1 h2
    obtain ⟨G1, a1, a2⟩ := H i (by omega) h2 (f + e * p) G
    obtain ⟨G', b1, b2⟩ := ih (i + 1) f G1 (by omega) (by omega)
    refine ⟨G', ?_, a2.tr b2⟩
    rw [← b1, ← Nat.add_assoc (dV (u + 1) d t * (u + 1)) i 1, ← a1, Nat.add_mul, Nat.one_mul, Nat.add_assoc]
theorem skip_l {u T M : Nat} {bo x6 : Int} (hu : u ≤ 8) (hT : 1 ≤ T ∧ T ≤ 5) : ∀ (r t : Nat) (d : Nat → Nat), t + r + 1 = T → (∀ k, k < t → d k < u + 1) → u < dS d t → ∀ (f : Nat) (G : MH),
    ∃ G', F_X12_shared_103 (f + (u + 1) ^ r) (u : Int) bo (M : Int) (T : Int) (((u + 1) ^ (T - 1) : Nat) : Int) x6 ((dV (u + 1) d t * (u + 1) ^ r : Nat) : Int) G = F_X12_shared_103 f (u : Int) bo (M : Int) (T : Int) (((u + 1) ^ (T - 1) : Nat) : Int) x6 (((dV (u + 1) d t + 1) * (u + 1) ^ r : Nat) : Int) G' ∧ C151 G G' := by
  intro r
  induction r with
  | zero =>
    intro t d e hd hs f G
    have et : t = T - 1 := by omega
    subst et
    obtain ⟨g', a1, a2, a3⟩ := one_o (f := f) (d := d) (bo := bo) (x6 := x6) (M := M) (G := G) hu hT hd
    refine ⟨g', ?_, a2⟩
    rw [Nat.pow_zero, Nat.mul_one, Nat.mul_one, a3, if_neg (by omega)]
  | succ r ih =>
    intro t d e hd hs f G
    have H := skip_i (u := u) (T := T) (t := t) (p := (u + 1) ^ r) (d := d) (bo := bo) (x6 := x6) (M := M) (x5 := (((u + 1) ^ (T - 1) : Nat) : Int)) (fun v hv hs f G => by
      have z := ih (t + 1) (dgU d t v) (by omega) (fun k hk => by
        by_cases q : k = t
        · subst q; rw [dgU_s]; exact hv
        · rw [dgU_n _ _ _ _ q]; exact hd k (by omega)) (by rw [dS_u]; exact hs) f G
      rw [dV_u] at z
      exact z) (u + 1) 0 f G (by omega) (by omega)
    obtain ⟨G', a1, a2⟩ := H
    refine ⟨G', ?_, a2⟩
    have e1 : dV (u + 1) d t * ((u + 1) ^ r * (u + 1)) = (dV (u + 1) d t * (u + 1) + 0) * (u + 1) ^ r := by simp only [Nat.add_zero, Nat.mul_comm ((u + 1) ^ r) (u + 1), Nat.mul_assoc]
    have e2 : f + (u + 1) ^ r * (u + 1) = f + (u + 1) * (u + 1) ^ r := by rw [Nat.mul_comm]
    rw [Nat.pow_succ, e1, e2]
    exact a1
/-! the two sides together -/
def CI (T n M : Nat) (h : MH) : Prop := CS n h ∧ h 56 3 = (T : Int) ∧ (-1 ≤ h 56 6 ∧ h 56 6 ≤ 594 * M) ∧ (0 ≤ h 56 6 → ∀ k, k < T → 0 ≤ h 68 k ∧ h 68 k ≤ 8)
def OI (T n : Nat) (h : MH) (x6 : Int) (G : MH) : Prop := SE n h G ∧ x6 = h 56 6 ∧ (0 ≤ h 56 6 → ∀ k, k < T → G 152 k = h 68 k)
def CF (h h' : MH) : Prop := ∀ c k, ¬ (57 ≤ c ∧ c ≤ 69) → ¬ (c = 56 ∧ k = 6) → h' c k = h c k
def OF (g g' : MH) : Prop := ∀ c k, ¬ (c = 142 ∧ k < 440) → c ≠ 151 → c ≠ 152 → g' c k = g c k
theorem CF.tr {a b c : MH} (x : CF a b) (y : CF b c) : CF a c := fun i k e e2 => (y i k e e2).trans (x i k e e2)
theorem OF.tr {a b c : MH} (x : OF a b) (y : OF b c) : OF a c := fun i k e e2 e3 => (y i k e e2 e3).trans (x i k e e2 e3)
theorem C151.of {a b : MH} (x : C151 a b) : OF a b := fun i k _ e2 _ => x i k e2
theorem SE_n {n : Nat} {h h' g g' : MH} (w : ∀ c k, 57 ≤ c → c ≤ 61 → h' c k = h c k) (v : ∀ k, g' 142 k = g 142 k) (s : SE n h g) : SE n h' g' := by
  obtain ⟨s1, s2, s3⟩ := s
  refine ⟨by rw [v]; exact s1, by rw [v, w _ _ (by omega) (by omega)]; exact s2, fun m hm => ?_⟩
  rw [v, v, v, v, w 58 m (by omega) (by omega), w 59 m (by omega) (by omega), w 60 m (by omega) (by omega), w 61 m (by omega) (by omega)]
  exact s3 m hm
theorem CS_n {n : Nat} {h h' : MH} (w : ∀ c k, 57 ≤ c → c ≤ 61 → h' c k = h c k) (s : CS n h) : CS n h' := by
  obtain ⟨s1, s2, s3⟩ := s
  refine ⟨by rw [w _ _ (by omega) (by omega)]; exact s1, by rw [w _ _ (by omega) (by omega)]; exact s2, fun m hm => ?_⟩
  rw [w 58 m (by omega) (by omega), w 59 m (by omega) (by omega), w 60 m (by omega) (by omega), w 61 m (by omega) (by omega)]
  exact s3 m hm
theorem best_o {T : Nat} {u b M x5 x6 x8 : Int} {k103 : Int → Int → Int → Int → Int → Int → Int → MH → Option (Int × MH)} (hT : T ≤ 5) : ∀ (d fu j : Nat) (g : MH), j + d = T → d < fu → ∃ g' : MH, F_X12_shared_269 k103 fu u b M (T : Int) x5 x6 x8 (j : Int) g = F_X12_shared_296 k103 u b M (T : Int) x5 x6 x8 g' ∧ (∀ k, j ≤ k → k < T → g' 152 k = g 151 k) ∧ ∀ c k, ¬ (c = 152 ∧ j ≤ k) → g' c k = g c k := by
  intro d
  induction d with
  | zero =>
    intro fu j g e1 l1
    obtain ⟨fu, rfl⟩ : ∃ g, fu = g + 1 := ⟨fu - 1, by omega⟩
    refine ⟨g, ?_, fun k _ _ => absurd ‹k < T› (by omega), fun _ _ _ => rfl⟩
    rw [F_X12_shared_269]
    unfold ck
    rw [if_pos (by omega), if_pos (by omega), if_pos (by omega)]
  | succ d ih =>
    intro fu j g e1 l1
    obtain ⟨fu, rfl⟩ : ∃ g, fu = g + 1 := ⟨fu - 1, by omega⟩
    have ej : (j : Int) + 1 = ((j + 1 : Nat) : Int) := by omega
    obtain ⟨g', a1, a2, a3⟩ := ih fu (j + 1) (hup g 152 j (g 151 j)) (by omega) (by omega)
    refine ⟨g', ?_, fun k q1 q2 => ?_, fun c k q => ?_⟩
    · rw [← a1, F_X12_shared_269]
      unfold ck
      rw [if_pos (by omega), if_pos (by omega), if_neg (by omega), if_pos (by omega), nx_eq, show ((j : Int)).toNat = j by omega, ej]
    · by_cases q : k = j
      · subst q
        rw [a3 _ _ (by omega), hup_s]
      · rw [a2 k (by omega) q2, hup_n _ _ _ _ _ _ (by omega)]
    · rw [a3 c k (by omega), hup_n _ _ _ _ _ _ (by omega)]
/-- the last place: one way is tried -/
theorem leaf_l {u T n M nd left : Nat} {bo : Int} {d : Nat → Nat} {h : MH} (hu : u ≤ 8) (hT : 1 ≤ T ∧ T ≤ 5) (hn : n = T + 1) (hM : M ≤ 1000) (hb : 1 ≤ bo ∧ bo ≤ 99) (hd : ∀ k, k < T - 1 → d k < u + 1) (h9 : ∀ k, k < T - 1 → h 69 k = (d k : Int)) (hs : dS d (T - 1) + left = u) (ci : CI T n M h) :
    ∃ h', F_X9_shareFrom (nd + 1) ((T - 1 : Nat) : Int) (left : Int) bo (M : Int) h = some h' ∧ CI T n M h' ∧ CF h h' ∧ (∀ k, k < T - 1 → h' 69 k = h 69 k) ∧ 0 ≤ h' 56 6 ∧
      ∀ f x6 G, OI T n h x6 G → ∃ x6' G', F_X12_shared_103 (f + 1) (u : Int) bo (M : Int) (T : Int) (((u + 1) ^ (T - 1) : Nat) : Int) x6 ((dV (u + 1) d (T - 1) : Nat) : Int) G = F_X12_shared_103 f (u : Int) bo (M : Int) (T : Int) (((u + 1) ^ (T - 1) : Nat) : Int) x6' ((dV (u + 1) d (T - 1) + 1 : Nat) : Int) G' ∧ OI T n h' x6' G' ∧ OF G G' := by
  obtain ⟨c1, c2, c3, c4⟩ := ci
  have K0 : ∀ c k, c ≠ 69 → hup h 69 (T - 1) (left : Int) c k = h c k := fun c k q => hup_n _ _ _ _ _ _ (by omega)
  have u9 : ∀ k, k < T → 0 ≤ hup h 69 (T - 1) (left : Int) 69 k ∧ hup h 69 (T - 1) (left : Int) 69 k ≤ 8 := fun k hk => by
    by_cases q : k = T - 1
    · subst q; rw [hup_s]; omega
    · rw [hup_n _ _ _ _ _ _ (by omega), h9 k (by omega)]
      have := hd k (by omega)
      omega
  obtain ⟨x, h1, a1, a2, a3, a4, a5⟩ := try_l (T := T) (M := M) (b := bo) (h := hup h 69 (T - 1) (left : Int)) hn hT hM hb (CS_n (fun c k q1 q2 => K0 c k (by omega)) c1) (by rw [K0 _ _ (by omega)]; exact c2) u9 (by rw [K0 _ _ (by omega)]; omega)
  rw [K0 56 6 (by omega)] at a1
  have k3 : h1 56 3 = (T : Int) := by rw [a3 _ _ (by omega), K0 _ _ (by omega)]; exact c2
  have k6 : h1 56 6 = h 56 6 := by rw [a3 _ _ (by omega), K0 _ _ (by omega)]
  have k8 : ∀ k, h1 68 k = h 68 k := fun k => by rw [a3 _ _ (by omega), K0 _ _ (by omega)]
  have k9 : ∀ k, h1 69 k = hup h 69 (T - 1) (left : Int) 69 k := fun k => a3 _ _ (by omega)
  have sf : F_X9_shareFrom (nd + 1) ((T - 1 : Nat) : Int) (left : Int) bo (M : Int) h = some (if x ≤ h 56 6 then h1 else hcp (hup h1 56 6 x) 69 0 68 0 T) := by
    rw [F_X9_shareFrom]
    unfold F_X9_shareFrom_0 ck
    rw [if_pos (by omega), if_pos (by omega), if_neg (by omega), if_pos (by omega), nx_eq, show (((T - 1 : Nat) : Int)).toNat = T - 1 by omega, a1, bind_eq]
  by_cases c : x ≤ h 56 6
  · rw [if_pos c] at sf
    refine ⟨h1, sf, ⟨a4, k3, by rw [k6]; exact c3, fun q k hk => by rw [k8]; exact c4 (by omega) k hk⟩, fun i k q1 q2 => by rw [a3 _ _ (by omega), K0 _ _ (by omega)], fun k hk => by rw [k9, hup_n _ _ _ _ _ _ (by omega)], by omega, fun f x6 G o => ?_⟩
    obtain ⟨o1, o2, o3⟩ := o
    obtain ⟨g', p1, p2, p3⟩ := one_o (f := f) (d := d) (bo := bo) (x6 := x6) (M := M) (G := G) hu hT hd
    have E : SE n (hup h 69 (T - 1) (left : Int)) (hup g' 151 (T - 1) ((u : Int) - (dS d (T - 1) : Nat))) := SE_n (fun c k q1 q2 => K0 c k (by omega)) (fun k => by rw [hup_n _ _ _ _ _ _ (by omega), p2 _ _ (by omega)]) o1
    have U : ∀ k, k < T → hup g' 151 (T - 1) ((u : Int) - (dS d (T - 1) : Nat)) 151 k = hup h 69 (T - 1) (left : Int) 69 k := fun k hk => by
      by_cases q : k = T - 1
      · subst q; rw [hup_s, hup_s]; omega
      · rw [hup_n _ _ _ _ _ _ (by omega), hup_n _ _ _ _ _ _ (by omega), p1 k (by omega), h9 k (by omega)]
    obtain ⟨G1, v1, v2, v3⟩ := a5 (u : Int) (((u + 1) ^ (T - 1) : Nat) : Int) x6 ((dV (u + 1) d (T - 1) : Nat) : Int) (F_X12_shared_103 f) _ (by omega) E U
    have fr : OF G G1 := fun i k q1 q2 q3 => by rw [v3 i k q1, hup_n _ _ _ _ _ _ (by omega), p2 i k q2]
    refine ⟨x6, G1, ?_, ⟨v2, by rw [k6]; exact o2, fun q k hk => ?_⟩, fr⟩
    · rw [p3, if_pos (by omega), v1, if_neg (by omega)]
      unfold F_X12_shared_296
      rfl
    · rw [v3 _ _ (by omega), hup_n _ _ _ _ _ _ (by omega), p2 _ _ (by omega), k8]
      exact o3 (by omega) k hk
  · rw [if_neg c] at sf
    have m9 : ∀ k, hcp (hup h1 56 6 x) 69 0 68 0 T 69 k = h1 69 k := fun k => by rw [hcp_n _ _ _ _ _ _ _ _ (by omega), hup_n _ _ _ _ _ _ (by omega)]
    have m6 : hcp (hup h1 56 6 x) 69 0 68 0 T 56 6 = x := by rw [hcp_n _ _ _ _ _ _ _ _ (by omega), hup_s]
    have m8 : ∀ k, k < T → hcp (hup h1 56 6 x) 69 0 68 0 T 68 k = h1 69 k := fun k hk => by rw [hcp_y _ _ _ _ _ _ _ _ (by omega), hup_n _ _ _ _ _ _ (by omega), Nat.zero_add, Nat.sub_zero]
    have mo : ∀ i k, ¬ (i = 68) → ¬ (i = 56 ∧ k = 6) → hcp (hup h1 56 6 x) 69 0 68 0 T i k = h1 i k := fun i k q1 q2 => by rw [hcp_n _ _ _ _ _ _ _ _ (by omega), hup_n _ _ _ _ _ _ (by omega)]
    refine ⟨_, sf, ⟨CS_n (fun i k q1 q2 => mo i k (by omega) (by omega)) a4, by rw [mo _ _ (by omega) (by omega)]; exact k3, by rw [m6]; omega, fun _ k hk => by rw [m8 k hk, k9]; exact u9 k hk⟩, fun i k q1 q2 => by rw [mo i k (by omega) (by omega), a3 _ _ (by omega), K0 _ _ (by omega)], fun k hk => by rw [m9, k9, hup_n _ _ _ _ _ _ (by omega)], by omega, fun f x6 G o => ?_⟩
    obtain ⟨o1, o2, o3⟩ := o
    obtain ⟨g', p1, p2, p3⟩ := one_o (f := f) (d := d) (bo := bo) (x6 := x6) (M := M) (G := G) hu hT hd
    have E : SE n (hup h 69 (T - 1) (left : Int)) (hup g' 151 (T - 1) ((u : Int) - (dS d (T - 1) : Nat))) := SE_n (fun c k q1 q2 => K0 c k (by omega)) (fun k => by rw [hup_n _ _ _ _ _ _ (by omega), p2 _ _ (by omega)]) o1
    have U : ∀ k, k < T → hup g' 151 (T - 1) ((u : Int) - (dS d (T - 1) : Nat)) 151 k = hup h 69 (T - 1) (left : Int) 69 k := fun k hk => by
      by_cases q : k = T - 1
      · subst q; rw [hup_s, hup_s]; omega
      · rw [hup_n _ _ _ _ _ _ (by omega), hup_n _ _ _ _ _ _ (by omega), p1 k (by omega), h9 k (by omega)]
    obtain ⟨G1, v1, v2, v3⟩ := a5 (u : Int) (((u + 1) ^ (T - 1) : Nat) : Int) x6 ((dV (u + 1) d (T - 1) : Nat) : Int) (F_X12_shared_103 f) _ (by omega) E U
    obtain ⟨G2, w1, w2, w3⟩ := best_o (u := (u : Int)) (b := bo) (M := (M : Int)) (x5 := (((u + 1) ^ (T - 1) : Nat) : Int)) (x6 := x) (x8 := ((dV (u + 1) d (T - 1) : Nat) : Int)) (k103 := F_X12_shared_103 f) hT.2 T 20000 0 G1 (by omega) (by omega)
    have fr : OF G G2 := fun i k q1 q2 q3 => by rw [w3 i k (by omega), v3 i k q1, hup_n _ _ _ _ _ _ (by omega), p2 i k q2]
    refine ⟨x, G2, ?_, ⟨SE_n (fun i k q1 q2 => mo i k (by omega) (by omega)) (fun k => w3 _ _ (by omega)) v2, m6.symm, fun _ k hk => ?_⟩, fr⟩
    · rw [show ((0 : Nat) : Int) = 0 from rfl] at w1
      rw [p3, if_pos (by omega), v1, if_pos (by omega), w1]
      unfold F_X12_shared_296
      rfl
    · rw [w2 k (by omega) hk, v3 _ _ (by omega), U k hk, m8 k hk, k9]
