/-! ===== heads: the marks, and one head ===== -/
theorem mk136 {B t w : Nat} (hB : 1 ≤ B ∧ B ≤ 9999) : ∀ (d f j : Nat) (g : MH), j + d = B → d < f → ∃ g', F_X12_heads_136 f (B : Int) (t : Int) (w : Int) (j : Int) g = F_X12_heads_159 20000 (B : Int) (t : Int) (w : Int) 0 g' ∧ (∀ v, j ≤ v → v < B → g' 154 v = 0) ∧ ∀ c k, ¬ (c = 154 ∧ j ≤ k) → g' c k = g c k := by
  intro d
  induction d with
  | zero =>
    intro f j g e hf
    obtain ⟨f, rfl⟩ : ∃ g, f = g + 1 := ⟨f - 1, by omega⟩
    refine ⟨g, ?_, fun v a b => absurd a (by omega), fun _ _ _ => rfl⟩
    rw [F_X12_heads_136]
    unfold ck
    rw [if_pos (by omega), if_pos (by omega), if_pos (by omega)]
  | succ d ih =>
    intro f j g e hf
    obtain ⟨f, rfl⟩ : ∃ g, f = g + 1 := ⟨f - 1, by omega⟩
    obtain ⟨g', a1, a2, a3⟩ := ih f (j + 1) (hup g 154 j 0) (by omega) (by omega)
    refine ⟨g', ?_, fun v q1 q2 => ?_, fun c k q => by rw [a3 c k (by omega), hup_n _ _ _ _ _ _ (by omega)]⟩
    · rw [← a1, F_X12_heads_136]
      unfold ck
      rw [if_pos (by omega), if_pos (by omega), if_neg (by omega), if_pos (by omega), nx_eq, show ((j : Int)).toNat = j by omega, show (j : Int) + 1 = ((j + 1 : Nat) : Int) by omega]
    · by_cases q : v = j
      · subst q; rw [a3 _ _ (by omega), hup_s]
      · exact a2 v (by omega) q2
theorem mk159 {B t w : Nat} {W : Nat → Nat} (ht : t < 4) (hw : w ≤ 60) (hB : 1 ≤ B ∧ B ≤ 9999) (hb : ∀ i, i < w → W i < B) : ∀ (d f k : Nat) (g : MH), k + d = w → d < f → (∀ i, i < w → g 145 (60 * t + i) = (W i : Int)) → (∀ v, v < B → (g 154 v = 0 ∨ g 154 v = 1) ∧ (g 154 v = 1 ↔ ∃ i, i < k ∧ W i = v)) → (∀ i, i < k → g 158 i = (W i : Int)) →
    ∃ (e : Nat) (g' : MH), F_X12_heads_159 f (B : Int) (t : Int) (w : Int) (k : Int) g = F_X12_heads_159 (e + 1) (B : Int) (t : Int) (w : Int) (w : Int) g' ∧ (∀ v, v < B → (g' 154 v = 0 ∨ g' 154 v = 1) ∧ (g' 154 v = 1 ↔ ∃ i, i < w ∧ W i = v)) ∧ (∀ i, i < w → g' 158 i = (W i : Int)) ∧ ∀ c k, c ≠ 154 → c ≠ 158 → g' c k = g c k := by
  intro d
  induction d with
  | zero =>
    intro f k g e hf g5 gm g8
    obtain ⟨f, rfl⟩ : ∃ g, f = g + 1 := ⟨f - 1, by omega⟩
    have : k = w := by omega
    subst this
    exact ⟨f, g, rfl, gm, g8, fun _ _ _ _ => rfl⟩
  | succ d ih =>
    intro f k g e hf g5 gm g8
    obtain ⟨f, rfl⟩ : ∃ g, f = g + 1 := ⟨f - 1, by omega⟩
    have wb := hb k (by omega)
    have gk := g5 k (by omega)
    obtain ⟨e', g', a1, a2, a3, a4⟩ := ih f (k + 1) (hup (hup g 158 k (W k : Int)) 154 (W k) 1) (by omega) (by omega) (fun i hi => by rw [hup_n _ _ _ _ _ _ (by omega), hup_n _ _ _ _ _ _ (by omega)]; exact g5 i hi) (fun v hv => by
      by_cases q : v = W k
      · subst q
        rw [hup_s]
        exact ⟨Or.inr rfl, ⟨fun _ => ⟨k, by omega, rfl⟩, fun _ => rfl⟩⟩
      · rw [hup_n _ _ _ _ _ _ (by omega), hup_n _ _ _ _ _ _ (by omega)]
        refine ⟨(gm v hv).1, (gm v hv).2.trans ⟨fun ⟨i, i1, i2⟩ => ⟨i, by omega, i2⟩, fun ⟨i, i1, i2⟩ => ⟨i, ?_, i2⟩⟩⟩
        by_cases z : i = k
        · subst z; exact absurd i2.symm q
        · omega) (fun i hi => by
      rw [hup_n _ _ _ _ _ _ (by omega)]
      by_cases z : i = k
      · subst z; rw [hup_s]
      · rw [hup_n _ _ _ _ _ _ (by omega)]; exact g8 i (by omega))
    refine ⟨e', g', ?_, a2, a3, fun c i w1 w2 => by rw [a4 c i w1 w2, hup_n _ _ _ _ _ _ (by omega), hup_n _ _ _ _ _ _ (by omega)]⟩
    rw [← a1, F_X12_heads_159]
    unfold ck
    rw [if_pos (by omega), if_pos (by omega), if_neg (by omega), if_pos (by omega), if_pos (by omega), nx_eq, show (60 * (t : Int) + (k : Int)).toNat = 60 * t + k by omega, show ((k : Int)).toNat = k by omega, gk, hup_s, if_pos (by omega), nx_eq, show (((W k : Nat) : Int)).toNat = W k by omega, show (k : Int) + 1 = ((k + 1 : Nat) : Int) by omega]
/-- the class's covers, read -/
theorem cv_all {n w B k : Nat} {Hm W : Nat → Nat} (hw : 1 ≤ w) : cvr n w B Hm W k = ((2 ^ w : Nat) : Int) - 1 ↔ fit n w B Hm W k = true ∧ und B (Hm (k / 24)) (k % 24) = w := by
  have p1 : 2 ≤ 2 ^ w := by
    have : 2 ^ 1 ≤ 2 ^ w := Nat.pow_le_pow_right (by omega) hw
    omega
  unfold cvr
  by_cases q : fit n w B Hm W k = true
  · have f4 := (of_decide_eq_true q).2.2.2
    rw [if_pos q, ← f4]
    have a := bv_all (pK Hm W k) w
    have b := cn_all (pK Hm W k) w
    unfold pK at a b ⊢
    constructor
    · intro h
      exact ⟨q, b.mpr (a.mp (by omega))⟩
    · intro h
      have := a.mpr (b.mp h.2)
      omega
  · rw [if_neg q]
    constructor
    · intro h; omega
    · intro h; exact absurd h.1 q
/-- what the other has kept of the first one found -/
def FK (x3 : Int) (h g : MH) : Prop := g 141 40 = x3 ∧ (1 ≤ x3 → (0 ≤ h 73 3 ∧ h 73 3 < 144) ∧ g 159 0 = (h 73 3).tdiv 24 ∧ g 159 1 = (h 73 3).tmod 24)
def KF (g g' : MH) : Prop := ∀ c k, c ≠ 159 → ¬ (c = 141 ∧ k = 40) → g' c k = g c k
theorem KF.tr {a b c : MH} (x : KF a b) (y : KF b c) : KF a c := fun i k e e2 => (y i k e e2).trans (x i k e e2)
theorem TL_n {n w B K : Nat} {Hm W : Nat → Nat} {g g' : MH} (f : KF g g') (t : TL n w B Hm W K g) : TL n w B Hm W K g' := by
  obtain ⟨t1, t2⟩ := t
  refine ⟨by rw [f _ _ (by omega) (by omega)]; exact t1, fun k hk hf => ?_⟩
  rw [f _ _ (by omega) (by omega), f _ _ (by omega) (by omega), f _ _ (by omega) (by omega)]
  exact t2 k hk hf
theorem found_eq {e e' : Nat} {g : MH} {x : Int} (he : e < 144) (he' : e' < 144) (hx : g 141 40 = x) (hx2 : 0 ≤ x ∧ x ≤ 30000) : ∃ g', F_X12_found (e : Int) (e' : Int) g = some g' ∧ KF g g' ∧ g' 141 40 = x + 1 ∧ (x = 0 → g' 159 0 = g 155 e ∧ g' 159 1 = g 156 e ∧ g' 159 2 = g 155 e' ∧ g' 159 3 = g 156 e') ∧ (1 ≤ x → ∀ k, g' 159 k = g 159 k) := by
  unfold F_X12_found F_X12_found_0 ck
  rw [nx_eq, hup_s, hx, if_pos (by omega)]
  by_cases q : x = 0
  · rw [if_pos (by omega), if_pos (by omega), nx_eq, nx_eq, if_pos (by omega), nx_eq, nx_eq, show ((e : Int)).toNat = e by omega, show ((e' : Int)).toNat = e' by omega]
    refine ⟨_, rfl, fun c k w1 w2 => ?_, ?_, fun _ => ⟨?_, ?_, ?_, ?_⟩, fun z => absurd z (by omega)⟩
    · rw [hup_n _ _ _ _ _ _ (by omega), hup_n _ _ _ _ _ _ (by omega), hup_n _ _ _ _ _ _ (by omega), hup_n _ _ _ _ _ _ (by omega), hup_n _ _ _ _ _ _ (by omega)]
    all_goals simp (disch := omega) only [hup_n, hup_s]
  · rw [if_neg (by omega)]
    exact ⟨_, rfl, fun c k w1 w2 => hup_n _ _ _ _ _ _ (by omega), hup_s _ _ _ _, fun z => absurd z q, fun _ k => hup_n _ _ _ _ _ _ (by omega)⟩
theorem one_l {n w B : Nat} {Hm W : Nat → Nat} (hn : n ≤ 6) (hw : 1 ≤ w ∧ w ≤ 60) : ∀ (d f f' k x3 : Nat) (h : MH), k + d = 144 → d < f → d < f' → x3 ≤ k → (∀ j, j < 144 → h 74 j = cvr n w B Hm W j) →
    ∃ (y : Nat) (h' : MH), F_X2_findsOne_5 f (((2 ^ w : Nat) : Int) - 1) (x3 : Int) (k : Int) h = (if y = 0 then some (0, h') else some (1, hup (hup h' 73 1 1) 73 2 (y : Int))) ∧ (x3 ≤ y ∧ y ≤ 144) ∧ (∀ c i, ¬ (c = 73 ∧ i = 3) → h' c i = h c i) ∧ (y = 0 → h' = h) ∧
      ∀ (x6 : Int) (g : MH), TL n w B Hm W 144 g → FK (x3 : Int) h g → ∃ g', F_X12_heads_234 f' (w : Int) x6 0 (rkf n w B Hm W k : Int) g = F_X12_heads_272 (w : Int) x6 0 g' ∧ FK (y : Int) h' g' ∧ KF g g' ∧ (y = 0 → g' = g) := by
  have pb : (2 : Nat) ^ w ≤ 1152921504606846976 := by
    have e : 2 ^ w ≤ 2 ^ 60 := Nat.pow_le_pow_right (by omega) hw.2
    have e2 : (2 : Nat) ^ 60 = 1152921504606846976 := by decide
    omega
  have p1 : 1 ≤ 2 ^ w := Nat.one_le_two_pow
  intro d
  induction d with
  | zero =>
    intro f f' k x3 h e hf hf' hx hc
    obtain ⟨f, rfl⟩ : ∃ g, f = g + 1 := ⟨f - 1, by omega⟩
    obtain ⟨f', rfl⟩ : ∃ g, f' = g + 1 := ⟨f' - 1, by omega⟩
    have ek : k = 144 := by omega
    subst ek
    refine ⟨x3, h, ?_, by omega, fun _ _ _ => rfl, fun _ => rfl, fun x6 g t fk => ⟨g, ?_, fk, fun _ _ _ _ => rfl, fun _ => rfl⟩⟩
    · rw [F_X2_findsOne_5]
      unfold F_X2_keeps F_X2_keeps_0 ck
      rw [if_pos (by omega), if_pos (by omega), if_pos (by omega)]
      by_cases q : x3 = 0
      · rw [if_neg (by omega), if_pos q, bind_eq, if_pos (Or.inl rfl)]
      · rw [if_pos (by omega), if_neg q, nx_eq, nx_eq, bind_eq, if_pos (Or.inr rfl)]
    · have rl := cn_le (fit n w B Hm W) 144
      have t1 := t.1
      unfold rkf at t1 ⊢
      rw [F_X12_heads_234]
      unfold ck
      rw [t1, if_pos (by omega), if_pos (by omega), if_pos (by omega)]
  | succ d ih =>
    intro f f' k x3 h e hf hf' hx hc
    obtain ⟨f, rfl⟩ : ∃ g, f = g + 1 := ⟨f - 1, by omega⟩
    have hck := hc k (by omega)
    have ca := cv_all (n := n) (w := w) (B := B) (k := k) (Hm := Hm) (W := W) hw.1
    have cb : in64 (cvr n w B Hm W k) := by
      unfold cvr
      have := bv_lt (pK Hm W k) w
      split <;> omega
    have rl := cn_le (fit n w B Hm W) k
    have st : F_X2_findsOne_5 (f + 1) (((2 ^ w : Nat) : Int) - 1) (x3 : Int) (k : Int) h = if cvr n w B Hm W k = ((2 ^ w : Nat) : Int) - 1 then F_X2_findsOne_5 f (((2 ^ w : Nat) : Int) - 1) ((x3 + 1 : Nat) : Int) ((k + 1 : Nat) : Int) (hup h 73 3 (if x3 = 0 then (k : Int) else h 73 3)) else F_X2_findsOne_5 f (((2 ^ w : Nat) : Int) - 1) (x3 : Int) ((k + 1 : Nat) : Int) h := by
      rw [F_X2_findsOne_5]
      unfold F_X2_findsOne_45 F_X2_findsOne_39 ck
      rw [if_pos (by omega), if_neg (by omega), if_pos (by omega), show ((k : Int)).toNat = k by omega, hck, if_pos cb, if_pos (by omega), show (k : Int) + 1 = ((k + 1 : Nat) : Int) by omega, show (x3 : Int) + 1 = ((x3 + 1 : Nat) : Int) by omega]
      by_cases q : cvr n w B Hm W k = ((2 ^ w : Nat) : Int) - 1
      · rw [if_neg (fun x => x q), if_pos q, if_pos (by omega)]
        by_cases q2 : x3 = 0
        · rw [if_neg (by omega), if_pos q2, nx_eq]; rfl
        · rw [if_pos (by omega), if_neg q2, nx_eq]; rfl
      · rw [if_pos q, if_neg q]
    by_cases ft : fit n w B Hm W k = true
    rotate_left
    · -- no head there
      have q : ¬ cvr n w B Hm W k = ((2 ^ w : Nat) : Int) - 1 := fun x => ft (ca.mp x).1
      have er : rkf n w B Hm W (k + 1) = rkf n w B Hm W k := by unfold rkf; rw [cn, if_neg ft]; rfl
      obtain ⟨y, h', a1, a2, a3, a4, a5⟩ := ih f f' (k + 1) x3 h (by omega) (by omega) (by omega) (by omega) hc
      refine ⟨y, h', by rw [st, if_neg q]; exact a1, a2, a3, a4, ?_⟩
      rw [er] at a5
      exact a5
    obtain ⟨f', rfl⟩ : ∃ g, f' = g + 1 := ⟨f' - 1, by omega⟩
    have er : rkf n w B Hm W (k + 1) = rkf n w B Hm W k + 1 := by unfold rkf; rw [cn, if_pos ft]
    have m1 := cn_mono (fit n w B Hm W) (j := k + 1) (144 - (k + 1))
    rw [show k + 1 + (144 - (k + 1)) = 144 by omega] at m1
    have rl2 := cn_le (fit n w B Hm W) 144
    have so : ∀ (x6 : Int) (g : MH), TL n w B Hm W 144 g → F_X12_heads_234 (f' + 1) (w : Int) x6 0 (rkf n w B Hm W k : Int) g = if und B (Hm (k / 24)) (k % 24) = w then (F_X12_found (rkf n w B Hm W k : Int) (rkf n w B Hm W k : Int) g).bind fun q9 => F_X12_heads_234 f' (w : Int) x6 0 (rkf n w B Hm W (k + 1) : Int) q9 else F_X12_heads_234 f' (w : Int) x6 0 (rkf n w B Hm W (k + 1) : Int) g := fun x6 g t => by
      obtain ⟨t1, t2⟩ := t
      obtain ⟨u1, u2, u3⟩ := t2 k (by omega) ft
      have ub : und B (Hm (k / 24)) (k % 24) ≤ 60 := by
        have f4 := (of_decide_eq_true ft).2.2.2
        have := cn_le (pH W (Hm (k / 24)) (k % 24)) w
        omega
      have er' : (rkf n w B Hm W k : Int) + 1 = (rkf n w B Hm W (k + 1) : Int) := by rw [er]; omega
      have c1 : rkf n w B Hm W k < rkf n w B Hm W 144 := by unfold rkf at er ⊢; omega
      have c2 : rkf n w B Hm W 144 ≤ 144 := rl2
      rw [F_X12_heads_234]
      unfold F_X12_heads_266 ck
      rw [t1, if_pos (by omega), if_pos (by omega), if_neg (by omega), if_pos (by omega), if_neg (by omega), if_pos (by omega), show (((rkf n w B Hm W k : Nat) : Int)).toNat = rkf n w B Hm W k by omega, u3, if_pos (by omega), er']
      by_cases q : und B (Hm (k / 24)) (k % 24) = w
      · rw [if_neg (by omega), if_pos q]
      · rw [if_pos (by omega), if_neg q]
    by_cases q : und B (Hm (k / 24)) (k % 24) = w
    · have q' := ca.mpr ⟨ft, q⟩
      obtain ⟨y, h', a1, a2, a3, a4, a5⟩ := ih f f' (k + 1) (x3 + 1) (hup h 73 3 (if x3 = 0 then (k : Int) else h 73 3)) (by omega) (by omega) (by omega) (by omega) (fun j hj => by rw [hup_n _ _ _ _ _ _ (by omega)]; exact hc j hj)
      have y1 : y ≠ 0 := by omega
      refine ⟨y, h', by rw [st, if_pos q']; exact a1, by omega, fun c i w1 => by rw [a3 c i w1, hup_n _ _ _ _ _ _ w1], fun z => absurd z y1, fun x6 g t fk => ?_⟩
      obtain ⟨u1, u2, u3⟩ := t.2 k (by omega) ft
      have c1 : rkf n w B Hm W k < rkf n w B Hm W 144 := by unfold rkf at er ⊢; omega
      have c2 : rkf n w B Hm W 144 ≤ 144 := rl2
      obtain ⟨g1, g2, g3, g4, g5, g6⟩ := found_eq (e := rkf n w B Hm W k) (e' := rkf n w B Hm W k) (g := g) (x := (x3 : Int)) (by omega) (by omega) fk.1 (by omega)
      have fk1 : FK ((x3 + 1 : Nat) : Int) (hup h 73 3 (if x3 = 0 then (k : Int) else h 73 3)) g1 := by
        refine ⟨by rw [g4]; omega, fun _ => ?_⟩
        rw [hup_s]
        by_cases z : x3 = 0
        · rw [if_pos z]
          obtain ⟨v1, v2, -, -⟩ := g5 (by omega)
          refine ⟨by omega, ?_, ?_⟩
          · rw [v1, u1, Int.tdiv_eq_ediv_of_nonneg (by omega), Int.natCast_ediv]; rfl
          · rw [v2, u2, Int.tmod_eq_emod_of_nonneg (by omega), Int.natCast_emod]; rfl
        · rw [if_neg z, g6 (by omega), g6 (by omega)]
          exact fk.2 (by omega)
      obtain ⟨g', b1, b2, b3, b4⟩ := a5 x6 g1 (TL_n g3 t) fk1
      exact ⟨g', by rw [so x6 g t, if_pos q, g2, bind_eq]; exact b1, b2, g3.tr b3, fun z => absurd z y1⟩
    · have q' : ¬ cvr n w B Hm W k = ((2 ^ w : Nat) : Int) - 1 := fun x => q (ca.mp x).2
      obtain ⟨y, h', a1, a2, a3, a4, a5⟩ := ih f f' (k + 1) x3 h (by omega) (by omega) (by omega) (by omega) hc
      refine ⟨y, h', by rw [st, if_neg q']; exact a1, a2, a3, a4, fun x6 g t fk => ?_⟩
      obtain ⟨g', b1, b2, b3, b4⟩ := a5 x6 g t fk
      exact ⟨g', by rw [so x6 g t, if_neg q]; exact b1, b2, b3, b4⟩
