/-! ===== heads: two heads ===== -/
theorem both_l {n w B k j : Nat} {Hm W : Nat → Nat} {g : MH} (hn : n ≤ 6) (hw : w ≤ 60) (hH : ∀ m, m < n → 1 ≤ Hm m ∧ Hm m ≤ 24) (g0 : ∀ m, m < n → g 142 (8 + 16 * m + 1) = (Hm m : Int)) (g8 : ∀ i, i < w → g 158 i = (W i : Int) ∧ W i < 10000) {e e' : Nat} (he : e < 144) (he' : e' < 144) (fk : fit n w B Hm W k = true) (fj : fit n w B Hm W j = true) (k1 : g 155 e = ((k / 24 : Nat) : Int) ∧ g 156 e = ((k % 24 : Nat) : Int)) (j1 : g 155 e' = ((j / 24 : Nat) : Int) ∧ g 156 e' = ((j % 24 : Nat) : Int)) : ∀ (d f i : Nat), i + d = w → d < f →
    F_X12_bothHave_6 f (e : Int) (e' : Int) (w : Int) ((cn (fun i => pK Hm W k i && pK Hm W j i) i : Nat) : Int) (i : Int) g = some (((cn (fun i => pK Hm W k i && pK Hm W j i) w : Nat) : Int), g) := by
  have fk' := of_decide_eq_true fk
  have fj' := of_decide_eq_true fj
  have hk := hH (k / 24) fk'.1
  have hj := hH (j / 24) fj'.1
  have om : ∀ m : Nat, m < n → F_X12_ofMachine (m : Int) 1 g = some ((Hm m : Int), g) := fun m hm => by
    unfold F_X12_ofMachine F_X12_ofMachine_0 F_X12_machineAt F_X12_machineAt_0 ck
    simp only [bind_eq]
    rw [if_pos (by omega), show ((0 : Int) + 8 + 16 * (m : Int) + 1).toNat = 8 + 16 * m + 1 by omega, g0 m hm]
  intro d
  induction d with
  | zero =>
    intro f i e0 hf
    obtain ⟨f, rfl⟩ : ∃ g, f = g + 1 := ⟨f - 1, by omega⟩
    have : i = w := by omega
    subst this
    rw [F_X12_bothHave_6]
    unfold ck
    rw [if_pos (by omega), if_pos (by omega), if_pos (by omega)]
  | succ d ih =>
    intro f i e0 hf
    obtain ⟨f, rfl⟩ : ∃ g, f = g + 1 := ⟨f - 1, by omega⟩
    obtain ⟨w1, w2⟩ := g8 i (by omega)
    have tk : Int.tmod ((W i : Nat) : Int) ((Hm (k / 24) : Nat) : Int) = ((W i % Hm (k / 24) : Nat) : Int) := by rw [Int.tmod_eq_emod_of_nonneg (by omega), Int.natCast_emod]
    have tj : Int.tmod ((W i : Nat) : Int) ((Hm (j / 24) : Nat) : Int) = ((W i % Hm (j / 24) : Nat) : Int) := by rw [Int.tmod_eq_emod_of_nonneg (by omega), Int.natCast_emod]
    have mk := Nat.mod_lt (W i) (show 0 < Hm (k / 24) by omega)
    have mj := Nat.mod_lt (W i) (show 0 < Hm (j / 24) by omega)
    have pk : pK Hm W k i = true ↔ W i % Hm (k / 24) = k % 24 := by unfold pK; exact pH_i
    have pj : pK Hm W j i = true ↔ W i % Hm (j / 24) = j % 24 := by unfold pK; exact pH_i
    have ei : (i : Int) + 1 = ((i + 1 : Nat) : Int) := by omega
    have b48 : ∀ (acc s0 : Int), in32 s0 → F_X12_bothHave_48 (F_X12_bothHave_6 f) (e : Int) (e' : Int) (w : Int) acc (i : Int) s0 g = F_X12_bothHave_6 f (e : Int) (e' : Int) (w : Int) (acc + if s0 ≠ 0 ∧ W i % Hm (j / 24) = j % 24 then 1 else 0) ((i + 1 : Nat) : Int) g := fun acc s0 hs => by
      unfold F_X12_bothHave_48 F_X12_bothHave_92 F_X12_bothHave_93 ck
      rw [if_pos hs]
      by_cases q : s0 = 0
      · rw [if_pos q, nx_eq, if_neg (fun x => x.1 q), ei]
      · rw [if_neg q, if_pos (by omega), show ((i : Int)).toNat = i by omega, show ((e' : Int)).toNat = e' by omega, if_pos (by rw [w1]; omega), if_pos (by omega), j1.1, om _ fj'.1, bind_eq]
        simp only [w1, j1.2, tj]
        rw [if_pos (by omega), if_pos (by omega), if_pos (by omega), if_pos (by omega)]
        by_cases q2 : W i % Hm (j / 24) = j % 24
        · rw [if_neg (by omega), nx_eq, if_pos ⟨q, q2⟩, ei]
        · rw [if_pos (by omega), nx_eq, if_neg (fun x => q2 x.2), ei]
    rw [← ih f (i + 1) (by omega) (by omega), F_X12_bothHave_6]
    unfold ck
    rw [if_pos (by omega), if_pos (by omega), if_neg (by omega), if_pos (by omega), show ((i : Int)).toNat = i by omega, show ((e : Int)).toNat = e by omega, if_pos (by rw [w1]; omega), if_pos (by omega), k1.1, om _ fk'.1, bind_eq]
    simp only [w1, k1.2, tk]
    rw [if_pos (by omega), if_pos (by omega), if_pos (by omega), if_pos (by omega), cn]
    by_cases q1 : W i % Hm (k / 24) = k % 24
    · have q1' := pk.mpr q1
      rw [if_neg (by omega), b48 _ _ (by omega)]
      by_cases q2 : W i % Hm (j / 24) = j % 24
      · have q2' := pj.mpr q2
        rw [if_pos ⟨by omega, q2⟩, if_pos (by rw [q1', q2']; rfl)]
        rfl
      · have q2' : pK Hm W j i = false := Bool.eq_false_iff.mpr (fun x => q2 (pj.mp x))
        rw [if_neg (fun x => q2 x.2), if_neg (by rw [q2']; simp), Int.add_zero]
        rfl
    · have q1' : pK Hm W k i = false := Bool.eq_false_iff.mpr (fun x => q1 (pk.mp x))
      rw [if_pos (by omega), b48 _ _ (by omega), if_neg (fun x => x.1 rfl), if_neg (by rw [q1']; simp), Int.add_zero]
      rfl
theorem cv_two {n w B k j : Nat} {Hm W : Nat → Nat} (hw : w ≤ 60) (fk : fit n w B Hm W k = true) (fj : fit n w B Hm W j = true) : in64 (lor64 (cvr n w B Hm W k) (cvr n w B Hm W j)) ∧ (lor64 (cvr n w B Hm W k) (cvr n w B Hm W j) = ((2 ^ w : Nat) : Int) - 1 ↔ ((und B (Hm (k / 24)) (k % 24) : Nat) : Int) + ((und B (Hm (j / 24)) (j % 24) : Nat) : Int) - ((cn (fun i => pK Hm W k i && pK Hm W j i) w : Nat) : Int) = (w : Int)) := by
  have pb : (2 : Nat) ^ w ≤ 1152921504606846976 := by
    have e : 2 ^ w ≤ 2 ^ 60 := Nat.pow_le_pow_right (by omega) hw
    have e2 : (2 : Nat) ^ 60 = 1152921504606846976 := by decide
    omega
  have p1 : 1 ≤ 2 ^ w := Nat.one_le_two_pow
  have bk := bv_lt (pK Hm W k) w
  have bj := bv_lt (pK Hm W j) w
  have f4 : cn (pK Hm W k) w = und B (Hm (k / 24)) (k % 24) := (of_decide_eq_true fk).2.2.2
  have f5 : cn (pK Hm W j) w = und B (Hm (j / 24)) (j % 24) := (of_decide_eq_true fj).2.2.2
  have co := cn_or (pK Hm W k) (pK Hm W j) w
  have bo := bv_lt (fun i => pK Hm W k i || pK Hm W j i) w
  have a := bv_all (fun i => pK Hm W k i || pK Hm W j i) w
  have b := cn_all (fun i => pK Hm W k i || pK Hm W j i) w
  unfold cvr
  rw [if_pos fk, if_pos fj, lor64n (show bv (pK Hm W k) w < 2 ^ 63 by simp only [Nat.reducePow]; omega) (show bv (pK Hm W j) w < 2 ^ 63 by simp only [Nat.reducePow]; omega), bv_or, ← f4, ← f5]
  refine ⟨by omega, ⟨fun h => ?_, fun h => ?_⟩⟩
  · have := b.mpr (a.mp (by omega)); omega
  · have := a.mpr (b.mp (by omega)); omega
/-- what the other has kept of the first two found -/
def FK2 (x3 : Int) (h g : MH) : Prop := FK x3 h g ∧ (1 ≤ x3 → (0 ≤ h 73 4 ∧ h 73 4 < 144) ∧ g 159 2 = (h 73 4).tdiv 24 ∧ g 159 3 = (h 73 4).tmod 24)
def K73 (h h' : MH) : Prop := ∀ c i, ¬ (c = 73 ∧ (i = 3 ∨ i = 4)) → h' c i = h c i
/-- everything of the other's that stays while pairs are sought -/
def GE (n w B : Nat) (Hm W : Nat → Nat) (g : MH) : Prop := TL n w B Hm W 144 g ∧ (∀ m, m < n → g 142 (8 + 16 * m + 1) = (Hm m : Int)) ∧ ∀ i, i < w → g 158 i = (W i : Int) ∧ W i < 10000
theorem GE_n {n w B : Nat} {Hm W : Nat → Nat} {g g' : MH} (f : KF g g') (t : GE n w B Hm W g) : GE n w B Hm W g' := ⟨TL_n f t.1, fun m hm => by rw [f _ _ (by omega) (by omega)]; exact t.2.1 m hm, fun i hi => by rw [f _ _ (by omega) (by omega)]; exact t.2.2 i hi⟩
theorem rk_lt {n w B k : Nat} {Hm W : Nat → Nat} (hk : k < 144) (ft : fit n w B Hm W k = true) : rkf n w B Hm W (k + 1) = rkf n w B Hm W k + 1 ∧ rkf n w B Hm W (k + 1) ≤ rkf n w B Hm W 144 ∧ rkf n w B Hm W 144 ≤ 144 := by
  have m1 := cn_mono (fit n w B Hm W) (j := k + 1) (144 - (k + 1))
  rw [show k + 1 + (144 - (k + 1)) = 144 by omega] at m1
  exact ⟨by unfold rkf; rw [cn, if_pos ft], m1, cn_le _ _⟩
theorem in_l {n w B k : Nat} {Hm W : Nat → Nat} {k5 : Int → Int → Int → MH → Option (Int × MH)} (hn : n ≤ 6) (hw : 1 ≤ w ∧ w ≤ 60) (hH : ∀ m, m < n → 1 ≤ Hm m ∧ Hm m ≤ 24) (hk : k < 144) (fk : fit n w B Hm W k = true) : ∀ (d f f' j x3 : Nat) (h : MH), j + d = 144 → d < f → d < f' → k < j → x3 + d ≤ 30000 → (∀ j, j < 144 → h 74 j = cvr n w B Hm W j) →
    ∃ (y : Nat) (h' : MH), F_X2_findsTwo_19 k5 f (((2 ^ w : Nat) : Int) - 1) (x3 : Int) (k : Int) (j : Int) h = k5 (((2 ^ w : Nat) : Int) - 1) (y : Int) ((k + 1 : Nat) : Int) h' ∧ (x3 ≤ y ∧ y ≤ x3 + d) ∧ K73 h h' ∧ (y = 0 → h' = h) ∧
      ∀ (k299 : Int → Int → Int → Int → MH → Option (Int × MH)) (x6 : Int) (g : MH), GE n w B Hm W g → FK2 (x3 : Int) h g → ∃ g', F_X12_heads_314 k299 f' (w : Int) x6 2 (rkf n w B Hm W k : Int) (rkf n w B Hm W j : Int) g = k299 (w : Int) x6 2 (rkf n w B Hm W (k + 1) : Int) g' ∧ FK2 (y : Int) h' g' ∧ KF g g' ∧ (y = 0 → g' = g) := by
  have pb : (2 : Nat) ^ w ≤ 1152921504606846976 := by
    have e : 2 ^ w ≤ 2 ^ 60 := Nat.pow_le_pow_right (by omega) hw.2
    have e2 : (2 : Nat) ^ 60 = 1152921504606846976 := by decide
    omega
  have p1 : 1 ≤ 2 ^ w := Nat.one_le_two_pow
  have cbd : ∀ k, in64 (cvr n w B Hm W k) := fun k => by
    unfold cvr
    have := bv_lt (pK Hm W k) w
    split <;> omega
  have cfit : ∀ k, (cvr n w B Hm W k = -1 ↔ ¬ fit n w B Hm W k = true) := fun k => by
    unfold cvr
    by_cases q : fit n w B Hm W k = true
    · rw [if_pos q]; exact ⟨fun x => by omega, fun x => absurd q x⟩
    · rw [if_neg q]; exact ⟨fun _ => q, fun _ => rfl⟩
  obtain ⟨rk1, rk2, rk3⟩ := rk_lt (n := n) (w := w) (B := B) (Hm := Hm) (W := W) hk fk
  have nk : ¬ cvr n w B Hm W k = -1 := fun x => (cfit k).mp x fk
  intro d
  induction d with
  | zero =>
    intro f f' j x3 h e hf hf' hkj hx hc
    obtain ⟨f, rfl⟩ : ∃ g, f = g + 1 := ⟨f - 1, by omega⟩
    obtain ⟨f', rfl⟩ : ∃ g, f' = g + 1 := ⟨f' - 1, by omega⟩
    have ej : j = 144 := by omega
    subst ej
    refine ⟨x3, h, ?_, by omega, fun _ _ _ => rfl, fun _ => rfl, fun k299 x6 g t fk => ⟨g, ?_, fk, fun _ _ _ _ => rfl, fun _ => rfl⟩⟩
    · rw [F_X2_findsTwo_19]
      unfold F_X2_findsTwo_118 ck
      rw [if_pos (by omega), show ((k : Int)).toNat = k by omega, hc k hk, if_pos (cbd k), if_neg nk, if_pos (by omega), if_pos (by omega), show (k : Int) + 1 = ((k + 1 : Nat) : Int) by omega]
    · have t1 := t.1.1
      rw [F_X12_heads_314]
      unfold ck
      rw [t1, if_pos (by omega), if_pos (by omega), if_pos (by omega), rk1, show (rkf n w B Hm W k : Int) + 1 = ((rkf n w B Hm W k + 1 : Nat) : Int) by omega]
  | succ d ih =>
    intro f f' j x3 h e hf hf' hkj hx hc
    obtain ⟨f, rfl⟩ : ∃ g, f = g + 1 := ⟨f - 1, by omega⟩
    have hck := hc k hk
    have hcj := hc j (by omega)
    have sk : ((k : Int)).toNat = k := by omega
    have sj : ((j : Int)).toNat = j := by omega
    by_cases fj : fit n w B Hm W j = true
    rotate_left
    · have nj := (cfit j).mpr fj
      have er : rkf n w B Hm W (j + 1) = rkf n w B Hm W j := by unfold rkf; rw [cn, if_neg fj]; rfl
      obtain ⟨y, h', a1, a2, a3, a4, a5⟩ := ih f f' (j + 1) x3 h (by omega) (by omega) (by omega) (by omega) (by omega) hc
      refine ⟨y, h', ?_, by omega, a3, a4, ?_⟩
      · rw [← a1, F_X2_findsTwo_19]
        unfold F_X2_findsTwo_112 ck
        rw [if_pos (by omega), sk, hck, if_pos (cbd k), if_neg nk, if_pos (by omega), if_neg (by omega), if_pos (by omega), sj, hcj, if_pos (cbd j), if_pos nj, show (j : Int) + 1 = ((j + 1 : Nat) : Int) by omega]
      · rw [er] at a5
        exact a5
    obtain ⟨f', rfl⟩ : ∃ g, f' = g + 1 := ⟨f' - 1, by omega⟩
    have nj : ¬ cvr n w B Hm W j = -1 := fun x => (cfit j).mp x fj
    obtain ⟨c64, ciff⟩ := cv_two (n := n) (w := w) (B := B) (k := k) (j := j) (Hm := Hm) (W := W) hw.2 fk fj
    obtain ⟨rj1, rj2, rj3⟩ := rk_lt (n := n) (w := w) (B := B) (Hm := Hm) (W := W) (show j < 144 by omega) fj
    have st : F_X2_findsTwo_19 k5 (f + 1) (((2 ^ w : Nat) : Int) - 1) (x3 : Int) (k : Int) (j : Int) h = if lor64 (cvr n w B Hm W k) (cvr n w B Hm W j) = ((2 ^ w : Nat) : Int) - 1 then F_X2_findsTwo_19 k5 f (((2 ^ w : Nat) : Int) - 1) ((x3 + 1 : Nat) : Int) (k : Int) ((j + 1 : Nat) : Int) (hup (hup h 73 3 (if x3 = 0 then (k : Int) else h 73 3)) 73 4 (if x3 = 0 then (j : Int) else h 73 4)) else F_X2_findsTwo_19 k5 f (((2 ^ w : Nat) : Int) - 1) (x3 : Int) (k : Int) ((j + 1 : Nat) : Int) h := by
      rw [F_X2_findsTwo_19]
      unfold F_X2_findsTwo_112 F_X2_findsTwo_89 F_X2_findsTwo_106 F_X2_findsTwo_112 ck
      rw [if_pos (by omega), sk, hck, if_pos (cbd k), if_neg nk, if_pos (by omega), if_neg (by omega), if_pos (by omega), sj, hcj, if_pos (cbd j), if_neg nj, if_pos c64, if_pos (by omega), show (j : Int) + 1 = ((j + 1 : Nat) : Int) by omega, show (x3 : Int) + 1 = ((x3 + 1 : Nat) : Int) by omega]
      by_cases q : lor64 (cvr n w B Hm W k) (cvr n w B Hm W j) = ((2 ^ w : Nat) : Int) - 1
      · rw [if_neg (fun x => x q), if_pos q, if_pos (by omega)]
        by_cases q2 : x3 = 0
        · rw [if_neg (by omega), nx_eq, if_pos (by omega), if_neg (by omega), nx_eq, if_pos q2, if_pos q2]
        · rw [if_pos (by omega), nx_eq, if_pos (by omega), if_pos (by omega), nx_eq, if_neg q2, if_neg q2, hup_n _ _ _ _ 73 4 (by omega)]
      · rw [if_pos q, if_neg q]
    have so : ∀ (k299 : Int → Int → Int → Int → MH → Option (Int × MH)) (x6 : Int) (g : MH), GE n w B Hm W g → F_X12_heads_314 k299 (f' + 1) (w : Int) x6 2 (rkf n w B Hm W k : Int) (rkf n w B Hm W j : Int) g = if ((und B (Hm (k / 24)) (k % 24) : Nat) : Int) + ((und B (Hm (j / 24)) (j % 24) : Nat) : Int) - ((cn (fun i => pK Hm W k i && pK Hm W j i) w : Nat) : Int) = (w : Int) then (F_X12_found (rkf n w B Hm W k : Int) (rkf n w B Hm W j : Int) g).bind fun q10 => F_X12_heads_314 k299 f' (w : Int) x6 2 (rkf n w B Hm W k : Int) (rkf n w B Hm W (j + 1) : Int) q10 else F_X12_heads_314 k299 f' (w : Int) x6 2 (rkf n w B Hm W k : Int) (rkf n w B Hm W (j + 1) : Int) g := fun k299 x6 g t => by
      obtain ⟨⟨t1, t2⟩, t3, t4⟩ := t
      obtain ⟨u1, u2, u3⟩ := t2 k hk fk
      obtain ⟨v1, v2, v3⟩ := t2 j (by omega) fj
      have bh := both_l (n := n) (w := w) (B := B) (k := k) (j := j) (Hm := Hm) (W := W) (g := g) hn hw.2 hH t3 t4 (e := rkf n w B Hm W k) (e' := rkf n w B Hm W j) (by omega) (by omega) fk fj ⟨u1, u2⟩ ⟨v1, v2⟩ w 20000 0 (by omega) (by omega)
      rw [show cn (fun i => pK Hm W k i && pK Hm W j i) 0 = 0 from rfl, show ((0 : Nat) : Int) = 0 from rfl] at bh
      have bh' : F_X12_bothHave (rkf n w B Hm W k : Int) (rkf n w B Hm W j : Int) (w : Int) g = some (((cn (fun i => pK Hm W k i && pK Hm W j i) w : Nat) : Int), g) := bh
      have cl := cn_le (fun i => pK Hm W k i && pK Hm W j i) w
      have uk : und B (Hm (k / 24)) (k % 24) ≤ 60 := by
        have f4 := (of_decide_eq_true fk).2.2.2
        have := cn_le (pH W (Hm (k / 24)) (k % 24)) w
        omega
      have uj : und B (Hm (j / 24)) (j % 24) ≤ 60 := by
        have f4 := (of_decide_eq_true fj).2.2.2
        have := cn_le (pH W (Hm (j / 24)) (j % 24)) w
        omega
      rw [F_X12_heads_314]
      unfold F_X12_heads_360 ck
      rw [t1, if_pos (by omega), if_pos (by omega), if_neg (by omega), if_pos (by omega), if_pos (by omega), bh', bind_eq, show (((rkf n w B Hm W k : Nat) : Int)).toNat = rkf n w B Hm W k by omega, show (((rkf n w B Hm W j : Nat) : Int)).toNat = rkf n w B Hm W j by omega, u3, v3, show (rkf n w B Hm W j : Int) + 1 = ((rkf n w B Hm W (j + 1) : Nat) : Int) by omega]
      dsimp only
      rw [if_pos (by omega), if_pos (by omega)]
      by_cases q : ((und B (Hm (k / 24)) (k % 24) : Nat) : Int) + ((und B (Hm (j / 24)) (j % 24) : Nat) : Int) - ((cn (fun i => pK Hm W k i && pK Hm W j i) w : Nat) : Int) = (w : Int)
      · rw [if_neg (fun x => x q), if_pos q]
      · rw [if_pos q, if_neg q]
    by_cases q : lor64 (cvr n w B Hm W k) (cvr n w B Hm W j) = ((2 ^ w : Nat) : Int) - 1
    · generalize hh : hup (hup h 73 3 (if x3 = 0 then (k : Int) else h 73 3)) 73 4 (if x3 = 0 then (j : Int) else h 73 4) = h1 at st
      have h3 : h1 73 3 = if x3 = 0 then (k : Int) else h 73 3 := by rw [← hh, hup_n _ _ _ _ _ _ (by omega), hup_s]
      have h4 : h1 73 4 = if x3 = 0 then (j : Int) else h 73 4 := by rw [← hh, hup_s]
      have k7 : K73 h h1 := fun c i w1 => by rw [← hh, hup_n _ _ _ _ _ _ (by omega), hup_n _ _ _ _ _ _ (by omega)]
      obtain ⟨y, h', a1, a2, a3, a4, a5⟩ := ih f f' (j + 1) (x3 + 1) h1 (by omega) (by omega) (by omega) (by omega) (by omega) (fun j hj => by rw [k7 _ _ (by omega)]; exact hc j hj)
      refine ⟨y, h', by rw [st, if_pos q]; exact a1, by omega, fun c i w1 => by rw [a3 c i w1, k7 c i w1], fun z => absurd z (by omega), fun k299 x6 g t fk0 => ?_⟩
      obtain ⟨u1, u2, u3⟩ := t.1.2 k hk fk
      obtain ⟨v1, v2, v3⟩ := t.1.2 j (by omega) fj
      obtain ⟨g1, g2, g3, g4, g5, g6⟩ := found_eq (e := rkf n w B Hm W k) (e' := rkf n w B Hm W j) (g := g) (x := (x3 : Int)) (by omega) (by omega) fk0.1.1 (by omega)
      have fk1 : FK2 ((x3 + 1 : Nat) : Int) h1 g1 := by
        unfold FK2 FK
        rw [h3, h4]
        by_cases z : x3 = 0
        · rw [if_pos z, if_pos z]
          obtain ⟨x1, x2, x4, x5⟩ := g5 (by omega)
          refine ⟨⟨by rw [g4]; omega, fun _ => ⟨by omega, ?_, ?_⟩⟩, fun _ => ⟨by omega, ?_, ?_⟩⟩
          · rw [x1, u1, Int.tdiv_eq_ediv_of_nonneg (by omega), Int.natCast_ediv]; rfl
          · rw [x2, u2, Int.tmod_eq_emod_of_nonneg (by omega), Int.natCast_emod]; rfl
          · rw [x4, v1, Int.tdiv_eq_ediv_of_nonneg (by omega), Int.natCast_ediv]; rfl
          · rw [x5, v2, Int.tmod_eq_emod_of_nonneg (by omega), Int.natCast_emod]; rfl
        · rw [if_neg z, if_neg z, g6 (by omega), g6 (by omega), g6 (by omega), g6 (by omega)]
          exact ⟨⟨by rw [g4]; omega, fun _ => fk0.1.2 (by omega)⟩, fun _ => fk0.2 (by omega)⟩
      obtain ⟨g', b1, b2, b3, b4⟩ := a5 k299 x6 g1 (GE_n g3 t) fk1
      exact ⟨g', by rw [so k299 x6 g t, if_pos (ciff.mp q), g2, bind_eq]; exact b1, b2, g3.tr b3, fun z => absurd z (by omega)⟩
    · obtain ⟨y, h', a1, a2, a3, a4, a5⟩ := ih f f' (j + 1) x3 h (by omega) (by omega) (by omega) (by omega) (by omega) hc
      refine ⟨y, h', by rw [st, if_neg q]; exact a1, by omega, a3, a4, fun k299 x6 g t fk0 => ?_⟩
      obtain ⟨g', b1, b2, b3, b4⟩ := a5 k299 x6 g t fk0
      exact ⟨g', by rw [so k299 x6 g t, if_neg (fun x => q (ciff.mpr x))]; exact b1, b2, b3, b4⟩
