theorem TL_skip {n w B K : Nat} {Hm W : Nat → Nat} {g : MH} : ∀ d, (∀ k, K ≤ k → k < K + d → fit n w B Hm W k = false) → TL n w B Hm W K g → TL n w B Hm W (K + d) g
  | 0, _, t => t
  | d + 1, h, t => by
    obtain ⟨t1, t2⟩ := TL_skip d (fun k a b => h k a (by omega)) t
    have z := h (K + d) (by omega) (by omega)
    refine ⟨?_, fun k hk hf => ?_⟩
    · rw [t1, ← Nat.add_assoc]
      unfold rkf
      rw [cn, z]
      simp
    · by_cases e : k = K + d
      · subst e; rw [z] at hf; exact absurd hf (by decide)
      · exact t2 k (by omega) hf
theorem th30 {n w B m : Nat} {Hm W : Nat → Nat} {k7 : Int → Int → MH → Option MH} (hn : n ≤ 6) (hB : 1 ≤ B ∧ B ≤ 9999) (hm : m < n) (hH : 1 ≤ Hm m ∧ Hm m ≤ 24) (hW : ∀ i j, i < j → j < w → W i < W j) (hb : ∀ i, i < w → W i < B) : ∀ (d f j : Nat) (g : MH), j + d = Hm m → d < f → TL n w B Hm W (24 * m + j) g → (∀ v, v < B → (g 154 v = 0 ∨ g 154 v = 1) ∧ (g 154 v = 1 ↔ ∃ i, i < w ∧ W i = v)) →
    ∃ g', F_X12_takesHeads_30 k7 f (B : Int) (m : Int) (Hm m : Int) (j : Int) g = k7 (B : Int) ((m + 1 : Nat) : Int) g' ∧ TL n w B Hm W (24 * (m + 1)) g' ∧ K155 g g' := by
  have fd : ∀ j, j < 24 → (24 * m + j) / 24 = m ∧ (24 * m + j) % 24 = j := fun j hj => by omega
  have unfit : ∀ j, j < 24 → (Hm m ≤ j ∨ Hm m ≤ 1) → fit n w B Hm W (24 * m + j) = false := fun j hj q => by
    unfold fit
    rw [(fd j hj).1, (fd j hj).2]
    exact decide_eq_false (fun x => by omega)
  intro d
  induction d with
  | zero =>
    intro f j g e hf t hg
    obtain ⟨f, rfl⟩ : ∃ g, f = g + 1 := ⟨f - 1, by omega⟩
    have z := TL_skip (24 - j) (fun k a b => by
      have := unfit (k - 24 * m) (by omega) (Or.inl (by omega))
      rw [show 24 * m + (k - 24 * m) = k by omega] at this
      exact this) t
    rw [show 24 * m + j + (24 - j) = 24 * (m + 1) by omega] at z
    refine ⟨g, ?_, z, fun _ _ _ _ _ _ => rfl⟩
    rw [F_X12_takesHeads_30]
    unfold F_X12_takesHeads_139 ck
    rw [if_pos (by omega), if_pos (by omega), if_pos (by omega), show (m : Int) + 1 = ((m + 1 : Nat) : Int) by omega]
  | succ d ih =>
    intro f j g e hf t hg
    obtain ⟨f, rfl⟩ : ∃ g, f = g + 1 := ⟨f - 1, by omega⟩
    by_cases h1 : Hm m ≤ 1
    · have z := TL_skip (24 - j) (fun k a b => by
        have := unfit (k - 24 * m) (by omega) (Or.inr h1)
        rw [show 24 * m + (k - 24 * m) = k by omega] at this
        exact this) t
      rw [show 24 * m + j + (24 - j) = 24 * (m + 1) by omega] at z
      refine ⟨g, ?_, z, fun _ _ _ _ _ _ => rfl⟩
      rw [F_X12_takesHeads_30]
      unfold F_X12_takesHeads_139 ck
      rw [if_pos (by omega), if_pos (by omega), if_neg (by omega), if_pos (by omega), show (m : Int) + 1 = ((m + 1 : Nat) : Int) by omega]
    · obtain ⟨b, b1, x5, b2, b3⟩ := th51 (n := n) (w := w) (m := m) (H := Hm m) (hd := j) (W := W) (k7 := k7) (k30 := F_X12_takesHeads_30 k7 f) (g := g) hB (by omega) (by omega) hg (und B (Hm m) j) 20000 0 (by omega) (by
        have : und B (Hm m) j ≤ 10023 := by unfold und; have := Nat.div_le_self (B + Hm m - 1 - j) (Hm m); omega
        omega) (fun j' hj' => absurd hj' (by omega))
      rw [Nat.zero_mul, Nat.add_zero, show ((0 : Nat) : Int) = 0 from rfl] at b3
      have fi := fit_iff (W := W) (H := Hm m) (hd := j) (w := w) (B := B) hB.1 (by omega) hW hb
      obtain ⟨f1, f2⟩ := fd j (by omega)
      obtain ⟨t1, t2⟩ := t
      have rl := cn_le (fit n w B Hm W) (24 * m + j)
      have ub : und B (Hm m) j ≤ 10023 := by unfold und; have := Nat.div_le_self (B + Hm m - 1 - j) (Hm m); omega
      have st : F_X12_takesHeads_30 k7 (f + 1) (B : Int) (m : Int) (Hm m : Int) (j : Int) g = F_X12_takesHeads_83 k7 (F_X12_takesHeads_30 k7 f) (B : Int) (m : Int) (Hm m : Int) (j : Int) x5 b g := by
        rw [← b3, F_X12_takesHeads_30]
        unfold ck
        rw [if_pos (by omega), if_pos (by omega), if_neg (by omega), if_neg (by omega)]
      rcases b1 with ⟨rfl, ba⟩ | ⟨rfl, bn⟩
      · have ft : fit n w B Hm W (24 * m + j) = true := by
          unfold fit
          rw [f1, f2]
          exact decide_eq_true ⟨hm, by omega, by omega, fi.mpr ba⟩
        obtain ⟨r, er⟩ : ∃ r, rkf n w B Hm W (24 * m + j) = r := ⟨_, rfl⟩
        have er2 : rkf n w B Hm W (24 * m + (j + 1)) = r + 1 := by
          rw [← Nat.add_assoc]; unfold rkf at er ⊢; rw [cn, er, ft]; simp
        have rb : r ≤ 24 * m + j := by rw [← er]; exact rl
        rw [er] at t1
        generalize hk : hup (hup (hup (hup g 155 r (m : Int)) 156 r (j : Int)) 157 r x5) 141 39 ((r : Int) + 1) = g1
        have k0 : ∀ c i, ¬ ((c = 155 ∨ c = 156 ∨ c = 157) ∧ i = r) → ¬ (c = 141 ∧ i = 39) → g1 c i = g c i := fun c i w1 w2 => by
          rw [← hk, hup_n _ _ _ _ _ _ (by omega), hup_n _ _ _ _ _ _ (by omega), hup_n _ _ _ _ _ _ (by omega), hup_n _ _ _ _ _ _ (by omega)]
        have rlt : ∀ k, k < 24 * m + j → fit n w B Hm W k = true → rkf n w B Hm W k < r := fun k hk hf => by
          have m1 := cn_mono (fit n w B Hm W) (j := k + 1) (24 * m + j - (k + 1))
          rw [show k + 1 + (24 * m + j - (k + 1)) = 24 * m + j by omega, cn, if_pos hf] at m1
          unfold rkf at er ⊢
          omega
        obtain ⟨g', a1, a2, a3⟩ := ih f (j + 1) g1 (by omega) (by omega) ⟨by rw [er2, ← hk, hup_s]; omega, fun k hk' hf => by
          by_cases z : k = 24 * m + j
          · subst z
            rw [er, f1, f2]
            refine ⟨?_, ?_, ?_⟩
            · rw [← hk, hup_n _ _ _ _ _ _ (by omega), hup_n _ _ _ _ _ _ (by omega), hup_n _ _ _ _ _ _ (by omega), hup_s]
            · rw [← hk, hup_n _ _ _ _ _ _ (by omega), hup_n _ _ _ _ _ _ (by omega), hup_s]
            · rw [← hk, hup_n _ _ _ _ _ _ (by omega), hup_s]; exact b2 rfl
          · have l := rlt k (by omega) hf
            rw [k0 _ _ (by omega) (by omega), k0 _ _ (by omega) (by omega), k0 _ _ (by omega) (by omega)]
            exact t2 k (by omega) hf⟩ (fun v hv => by rw [k0 _ _ (by omega) (by omega)]; exact hg v hv)
        refine ⟨g', ?_, a2, fun c i w1 w2 w3 w4 => by rw [a3 c i w1 w2 w3 w4, k0 c i (by omega) w4]⟩
        rw [st, ← a1]
        unfold F_X12_takesHeads_83 F_X12_takesHeads_133 ck
        rw [if_pos (by omega), if_pos (by omega), t1, if_pos (by omega), nx_eq, hup_n _ 155 _ _ 141 39 (by omega), t1, if_pos (by omega), nx_eq, hup_n _ 156 _ _ 141 39 (by omega), hup_n _ 155 _ _ 141 39 (by omega), t1, if_pos (by omega), nx_eq, nx_eq, hup_n _ 157 _ _ 141 39 (by omega), hup_n _ 156 _ _ 141 39 (by omega), hup_n _ 155 _ _ 141 39 (by omega), t1, show ((r : Int)).toNat = r by omega, hk, show (j : Int) + 1 = ((j + 1 : Nat) : Int) by omega]
      · have ft : fit n w B Hm W (24 * m + j) = false := by
          unfold fit
          rw [f1, f2]
          exact decide_eq_false (fun x => bn (fi.mp x.2.2.2))
        have t' := TL_skip 1 (fun k a b => by rw [show k = 24 * m + j by omega]; exact ft) (show TL n w B Hm W (24 * m + j) g from ⟨t1, t2⟩)
        rw [Nat.add_assoc] at t'
        obtain ⟨g', a1, a2, a3⟩ := ih f (j + 1) g (by omega) (by omega) t' hg
        refine ⟨g', ?_, a2, a3⟩
        rw [st, ← a1]
        unfold F_X12_takesHeads_83 F_X12_takesHeads_133 ck
        rw [if_pos (by omega), if_neg (by omega), show (j : Int) + 1 = ((j + 1 : Nat) : Int) by omega]
theorem th7 {n w B : Nat} {Hm W : Nat → Nat} (hn : n ≤ 6) (hB : 1 ≤ B ∧ B ≤ 9999) (hH : ∀ m, m < n → 1 ≤ Hm m ∧ Hm m ≤ 24) (hW : ∀ i j, i < j → j < w → W i < W j) (hb : ∀ i, i < w → W i < B) : ∀ (d f m : Nat) (g : MH), m + d = n → d < f → g 142 0 = (n : Int) → (∀ m, m < n → g 142 (8 + 16 * m + 1) = (Hm m : Int)) → TL n w B Hm W (24 * m) g → (∀ v, v < B → (g 154 v = 0 ∨ g 154 v = 1) ∧ (g 154 v = 1 ↔ ∃ i, i < w ∧ W i = v)) →
    ∃ g', F_X12_takesHeads_7 f (B : Int) (m : Int) g = some g' ∧ TL n w B Hm W 144 g' ∧ K155 g g' := by
  intro d
  induction d with
  | zero =>
    intro f m g e hf g0 gH t hg
    obtain ⟨f, rfl⟩ : ∃ g, f = g + 1 := ⟨f - 1, by omega⟩
    have z := TL_skip (144 - 24 * m) (fun k a b => by
      unfold fit
      exact decide_eq_false (fun x => by omega)) t
    rw [show 24 * m + (144 - 24 * m) = 144 by omega] at z
    refine ⟨g, ?_, z, fun _ _ _ _ _ _ => rfl⟩
    rw [F_X12_takesHeads_7]
    unfold ck
    rw [if_pos (by omega), if_pos (by omega), if_pos (by omega)]
  | succ d ih =>
    intro f m g e hf g0 gH t hg
    obtain ⟨f, rfl⟩ : ∃ g, f = g + 1 := ⟨f - 1, by omega⟩
    obtain ⟨g1, a1, a2, a3⟩ := th30 (k7 := F_X12_takesHeads_7 f) hn hB (show m < n by omega) (hH m (by omega)) hW hb (Hm m) 20000 0 g (by omega) (by have := hH m (by omega); omega) t hg
    obtain ⟨g', b1, b2, b3⟩ := ih f (m + 1) g1 (by omega) (by omega) (by rw [a3 _ _ (by omega) (by omega) (by omega) (by omega)]; exact g0) (fun m hm => by rw [a3 _ _ (by omega) (by omega) (by omega) (by omega)]; exact gH m hm) a2 (fun v hv => by rw [a3 _ _ (by omega) (by omega) (by omega) (by omega)]; exact hg v hv)
    refine ⟨g', ?_, b2, a3.tr b3⟩
    rw [show ((0 : Nat) : Int) = 0 from rfl] at a1
    rw [← b1, ← a1, F_X12_takesHeads_7]
    unfold F_X12_ofMachine F_X12_ofMachine_0 F_X12_machineAt F_X12_machineAt_0 ck
    rw [if_pos (by omega), if_pos (by omega), if_neg (by omega), bind_eq]
    dsimp only
    rw [if_pos (by omega), bind_eq, show ((0 : Int) + 8 + 16 * (m : Int) + 1).toNat = 8 + 16 * m + 1 by omega, gH m (by omega)]
