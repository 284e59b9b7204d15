def risG (lim : Int) (w : Nat → Int) (N : Nat) : Prop := ∀ k, k < N → (0 ≤ w k ∧ w k ≤ lim) ∧ (0 < k → w (k - 1) < w k)
theorem ris_g {c N : Nat} {lim : Int} {h : MH} (hl : 0 ≤ lim ∧ lim ≤ 9999) (hN : N ≤ 60) (hv : ∀ k, k < N → in64 (h c k)) : ∀ (d f j : Nat), j + d = N → d < f → (∀ k, k < j → (0 ≤ h c k ∧ h c k ≤ lim) ∧ (0 < k → h c (k - 1) < h c k)) →
    ∃ b : Int, (b = 0 ∨ b = 1) ∧ F_X11_rises_2 f c (N : Int) lim (j : Int) h = some (b, h) ∧ (b = 1 ↔ risG lim (h c) N) := by
  intro d
  induction d with
  | zero =>
    intro f j e hf hp
    obtain ⟨f, rfl⟩ : ∃ g, f = g + 1 := ⟨f - 1, by omega⟩
    have : j = N := by omega
    subst this
    refine ⟨1, Or.inr rfl, ?_, ⟨fun _ => hp, fun _ => rfl⟩⟩
    unfold F_X11_rises_2 ck
    rw [if_pos (by omega), if_pos (by omega), if_pos (by omega)]
  | succ d ih =>
    intro f j e hf hp
    obtain ⟨f, rfl⟩ : ∃ g, f = g + 1 := ⟨f - 1, by omega⟩
    have hj := hv j (by omega)
    by_cases j0 : j = 0
    · subst j0
      by_cases q : 0 ≤ h c 0 ∧ h c 0 ≤ lim
      · have E : F_X11_rises_2 (f + 1) c (N : Int) lim ((0 : Nat) : Int) h = F_X11_rises_2 f c (N : Int) lim ((0 + 1 : Nat) : Int) h := by
          rw [F_X11_rises_2]
          unfold F_X11_rises_25 ck
          rw [if_pos (by omega), if_pos (by omega), if_neg (by omega), if_pos (by omega), if_neg (by omega), if_pos (by omega), Int.toNat_natCast, out_eq hj (by omega) (by omega), if_pos q]
          rfl
        rw [E]
        exact ih f (0 + 1) (by omega) (by omega) (fun k hk => by
          have : k = 0 := by omega
          subst this; exact ⟨q, fun w => by omega⟩)
      · refine ⟨0, Or.inl rfl, ?_, ⟨fun w => by omega, fun w => absurd (w 0 (by omega)).1 q⟩⟩
        rw [F_X11_rises_2]
        unfold F_X11_rises_25 ck
        rw [if_pos (by omega), if_pos (by omega), if_neg (by omega), if_pos (by omega), if_neg (by omega), if_pos (by omega), Int.toNat_natCast, out_eq hj (by omega) (by omega), if_neg q]
        rfl
    · have hq := hp (j - 1) (by omega)
      have hx : ((j : Int) - 1).toNat = j - 1 := by omega
      by_cases q : h c (j - 1) + 1 ≤ h c j ∧ h c j ≤ lim
      · have E : F_X11_rises_2 (f + 1) c (N : Int) lim (j : Int) h = F_X11_rises_2 f c (N : Int) lim ((j + 1 : Nat) : Int) h := by
          rw [F_X11_rises_2]
          unfold F_X11_rises_25 ck
          rw [if_pos (by omega), if_pos (by omega), if_neg (by omega), if_pos (by omega), if_pos (by omega), if_pos (by omega), if_pos (by omega), Int.toNat_natCast, hx, out_eq hj (by omega) (by omega), if_pos q]
          rfl
        rw [E]
        exact ih f (j + 1) (by omega) (by omega) (fun k hk => by
          by_cases ek : k = j
          · subst ek; exact ⟨by omega, fun w => by omega⟩
          · exact hp k (by omega))
      · refine ⟨0, Or.inl rfl, ?_, ⟨fun w => by omega, fun w => ?_⟩⟩
        · rw [F_X11_rises_2]
          unfold F_X11_rises_25 ck
          rw [if_pos (by omega), if_pos (by omega), if_neg (by omega), if_pos (by omega), if_pos (by omega), if_pos (by omega), if_pos (by omega), Int.toNat_natCast, hx, out_eq hj (by omega) (by omega), if_neg q]
          rfl
        · have w2 := w j (by omega)
          have w3 := w2.2 (by omega)
          omega
theorem hdC {t N : Nat} {x : Int} {h : MH} (hx : in32 x) (ht : t < 4) (hN : N ≤ 60) (hv : ∀ k, k < N → in64 (h 145 (60 * t + k))) : ∀ (d f j : Nat) (fl : Int), (fl = 0 ∨ fl = 1) → 1 ≤ j → (j + d = N ∨ (d = 0 ∧ N ≤ j ∧ j ≤ 60)) → d < f →
    ∃ b : Int, (b = 0 ∨ b = 1) ∧ F_X12_heads_48 f x (t : Int) (N : Int) 0 fl (j : Int) h = F_X12_heads_107 x (t : Int) (N : Int) 0 b h ∧ (b = 1 ↔ fl = 1 ∧ ∀ k, j ≤ k → k < N → h 145 (60 * t + (k - 1)) < h 145 (60 * t + k)) := by
  intro d
  induction d with
  | zero =>
    intro f j fl hfl hj e hf
    obtain ⟨f, rfl⟩ : ∃ g, f = g + 1 := ⟨f - 1, by omega⟩
    refine ⟨fl, hfl, ?_, ⟨fun w => ⟨w, fun k h1 h2 => by omega⟩, fun w => w.1⟩⟩
    rw [F_X12_heads_48]
    unfold ck
    rw [if_pos (by omega), if_pos (by omega), if_pos (by omega)]
  | succ d ih =>
    intro f j fl hfl hj e hf
    obtain ⟨f, rfl⟩ : ∃ g, f = g + 1 := ⟨f - 1, by omega⟩
    have hn := hv j (by omega)
    have hm := hv (j - 1) (by omega)
    have hy : (60 * (t : Int) + (j : Int)).toNat = 60 * t + j := by omega
    have hz : (60 * (t : Int) + (j : Int) - 1).toNat = 60 * t + (j - 1) := by omega
    rcases hfl with q | q <;> subst q
    · have E : F_X12_heads_48 (f + 1) x (t : Int) (N : Int) 0 0 (j : Int) h = F_X12_heads_48 f x (t : Int) (N : Int) 0 0 ((j + 1 : Nat) : Int) h := by
        rw [F_X12_heads_48]
        unfold F_X12_heads_98 F_X12_heads_99 ck
        rw [if_pos (by omega), if_pos (by omega), if_neg (by omega), if_pos (by omega), if_neg (by omega), if_pos (by omega), if_pos rfl]
        rfl
      rw [E]
      obtain ⟨b, b1, b2, b3⟩ := ih f (j + 1) 0 (Or.inl rfl) (by omega) (by omega) (by omega)
      exact ⟨b, b1, b2, b3.trans ⟨fun w => by omega, fun w => by omega⟩⟩
    · by_cases q : h 145 (60 * t + j) ≤ h 145 (60 * t + (j - 1))
      · have E : F_X12_heads_48 (f + 1) x (t : Int) (N : Int) 0 1 (j : Int) h = F_X12_heads_48 f x (t : Int) (N : Int) 0 0 ((j + 1 : Nat) : Int) h := by
          rw [F_X12_heads_48]
          unfold F_X12_heads_98 F_X12_heads_99 ck
          rw [if_pos (by omega), if_pos (by omega), if_neg (by omega), if_pos (by omega), if_neg (by omega), if_pos (by omega), if_neg (by omega), if_pos (by omega), if_pos (by omega), hy, hz, if_pos hn, if_pos hm, if_pos q]
          rfl
        rw [E]
        obtain ⟨b, b1, b2, b3⟩ := ih f (j + 1) 0 (Or.inl rfl) (by omega) (by omega) (by omega)
        exact ⟨b, b1, b2, b3.trans ⟨fun w => by omega, fun w => by have := w.2 j (by omega) (by omega); omega⟩⟩
      · have E : F_X12_heads_48 (f + 1) x (t : Int) (N : Int) 0 1 (j : Int) h = F_X12_heads_48 f x (t : Int) (N : Int) 0 1 ((j + 1 : Nat) : Int) h := by
          rw [F_X12_heads_48]
          unfold F_X12_heads_98 F_X12_heads_99 ck
          rw [if_pos (by omega), if_pos (by omega), if_neg (by omega), if_pos (by omega), if_neg (by omega), if_pos (by omega), if_neg (by omega), if_pos (by omega), if_pos (by omega), hy, hz, if_pos hn, if_pos hm, if_neg q]
          rfl
        rw [E]
        obtain ⟨b, b1, b2, b3⟩ := ih f (j + 1) 1 (Or.inr rfl) (by omega) (by omega) (by omega)
        refine ⟨b, b1, b2, b3.trans ⟨fun w => ⟨rfl, fun k h1 h2 => ?_⟩, fun w => ⟨rfl, fun k h1 h2 => w.2 k (by omega) h2⟩⟩⟩
        by_cases ek : k = j
        · subst ek; omega
        · exact w.2 k (by omega) h2
theorem two_l {n w B : Nat} {Hm W : Nat → Nat} (hn : n ≤ 6) (hw : 1 ≤ w ∧ w ≤ 60) (hH : ∀ m, m < n → 1 ≤ Hm m ∧ Hm m ≤ 24) : ∀ (d f f' k x3 : Nat) (h : MH), k + d = 144 → d < f → d < f' → x3 ≤ 144 * k → (∀ j, j < 144 → h 74 j = cvr n w B Hm W j) →
    ∃ (y : Nat) (h' : MH), F_X2_findsTwo_5 f (((2 ^ w : Nat) : Int) - 1) (x3 : Int) (k : Int) h = (if y = 0 then some (0, h') else some (1, hup (hup h' 73 1 2) 73 2 (y : Int))) ∧ (x3 ≤ y ∧ y ≤ 20736) ∧ K73 h h' ∧ (y = 0 → h' = h) ∧
      ∀ (x6 : Int) (g : MH), GE n w B Hm W g → FK2 (x3 : Int) h g → ∃ g', F_X12_heads_299 f' (w : Int) x6 2 (rkf n w B Hm W k : Int) g = F_X12_heads_372 x6 2 g' ∧ FK2 (y : Int) h' g' ∧ KF g g' ∧ (y = 0 → g' = g) := by
  have cfit : ∀ k, (cvr n w B Hm W k = -1 ↔ ¬ fit n w B Hm W k = true) := fun k => by
    unfold cvr
    by_cases q : fit n w B Hm W k = true
    · rw [if_pos q]; exact ⟨fun x => by omega, fun x => absurd q x⟩
    · rw [if_neg q]; exact ⟨fun _ => q, fun _ => rfl⟩
  intro d
  induction d with
  | zero =>
    intro f f' k x3 h e hf hf' hx hc
    obtain ⟨f, rfl⟩ : ∃ g, f = g + 1 := ⟨f - 1, by omega⟩
    obtain ⟨f', rfl⟩ : ∃ g, f' = g + 1 := ⟨f' - 1, by omega⟩
    have ek : k = 144 := by omega
    subst ek
    refine ⟨x3, h, ?_, by omega, fun _ _ _ => rfl, fun _ => rfl, fun x6 g t fk => ⟨g, ?_, fk, fun _ _ _ _ => rfl, fun _ => rfl⟩⟩
    · rw [F_X2_findsTwo_5]
      unfold F_X2_keeps F_X2_keeps_0 ck
      rw [if_pos (by omega), if_pos (by omega), if_pos (by omega)]
      by_cases q : x3 = 0
      · rw [if_neg (by omega), if_pos q, bind_eq, if_pos (Or.inl rfl)]
      · rw [if_pos (by omega), if_neg q, nx_eq, nx_eq, bind_eq, if_pos (Or.inr rfl)]
    · have rl := cn_le (fit n w B Hm W) 144
      have t1 := t.1.1
      unfold rkf at t1 ⊢
      rw [F_X12_heads_299]
      unfold ck
      rw [t1, if_pos (by omega), if_pos (by omega), if_pos (by omega)]
  | succ d ih =>
    intro f f' k x3 h e hf hf' hx hc
    obtain ⟨f, rfl⟩ : ∃ g, f = g + 1 := ⟨f - 1, by omega⟩
    have hck := hc k (by omega)
    by_cases fk : fit n w B Hm W k = true
    rotate_left
    · have er : rkf n w B Hm W (k + 1) = rkf n w B Hm W k := by unfold rkf; rw [cn, if_neg fk]; rfl
      obtain ⟨y, h', a1, a2, a3, a4, a5⟩ := ih f f' (k + 1) x3 h (by omega) (by omega) (by omega) (by omega) hc
      refine ⟨y, h', ?_, a2, a3, a4, ?_⟩
      · have nk := (cfit k).mpr fk
        rw [← a1, F_X2_findsTwo_5]
        unfold ck
        rw [if_pos (by omega), if_neg (by omega), nx_eq, show (20000 : Nat) = 19999 + 1 from rfl, F_X2_findsTwo_19]
        unfold F_X2_findsTwo_118 ck
        rw [if_pos (by omega), show ((k : Int)).toNat = k by omega, hck, if_pos (by omega), if_pos nk, show (k : Int) + 1 = ((k + 1 : Nat) : Int) by omega]
      · rw [er] at a5
        exact a5
    obtain ⟨f', rfl⟩ : ∃ g, f' = g + 1 := ⟨f' - 1, by omega⟩
    obtain ⟨rk1, rk2, rk3⟩ := rk_lt (n := n) (w := w) (B := B) (Hm := Hm) (W := W) (show k < 144 by omega) fk
    obtain ⟨y1, h1, a1, a2, a3, a4, a5⟩ := in_l (k5 := F_X2_findsTwo_5 f) hn hw hH (show k < 144 by omega) fk (143 - k) 20000 20000 (k + 1) x3 h (by omega) (by omega) (by omega) (by omega) (by omega) hc
    obtain ⟨y, h', b1, b2, b3, b4, b5⟩ := ih f f' (k + 1) y1 h1 (by omega) (by omega) (by omega) (by omega) (fun j hj => by rw [a3 _ _ (by omega)]; exact hc j hj)
    refine ⟨y, h', ?_, by omega, fun c i w1 => by rw [b3 c i w1, a3 c i w1], fun z => by rw [b4 z, a4 (by omega)], fun x6 g t fk0 => ?_⟩
    · rw [← b1, ← a1, F_X2_findsTwo_5]
      unfold ck
      rw [if_pos (by omega), if_neg (by omega), nx_eq, show (k : Int) + 1 = ((k + 1 : Nat) : Int) by omega]
    · obtain ⟨g1, c1, c2, c3, c4⟩ := a5 (F_X12_heads_299 f') x6 g t fk0
      obtain ⟨g', d1, d2, d3, d4⟩ := b5 x6 g1 (GE_n c3 t) c2
      have t1 := t.1.1
      refine ⟨g', ?_, d2, c3.tr d3, fun z => by rw [d4 z, c4 (by omega)]⟩
      rw [← d1, ← c1, F_X12_heads_299]
      unfold ck
      rw [t1, if_pos (by omega), if_pos (by omega), if_neg (by omega), nx_eq, rk1, show (rkf n w B Hm W k : Int) + 1 = ((rkf n w B Hm W k + 1 : Nat) : Int) by omega]
