/-! ===== a line half read, on both sides ===== -/
theorem ix_get (v : List Int) : ∀ (l : List Nat) (j0 : Int), 0 ≤ j0 → ix l j0 v ≠ -1 → v = zsB.getD (l.getD (ix l j0 v - j0).toNat 0) []
  | [], _, _, z => absurd rfl z
  | s :: l, j0, h0, z => by
    rw [ix] at z ⊢
    by_cases e : v = zsB.getD s []
    · rw [if_pos e, Int.sub_self]; exact e
    · rw [if_neg e] at z ⊢
      have ih := ix_get v l (j0 + 1) (by omega) z
      have b := ix_b v l (j0 + 1) (by omega)
      rw [show (ix l (j0 + 1) v - j0).toNat = (ix l (j0 + 1) v - (j0 + 1)).toNat + 1 by omega]
      exact ih
theorem w19_iff {x : Nat} {j : Int} (hj : 0 ≤ j) (h1 : w19.getD j.toNat 0 = x) (h2 : ix w19 0 (zsB.getD x []) = j) (v : List Int) : ix w19 0 v = j ↔ v = zsB.getD x [] := by
  constructor
  · intro e
    have q := ix_get v w19 0 (by omega) (by omega)
    rw [e, Int.sub_zero, h1] at q
    exact q
  · intro e
    rw [e]; exact h2
theorem w19_0 (v : List Int) : ix w19 0 v = 0 ↔ v = zsB.getD 0 [] := w19_iff (by omega) (by decide) (by decide) v
theorem w19_1 (v : List Int) : ix w19 0 v = 1 ↔ v = zsB.getD 5 [] := w19_iff (by omega) (by decide) (by decide) v
theorem w19_2 (v : List Int) : ix w19 0 v = 2 ↔ v = zsB.getD 6 [] := w19_iff (by omega) (by decide) (by decide) v
theorem w19_3 (v : List Int) : ix w19 0 v = 3 ↔ v = zsB.getD 7 [] := w19_iff (by omega) (by decide) (by decide) v
theorem w19_4 (v : List Int) : ix w19 0 v = 4 ↔ v = zsB.getD 1 [] := w19_iff (by omega) (by decide) (by decide) v
theorem w19_5 (v : List Int) : ix w19 0 v = 5 ↔ v = zsB.getD 2 [] := w19_iff (by omega) (by decide) (by decide) v
theorem w19_6 (v : List Int) : ix w19 0 v = 6 ↔ v = zsB.getD 3 [] := w19_iff (by omega) (by decide) (by decide) v
theorem w19_7 (v : List Int) : ix w19 0 v = 7 ↔ v = zsB.getD 4 [] := w19_iff (by omega) (by decide) (by decide) v
theorem isn_l {L : Nat} {h g : MH} (s : S0 L h g) : ∃ b : Int, F_X3_isName h = some (b, h) ∧ F_X12_isName 19 g = some (b, g) ∧ ((b = 1 ∧ nOK w19 h) ∨ (b = 0 ∧ ¬ nOK w19 h)) := by
  obtain ⟨b, n1, n2⟩ := nameg (l := w19) s (by decide) (iw19 s)
  refine ⟨b, ?_, n1, n2⟩
  have yes : ∀ x, x ∈ w19 → tWd h = zsB.getD x [] → b = 0 := fun x hx e => by
    rcases n2 with ⟨_, n3⟩ | ⟨n3, _⟩
    · exact absurd n3.2.2 (ix_yes e w19 0 (by omega) hx)
    · exact n3
  unfold F_X3_isName F_X3_isName_0 ck
  rw [tshort_l s]
  by_cases m : h 8 4 = 1 ∧ h 8 3 - h 8 5 ≤ 8
  rotate_left
  · rw [if_neg m, bind_eq]
    dsimp only
    rw [if_pos (by omega), if_pos rfl]
    rcases n2 with ⟨_, n3⟩ | ⟨n3, _⟩
    · exact absurd ⟨n3.1, n3.2.1⟩ m
    · rw [n3]
  rw [if_pos m, bind_eq]
  dsimp only
  rw [if_pos (by omega), if_neg (by omega)]
  by_cases e0 : tWd h = zsB.getD 0 []
  · rw [is_t s (by omega) e0, bind_eq]
    dsimp only
    rw [if_pos (by omega), if_pos (by omega), yes 0 (by decide) e0]
  rw [is_f s (by omega) e0, bind_eq]
  dsimp only
  rw [if_pos (by omega), if_neg (by omega)]
  by_cases e1 : tWd h = zsB.getD 1 []
  · rw [is_t s (by omega) e1, bind_eq]
    dsimp only
    rw [if_pos (by omega), if_pos (by omega), yes 1 (by decide) e1]
  rw [is_f s (by omega) e1, bind_eq]
  dsimp only
  rw [if_pos (by omega), if_neg (by omega)]
  by_cases e2 : tWd h = zsB.getD 2 []
  · rw [is_t s (by omega) e2, bind_eq]
    dsimp only
    rw [if_pos (by omega), if_pos (by omega), yes 2 (by decide) e2]
  rw [is_f s (by omega) e2, bind_eq]
  dsimp only
  rw [if_pos (by omega), if_neg (by omega)]
  by_cases e3 : tWd h = zsB.getD 3 []
  · rw [is_t s (by omega) e3, bind_eq]
    dsimp only
    rw [if_pos (by omega), if_pos (by omega), yes 3 (by decide) e3]
  rw [is_f s (by omega) e3, bind_eq]
  dsimp only
  rw [if_pos (by omega), if_neg (by omega)]
  by_cases e4 : tWd h = zsB.getD 4 []
  · rw [is_t s (by omega) e4, bind_eq]
    dsimp only
    rw [if_pos (by omega), if_pos (by omega), yes 4 (by decide) e4]
  rw [is_f s (by omega) e4, bind_eq]
  dsimp only
  rw [if_pos (by omega), if_neg (by omega)]
  by_cases e5 : tWd h = zsB.getD 5 []
  · rw [is_t s (by omega) e5, bind_eq]
    dsimp only
    rw [if_pos (by omega), if_pos (by omega), yes 5 (by decide) e5]
  rw [is_f s (by omega) e5, bind_eq]
  dsimp only
  rw [if_pos (by omega), if_neg (by omega)]
  by_cases e6 : tWd h = zsB.getD 6 []
  · rw [is_t s (by omega) e6, bind_eq]
    dsimp only
    rw [if_pos (by omega), if_pos (by omega), yes 6 (by decide) e6]
  rw [is_f s (by omega) e6, bind_eq]
  dsimp only
  rw [if_pos (by omega), if_neg (by omega)]
  by_cases e7 : tWd h = zsB.getD 7 []
  · rw [is_t s (by omega) e7, bind_eq]
    dsimp only
    rw [if_pos (by omega), if_pos (by omega), yes 7 (by decide) e7]
  rw [is_f s (by omega) e7, bind_eq]
  dsimp only
  rw [if_pos (by omega), if_neg (by omega)]
  rcases n2 with ⟨n3, _⟩ | ⟨_, n3⟩
  · rw [n3]
  · refine (n3 ⟨m.1, m.2, ix_no w19 0 (fun x hx => ?_)⟩).elim
    unfold w19 at hx
    simp only [List.mem_cons, List.not_mem_nil, or_false] at hx
    rcases hx with q | q | q | q | q | q | q | q <;> subst q <;> assumption
/-- the first machine of that name, among those read -/
theorem named_p {h g : MH} {x y : Int} {M : Nat} (r1 : h 12 0 = (M : Int) ∧ M ≤ 6) (hn : ∀ m : Nat, m < M → nmR (h 23 m) (g 142 (1768 + 16 * m + 13))) (g0 : g 142 1760 = (M : Int)) (hx : nmR x y) : ∀ (d f f' m : Nat), m + d = M → d < f → d < f' →
    ∃ k : Int, F_X5_machineNamed_2 f 11 x (m : Int) h = some (k, h) ∧ F_X12_machineNamed_3 f' 1760 y (m : Int) g = some (k, g) ∧ (k = -1 ∨ (0 ≤ k ∧ k < 6)) := by
  have ix := nmR_in hx
  intro d
  induction d with
  | zero =>
    intro f f' m e hf hf'
    obtain ⟨f, rfl⟩ : ∃ g, f = g + 1 := ⟨f - 1, by omega⟩
    obtain ⟨f', rfl⟩ : ∃ g, f' = g + 1 := ⟨f' - 1, by omega⟩
    refine ⟨-1, ?_, ?_, Or.inl rfl⟩
    · rw [F_X5_machineNamed_2]
      unfold ck
      rw [show 11 + 1 = 12 from rfl, r1.1, if_pos (by omega), if_pos (by omega), if_pos (by omega)]
    · rw [F_X12_machineNamed_3]
      unfold ck
      rw [if_pos (by omega), if_pos (by omega), show ((1760 : Int) + 0).toNat = 1760 from rfl, g0, if_pos (by omega), if_pos (by omega)]
  | succ d ih =>
    intro f f' m e hf hf'
    obtain ⟨f, rfl⟩ : ∃ g, f = g + 1 := ⟨f - 1, by omega⟩
    obtain ⟨f', rfl⟩ : ∃ g, f' = g + 1 := ⟨f' - 1, by omega⟩
    have nm := hn m (by omega)
    have ii := nmR_in nm
    have iff := nmR_iff nm hx
    have sc : F_X5_machineNamed_2 (f + 1) 11 x (m : Int) h = if h 23 m = x then some ((m : Int), h) else F_X5_machineNamed_2 f 11 x ((m + 1 : Nat) : Int) h := by
      rw [F_X5_machineNamed_2]
      unfold ck
      rw [show 11 + 1 = 12 from rfl, show 11 + 12 = 23 from rfl, r1.1, if_pos (by omega), if_pos (by omega), if_neg (by omega), if_pos (by omega), show ((m : Int)).toNat = m by omega, if_pos ii.1, if_pos ix.1, show (m : Int) + 1 = ((m + 1 : Nat) : Int) by omega]
      by_cases q : h 23 m = x
      · rw [if_neg (fun z => z q), if_pos q]
      · rw [if_pos q, if_neg q]
    have so : F_X12_machineNamed_3 (f' + 1) 1760 y (m : Int) g = if g 142 (1768 + 16 * m + 13) = y then some ((m : Int), g) else F_X12_machineNamed_3 f' 1760 y ((m + 1 : Nat) : Int) g := by
      rw [F_X12_machineNamed_3]
      unfold F_X12_machineAt F_X12_machineAt_0 ck
      rw [if_pos (by omega), if_pos (by omega), show ((1760 : Int) + 0).toNat = 1760 from rfl, g0, if_pos (by omega), if_neg (by omega), bind_eq]
      dsimp only
      rw [if_pos (by omega), show ((1760 : Int) + 8 + 16 * (m : Int) + 13).toNat = 1768 + 16 * m + 13 by omega, if_pos ii.2, if_pos ix.2, show (m : Int) + 1 = ((m + 1 : Nat) : Int) by omega]
      by_cases q : g 142 (1768 + 16 * m + 13) = y
      · rw [if_neg (fun z => z q), if_pos q]
      · rw [if_pos q, if_neg q]
    by_cases q : h 23 m = x
    · exact ⟨(m : Int), by rw [sc, if_pos q], by rw [so, if_pos (iff.mp q)], Or.inr (by omega)⟩
    · obtain ⟨k, a1, a2, a3⟩ := ih f f' (m + 1) (by omega) (by omega) (by omega)
      exact ⟨k, by rw [sc, if_neg q]; exact a1, by rw [so, if_neg (fun z => q (iff.mpr z))]; exact a2, a3⟩
/-- the first sort of that name -/
theorem sort_p {h g : MH} {x y : Int} {T : Nat} (r1 : h 11 4 = (T : Int) ∧ T ≤ 7) (hn : ∀ m : Nat, m < T → nmR (h 26 m) (g 148 m)) (g0 : g 142 1761 = (T : Int)) (hx : nmR x y) (gn : F_X12_nameHere g = some (y, g)) : ∀ (d f f' m : Nat), m + d = T → d < f → d < f' →
    ∃ k : Int, F_X3_sortNamed_2 f x (m : Int) h = some (k, h) ∧ F_X12_sortHere_2 f' (m : Int) g = some (k, g) ∧ (k = -1 ∨ (0 ≤ k ∧ k < 7)) := by
  have ix := nmR_in hx
  intro d
  induction d with
  | zero =>
    intro f f' m e hf hf'
    obtain ⟨f, rfl⟩ : ∃ g, f = g + 1 := ⟨f - 1, by omega⟩
    obtain ⟨f', rfl⟩ : ∃ g, f' = g + 1 := ⟨f' - 1, by omega⟩
    refine ⟨-1, ?_, ?_, Or.inl rfl⟩
    · rw [F_X3_sortNamed_2]
      unfold ck
      rw [r1.1, if_pos (by omega), if_pos (by omega), if_pos (by omega)]
    · rw [F_X12_sortHere_2]
      unfold ck
      rw [g0, if_pos (by omega), if_pos (by omega), if_pos (by omega)]
  | succ d ih =>
    intro f f' m e hf hf'
    obtain ⟨f, rfl⟩ : ∃ g, f = g + 1 := ⟨f - 1, by omega⟩
    obtain ⟨f', rfl⟩ : ∃ g, f' = g + 1 := ⟨f' - 1, by omega⟩
    have nm := hn m (by omega)
    have ii := nmR_in nm
    have iff := nmR_iff nm hx
    have sc : F_X3_sortNamed_2 (f + 1) x (m : Int) h = if h 26 m = x then some ((m : Int), h) else F_X3_sortNamed_2 f x ((m + 1 : Nat) : Int) h := by
      rw [F_X3_sortNamed_2]
      unfold ck
      rw [r1.1, if_pos (by omega), if_pos (by omega), if_neg (by omega), if_pos (by omega), show ((m : Int)).toNat = m by omega, if_pos ii.1, if_pos ix.1, show (m : Int) + 1 = ((m + 1 : Nat) : Int) by omega]
      by_cases q : h 26 m = x
      · rw [if_neg (fun z => z q), if_pos q]
      · rw [if_pos q, if_neg q]
    have so : F_X12_sortHere_2 (f' + 1) (m : Int) g = if g 148 m = y then some ((m : Int), g) else F_X12_sortHere_2 f' ((m + 1 : Nat) : Int) g := by
      rw [F_X12_sortHere_2]
      unfold ck
      rw [g0, if_pos (by omega), if_pos (by omega), if_neg (by omega), if_pos (by omega), gn, bind_eq]
      dsimp only
      rw [show ((m : Int)).toNat = m by omega, if_pos ii.2, if_pos ix.2, show (m : Int) + 1 = ((m + 1 : Nat) : Int) by omega]
      by_cases q : g 148 m = y
      · rw [if_neg (fun z => z q), if_pos q]
      · rw [if_pos q, if_neg q]
    by_cases q : h 26 m = x
    · exact ⟨(m : Int), by rw [sc, if_pos q], by rw [so, if_pos (iff.mp q)], Or.inr (by omega)⟩
    · obtain ⟨k, a1, a2, a3⟩ := ih f f' (m + 1) (by omega) (by omega) (by omega)
      exact ⟨k, by rw [sc, if_neg q]; exact a1, by rw [so, if_neg (fun z => q (iff.mpr z))]; exact a2, a3⟩
/-! what is read so far -/
def MA (m : Nat) (h g : MH) : Prop :=
  (1 ≤ h 13 m ∧ h 13 m ≤ 99 ∧ g 142 (1768 + 16 * m) = h 13 m) ∧
  (1 ≤ h 24 m ∧ h 24 m ≤ 24 ∧ g 142 (1768 + 16 * m + 1) = h 24 m) ∧
  (0 ≤ h 14 m ∧ h 14 m ≤ 64 ∧ g 142 (1768 + 16 * m + 2) = h 14 m) ∧
  (0 ≤ h 15 m ∧ h 15 m ≤ 99 ∧ g 142 (1768 + 16 * m + 3) = h 15 m ∧ (0 < h 14 m → 1 ≤ h 15 m)) ∧
  (0 ≤ h 16 m ∧ h 16 m ≤ 999 ∧ g 142 (1768 + 16 * m + 11) = h 16 m) ∧
  nmR (h 23 m) (g 142 (1768 + 16 * m + 13))
def WA (k : Nat) (h g : MH) : Prop := (h 25 k = -1 ∧ g 142 (1900 + k) = 10 ∧ g 149 k = 0) ∨ (0 ≤ h 25 k ∧ h 25 k ≤ 999 ∧ g 142 (1900 + k) = h 25 k ∧ g 149 k = 1)
def FL (m : Nat) (h g : MH) : Prop := (h 10 5 = 0 ∨ h 10 5 = 1) ∧ g 142 (1768 + 16 * m + 14) = h 10 5
def LI (M T : Nat) (h g : MH) : Prop :=
  (h 12 0 = (M : Int) ∧ g 142 1760 = (M : Int) ∧ M ≤ 6) ∧
  (h 11 4 = (T : Int) ∧ g 142 1761 = (T : Int) ∧ T ≤ 7) ∧
  (∀ m, m < M → MA m h g) ∧
  (∀ m d, M ≤ m → m < 6 → d < 16 → g 142 (1768 + 16 * m + d) = 0) ∧
  (∀ m, m + 1 = M → FL m h g) ∧
  (∀ k, k < T → nmR (h 26 k) (g 148 k)) ∧
  (∀ k, k < 49 → WA k h g)
theorem MA_f {m : Nat} {h g h' g' : MH} (a : ∀ c, (13 ≤ c ∧ c ≤ 16) ∨ c = 23 ∨ c = 24 → h' c m = h c m) (b : ∀ d, d < 16 → g' 142 (1768 + 16 * m + d) = g 142 (1768 + 16 * m + d)) (p : MA m h g) : MA m h' g' := by
  have b0 : g' 142 (1768 + 16 * m) = g 142 (1768 + 16 * m) := b 0 (by omega)
  unfold MA at p ⊢
  rw [a 13 (by omega), a 24 (by omega), a 14 (by omega), a 15 (by omega), a 16 (by omega), a 23 (by omega), b0, b 1 (by omega), b 2 (by omega), b 3 (by omega), b 11 (by omega), b 13 (by omega)]
  exact p
theorem WA_f {k : Nat} {h g h' g' : MH} (a : h' 25 k = h 25 k) (b : g' 142 (1900 + k) = g 142 (1900 + k)) (c : g' 149 k = g 149 k) (p : WA k h g) : WA k h' g' := by
  unfold WA at p ⊢
  rw [a, b, c]
  exact p
theorem LI_f {M T : Nat} {h g h' g' : MH} (p : LI M T h g) (a : ∀ c k, 10 ≤ c → c ≤ 26 → ¬ (c = 10 ∧ k ≠ 5) → h' c k = h c k) (b : ∀ c k, 142 ≤ c → c ≤ 149 → c ≠ 147 → g' c k = g c k) : LI M T h' g' := by
  obtain ⟨⟨p1, p2, p3⟩, ⟨q1, q2, q3⟩, r, s, t, u, v⟩ := p
  refine ⟨⟨by rw [a _ _ (by omega) (by omega) (by omega)]; exact p1, by rw [b _ _ (by omega) (by omega) (by omega)]; exact p2, p3⟩, ⟨by rw [a _ _ (by omega) (by omega) (by omega)]; exact q1, by rw [b _ _ (by omega) (by omega) (by omega)]; exact q2, q3⟩, fun m hm => MA_f (fun c hc => a _ _ (by omega) (by omega) (by omega)) (fun d hd => b _ _ (by omega) (by omega) (by omega)) (r m hm), fun m d h1 h2 h3 => by rw [b _ _ (by omega) (by omega) (by omega)]; exact s m d h1 h2 h3, fun m hm => ?_, fun k hk => by rw [a _ _ (by omega) (by omega) (by omega), b _ _ (by omega) (by omega) (by omega)]; exact u k hk, fun k hk => WA_f (a _ _ (by omega) (by omega) (by omega)) (b _ _ (by omega) (by omega) (by omega)) (b _ _ (by omega) (by omega) (by omega)) (v k hk)⟩
  have w := t m hm
  unfold FL at w ⊢
  rw [a 10 5 (by omega) (by omega) (by omega), b _ _ (by omega) (by omega) (by omega)]
  exact w
/-- the last machine is put in, or changed -/
theorem LI_set {M0 M T : Nat} {h g h' g' : MH} (p : LI M0 T h g) (h0 : M ≤ M0 ∧ M0 ≤ M + 1 ∧ M < 6) (a : ∀ c k, 11 ≤ c → c ≤ 26 → ¬ (c = 12 ∧ k = 0) → ¬ (((13 ≤ c ∧ c ≤ 16) ∨ c = 23 ∨ c = 24) ∧ k = M) → h' c k = h c k) (b : ∀ c k, 142 ≤ c → c ≤ 149 → c ≠ 147 → ¬ (c = 142 ∧ k = 1760) → ¬ (c = 142 ∧ 1768 + 16 * M ≤ k ∧ k < 1768 + 16 * M + 16) → g' c k = g c k) (hM : h' 12 0 = ((M + 1 : Nat) : Int)) (gM : g' 142 1760 = ((M + 1 : Nat) : Int)) (ma : MA M h' g') (fl : FL M h' g') : LI (M + 1) T h' g' := by
  obtain ⟨⟨p1, p2, p3⟩, ⟨q1, q2, q3⟩, r, s, t, u, v⟩ := p
  refine ⟨⟨hM, gM, by omega⟩, ⟨by rw [a _ _ (by omega) (by omega) (by omega) (by omega)]; exact q1, by rw [b _ _ (by omega) (by omega) (by omega) (by omega) (by omega)]; exact q2, q3⟩, fun m hm => ?_, fun m d h1 h2 h3 => by rw [b _ _ (by omega) (by omega) (by omega) (by omega) (by omega)]; exact s m d (by omega) h2 h3, fun m hm => ?_, fun k hk => by rw [a _ _ (by omega) (by omega) (by omega) (by omega), b _ _ (by omega) (by omega) (by omega) (by omega) (by omega)]; exact u k hk, fun k hk => WA_f (a _ _ (by omega) (by omega) (by omega) (by omega)) (b _ _ (by omega) (by omega) (by omega) (by omega) (by omega)) (b _ _ (by omega) (by omega) (by omega) (by omega) (by omega)) (v k hk)⟩
  · by_cases z : m = M
    · subst z; exact ma
    · exact MA_f (fun c hc => a _ _ (by omega) (by omega) (by omega) (by omega)) (fun d hd => b _ _ (by omega) (by omega) (by omega) (by omega) (by omega)) (r m (by omega))
  · have : m = M := by omega
    subst this
    exact fl
theorem LI_sort {M T : Nat} {h g h' g' : MH} (p : LI M T h g) (hT : T < 7) (a : ∀ c k, 10 ≤ c → c ≤ 26 → ¬ (c = 10 ∧ k ≠ 5) → ¬ (c = 11 ∧ k = 4) → ¬ (c = 26 ∧ k = T) → h' c k = h c k) (b : ∀ c k, 142 ≤ c → c ≤ 149 → c ≠ 147 → ¬ (c = 142 ∧ k = 1761) → ¬ (c = 148 ∧ k = T) → g' c k = g c k) (hM : h' 11 4 = ((T + 1 : Nat) : Int)) (gM : g' 142 1761 = ((T + 1 : Nat) : Int)) (nm : nmR (h' 26 T) (g' 148 T)) : LI M (T + 1) h' g' := by
  obtain ⟨⟨p1, p2, p3⟩, ⟨q1, q2, q3⟩, r, s, t, u, v⟩ := p
  refine ⟨⟨by rw [a _ _ (by omega) (by omega) (by omega) (by omega) (by omega)]; exact p1, by rw [b _ _ (by omega) (by omega) (by omega) (by omega) (by omega)]; exact p2, p3⟩, ⟨hM, gM, by omega⟩, fun m hm => MA_f (fun c hc => a _ _ (by omega) (by omega) (by omega) (by omega) (by omega)) (fun d hd => b _ _ (by omega) (by omega) (by omega) (by omega) (by omega)) (r m hm), fun m d h1 h2 h3 => by rw [b _ _ (by omega) (by omega) (by omega) (by omega) (by omega)]; exact s m d h1 h2 h3, fun m hm => ?_, fun k hk => ?_, fun k hk => WA_f (a _ _ (by omega) (by omega) (by omega) (by omega) (by omega)) (b _ _ (by omega) (by omega) (by omega) (by omega) (by omega)) (b _ _ (by omega) (by omega) (by omega) (by omega) (by omega)) (v k hk)⟩
  · have w := t m hm
    unfold FL at w ⊢
    rw [a 10 5 (by omega) (by omega) (by omega) (by omega) (by omega), b _ _ (by omega) (by omega) (by omega) (by omega) (by omega)]
    exact w
  · by_cases z : k = T
    · subst z; exact nm
    · rw [a _ _ (by omega) (by omega) (by omega) (by omega) (by omega), b _ _ (by omega) (by omega) (by omega) (by omega) (by omega)]; exact u k (by omega)
theorem LI_wash {M T w : Nat} {h g h' g' : MH} (p : LI M T h g) (hw : w < 49) (a : ∀ c k, 10 ≤ c → c ≤ 26 → ¬ (c = 10 ∧ k ≠ 5) → ¬ (c = 25 ∧ k = w) → h' c k = h c k) (b : ∀ c k, 142 ≤ c → c ≤ 149 → c ≠ 147 → ¬ (c = 142 ∧ k = 1900 + w) → ¬ (c = 149 ∧ k = w) → g' c k = g c k) (wa : WA w h' g') : LI M T h' g' := by
  obtain ⟨⟨p1, p2, p3⟩, ⟨q1, q2, q3⟩, r, s, t, u, v⟩ := p
  refine ⟨⟨by rw [a _ _ (by omega) (by omega) (by omega) (by omega)]; exact p1, by rw [b _ _ (by omega) (by omega) (by omega) (by omega) (by omega)]; exact p2, p3⟩, ⟨by rw [a _ _ (by omega) (by omega) (by omega) (by omega)]; exact q1, by rw [b _ _ (by omega) (by omega) (by omega) (by omega) (by omega)]; exact q2, q3⟩, fun m hm => MA_f (fun c hc => a _ _ (by omega) (by omega) (by omega) (by omega)) (fun d hd => b _ _ (by omega) (by omega) (by omega) (by omega) (by omega)) (r m hm), fun m d h1 h2 h3 => by rw [b _ _ (by omega) (by omega) (by omega) (by omega) (by omega)]; exact s m d h1 h2 h3, fun m hm => ?_, fun k hk => by rw [a _ _ (by omega) (by omega) (by omega) (by omega), b _ _ (by omega) (by omega) (by omega) (by omega) (by omega)]; exact u k hk, fun k hk => ?_⟩
  · have w := t m hm
    unfold FL at w ⊢
    rw [a 10 5 (by omega) (by omega) (by omega) (by omega), b _ _ (by omega) (by omega) (by omega) (by omega) (by omega)]
    exact w
  · by_cases z : k = w
    · subst z; exact wa
    · exact WA_f (a _ _ (by omega) (by omega) (by omega) (by omega)) (b _ _ (by omega) (by omega) (by omega) (by omega) (by omega)) (b _ _ (by omega) (by omega) (by omega) (by omega) (by omega)) (v k hk)
