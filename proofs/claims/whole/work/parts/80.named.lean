/-! ===== names on both sides ===== -/
def lw (w : List Int) : Prop := ∀ c ∈ w, 97 ≤ c ∧ c ≤ 122
theorem en_app5 (w : List Int) (c : Int) : en5 (w ++ [c]) = en5 w * 32 + (c - 96) := by unfold en5; rw [List.foldl_append]; rfl
theorem en_app8 (w : List Int) (c : Int) : en8 (w ++ [c]) = en8 w * 256 + c := by unfold en8; rw [List.foldl_append]; rfl
theorem lw_app {w : List Int} {c : Int} (h : lw (w ++ [c])) : lw w ∧ 97 ≤ c ∧ c ≤ 122 := ⟨fun d hd => h d (List.mem_append_left _ hd), h c (List.mem_append_right _ (List.mem_singleton.mpr rfl))⟩
theorem en5_pos : ∀ (n : Nat) (w : List Int), w.length = n → lw w → 0 ≤ en5 w ∧ (n ≠ 0 → 1 ≤ en5 w)
  | 0, w, hn, _ => by
    have : w = [] := List.eq_nil_of_length_eq_zero hn
    subst this
    exact ⟨by decide, fun x => absurd rfl x⟩
  | n + 1, w, hn, hl => by
    obtain ⟨v, c, rfl⟩ : ∃ v c, w = v ++ [c] := by
      rcases List.eq_nil_or_concat w with e | ⟨v, c, e⟩
      · subst e; cases hn
      · exact ⟨v, c, by rw [e, List.concat_eq_append]⟩
    obtain ⟨l1, l2⟩ := lw_app hl
    have := en5_pos n v (by simpa using hn) l1
    rw [en_app5]
    exact ⟨by omega, fun _ => by omega⟩
theorem en8_pos : ∀ (n : Nat) (w : List Int), w.length = n → lw w → 0 ≤ en8 w ∧ (n ≠ 0 → 1 ≤ en8 w)
  | 0, w, hn, _ => by
    have : w = [] := List.eq_nil_of_length_eq_zero hn
    subst this
    exact ⟨by decide, fun x => absurd rfl x⟩
  | n + 1, w, hn, hl => by
    obtain ⟨v, c, rfl⟩ : ∃ v c, w = v ++ [c] := by
      rcases List.eq_nil_or_concat w with e | ⟨v, c, e⟩
      · subst e; cases hn
      · exact ⟨v, c, by rw [e, List.concat_eq_append]⟩
    obtain ⟨l1, l2⟩ := lw_app hl
    have := en8_pos n v (by simpa using hn) l1
    rw [en_app8]
    exact ⟨by omega, fun _ => by omega⟩
theorem en_inj : ∀ (n : Nat) (w w' : List Int), w.length = n → lw w → lw w' → (en5 w = en5 w' → w = w') ∧ (en8 w = en8 w' → w = w')
  | 0, w, w', hn, _, l' => by
    have : w = [] := List.eq_nil_of_length_eq_zero hn
    subst this
    have a := en5_pos w'.length w' rfl l'
    have b := en8_pos w'.length w' rfl l'
    have z5 : en5 [] = 0 := rfl
    have z8 : en8 [] = 0 := rfl
    refine ⟨fun e => ?_, fun e => ?_⟩
    · by_cases q : w'.length = 0
      · exact (List.eq_nil_of_length_eq_zero q).symm
      · have := a.2 q; omega
    · by_cases q : w'.length = 0
      · exact (List.eq_nil_of_length_eq_zero q).symm
      · have := b.2 q; omega
  | n + 1, w, w', hn, hl, hl' => by
    obtain ⟨v, c, rfl⟩ : ∃ v c, w = v ++ [c] := by
      rcases List.eq_nil_or_concat w with e | ⟨v, c, e⟩
      · subst e; cases hn
      · exact ⟨v, c, by rw [e, List.concat_eq_append]⟩
    obtain ⟨l1, l2⟩ := lw_app hl
    have vn : v.length = n := by simpa using hn
    have p5 := en5_pos _ _ rfl hl
    have p8 := en8_pos _ _ rfl hl
    rcases List.eq_nil_or_concat w' with e | ⟨v', c', e⟩
    · subst e
      have z5 : en5 [] = 0 := rfl
      have z8 : en8 [] = 0 := rfl
      have q5 := p5.2 (by rw [hn]; omega)
      have q8 := p8.2 (by rw [hn]; omega)
      exact ⟨fun x => by omega, fun x => by omega⟩
    · rw [List.concat_eq_append] at e
      subst e
      obtain ⟨l1', l2'⟩ := lw_app hl'
      have ih := en_inj n v v' vn l1 l1'
      rw [en_app5, en_app5, en_app8, en_app8]
      refine ⟨fun x => ?_, fun x => ?_⟩
      · have c1 : c = c' := by omega
        have c2 : en5 v = en5 v' := by omega
        rw [ih.1 c2, c1]
      · have c1 : c = c' := by omega
        have c2 : en8 v = en8 v' := by omega
        rw [ih.2 c2, c1]
theorem nmR_iff {a b a' b' : Int} (h : nmR a b) (h' : nmR a' b') : a = a' ↔ b = b' := by
  obtain ⟨w, w1, w2, w3, w4⟩ := h
  obtain ⟨w', v1, v2, v3, v4⟩ := h'
  have i := en_inj _ w w' rfl w1 v1
  constructor
  · intro e
    rw [w4, v4, i.1 (by rw [← w3, ← v3]; exact e)]
  · intro e
    rw [w3, v3, i.2 (by rw [← w4, ← v4]; exact e)]
theorem en_bd : ∀ (n : Nat) (w : List Int), w.length = n → n ≤ 8 → lw w → en5 w < 32 ^ n ∧ 255 * en8 w ≤ 122 * (256 ^ n - 1)
  | 0, w, hn, _, _ => by
    have : w = [] := List.eq_nil_of_length_eq_zero hn
    subst this
    exact ⟨by decide, by decide⟩
  | n + 1, w, hn, h8, hl => by
    obtain ⟨v, c, rfl⟩ : ∃ v c, w = v ++ [c] := by
      rcases List.eq_nil_or_concat w with e | ⟨v, c, e⟩
      · subst e; cases hn
      · exact ⟨v, c, by rw [e, List.concat_eq_append]⟩
    obtain ⟨l1, l2⟩ := lw_app hl
    have vn : v.length = n := by simpa using hn
    have ih := en_bd n v vn (by omega) l1
    rw [en_app5, en_app8, Int.pow_succ, Int.pow_succ]
    generalize (32 : Int) ^ n = A at *
    generalize (256 : Int) ^ n = C at *
    omega
theorem nmR_in {a b : Int} (h : nmR a b) : in64 a ∧ in64 b := by
  obtain ⟨w, w1, w2, w3, w4⟩ := h
  have p5 := en5_pos _ w rfl w1
  have p8 := en8_pos _ w rfl w1
  have bd := en_bd _ w rfl w2 w1
  have m : (32 : Int) ^ w.length ≤ 1099511627776 ∧ (256 : Int) ^ w.length ≤ 18446744073709551616 := by
    have c : w.length = 0 ∨ w.length = 1 ∨ w.length = 2 ∨ w.length = 3 ∨ w.length = 4 ∨ w.length = 5 ∨ w.length = 6 ∨ w.length = 7 ∨ w.length = 8 := by omega
    rcases c with c | c | c | c | c | c | c | c | c <;> rw [c] <;> decide
  generalize (32 : Int) ^ w.length = A at *
  generalize (256 : Int) ^ w.length = C at *
  exact ⟨by omega, by omega⟩
/-- the first machine of that name -/
theorem named_l {h g : MH} {x y : Int} (r1 : 0 ≤ h 35 0 ∧ h 35 0 ≤ 6) (hn : ∀ m : Nat, (m : Int) < h 35 0 → nmR (h 46 m) (g 142 (8 + 16 * m + 13))) (g0 : g 142 0 = h 35 0) (hx : nmR x y) : ∀ (d f f' m : Nat), ((m + d : Nat) : Int) = h 35 0 → d < f → d < f' →
    ∃ k : Int, F_X5_machineNamed_2 f 34 x (m : Int) h = some (k, h) ∧ F_X12_machineNamed_3 f' 0 y (m : Int) g = some (k, g) ∧ (k = -1 ∨ (0 ≤ k ∧ k < h 35 0)) := by
  have ix := nmR_in hx
  intro d
  induction d with
  | zero =>
    intro f f' m e hf hf'
    obtain ⟨f, rfl⟩ : ∃ g, f = g + 1 := ⟨f - 1, by omega⟩
    obtain ⟨f', rfl⟩ : ∃ g, f' = g + 1 := ⟨f' - 1, by omega⟩
    refine ⟨-1, ?_, ?_, Or.inl rfl⟩
    · rw [F_X5_machineNamed_2]
      unfold ck
      rw [show 34 + 1 = 35 from rfl, if_pos (by omega), if_pos (by omega), if_pos (by omega)]
    · rw [F_X12_machineNamed_3]
      unfold ck
      rw [if_pos (by omega), if_pos (by omega), show ((0 : Int) + 0).toNat = 0 from rfl, g0, if_pos (by omega), if_pos (by omega)]
  | succ d ih =>
    intro f f' m e hf hf'
    obtain ⟨f, rfl⟩ : ∃ g, f = g + 1 := ⟨f - 1, by omega⟩
    obtain ⟨f', rfl⟩ : ∃ g, f' = g + 1 := ⟨f' - 1, by omega⟩
    have nm := hn m (by omega)
    have ii := nmR_in nm
    have iff := nmR_iff nm hx
    have sc : F_X5_machineNamed_2 (f + 1) 34 x (m : Int) h = if h 46 m = x then some ((m : Int), h) else F_X5_machineNamed_2 f 34 x ((m + 1 : Nat) : Int) h := by
      rw [F_X5_machineNamed_2]
      unfold ck
      rw [show 34 + 1 = 35 from rfl, show 34 + 12 = 46 from rfl, if_pos (by omega), if_pos (by omega), if_neg (by omega), if_pos (by omega), show ((m : Int)).toNat = m by omega, if_pos ii.1, if_pos ix.1, show (m : Int) + 1 = ((m + 1 : Nat) : Int) by omega]
      by_cases q : h 46 m = x
      · rw [if_neg (fun z => z q), if_pos q]
      · rw [if_pos q, if_neg q]
    have so : F_X12_machineNamed_3 (f' + 1) 0 y (m : Int) g = if g 142 (8 + 16 * m + 13) = y then some ((m : Int), g) else F_X12_machineNamed_3 f' 0 y ((m + 1 : Nat) : Int) g := by
      rw [F_X12_machineNamed_3]
      unfold F_X12_machineAt F_X12_machineAt_0 ck
      rw [if_pos (by omega), if_pos (by omega), show ((0 : Int) + 0).toNat = 0 from rfl, g0, if_pos (by omega), if_neg (by omega), bind_eq]
      dsimp only
      rw [if_pos (by omega), show ((0 : Int) + 8 + 16 * (m : Int) + 13).toNat = 8 + 16 * m + 13 by omega, if_pos ii.2, if_pos ix.2, show (m : Int) + 1 = ((m + 1 : Nat) : Int) by omega]
      by_cases q : g 142 (8 + 16 * m + 13) = y
      · rw [if_neg (fun z => z q), if_pos q]
      · rw [if_pos q, if_neg q]
    by_cases q : h 46 m = x
    · exact ⟨(m : Int), by rw [sc, if_pos q], by rw [so, if_pos (iff.mp q)], Or.inr (by omega)⟩
    · obtain ⟨k, a1, a2, a3⟩ := ih f f' (m + 1) (by omega) (by omega) (by omega)
      exact ⟨k, by rw [sc, if_neg q]; exact a1, by rw [so, if_neg (fun z => q (iff.mpr z))]; exact a2, a3⟩
