/-! ===== the token's word, on both sides ===== -/
def tWd (h : MH) : List Int := if h 8 4 = 1 then wrd h (h 8 5).toNat ((h 8 3).toNat - (h 8 5).toNat) else []
theorem tWd_tk {L p q : Nat} {h : MH} (t : TK L p q h) (k : h 8 4 = 1) : tWd h = wrd h p (q - p) := by
  obtain ⟨-, ⟨t1, t2⟩, -⟩ := t
  unfold tWd
  rw [if_pos k, t1, t2, show ((p : Int)).toNat = p by omega, show ((q : Int)).toNat = q by omega]
theorem wrd_get {h : MH} {p : Nat} : ∀ n i, i < n → (wrd h p n).getD i 0 = h 9 (p + i)
  | 0, i, hi => absurd hi (by omega)
  | n + 1, i, hi => by
    rw [wrd]
    by_cases e : i < n
    · rw [← wrd_get (h := h) (p := p) n i e, List.getD_eq_getElem?_getD, List.getD_eq_getElem?_getD, List.getElem?_append_left (by rw [wrd_len]; exact e)]
    · have : i = n := by omega
      subst this
      rw [List.getD_eq_getElem?_getD, List.getElem?_append_right (by rw [wrd_len]; omega), wrd_len, Nat.sub_self]
      rfl
theorem wrd_eq {h : MH} {p n : Nat} {l : List Int} (hn : l.length = n) : wrd h p n = l ↔ ∀ i, i < n → h 9 (p + i) = l.getD i 0 := by
  constructor
  · intro e i hi
    rw [← wrd_get (h := h) (p := p) n i hi, e]
  · intro w
    apply List.ext_getElem
    · rw [wrd_len, hn]
    · intro i h1 h2
      rw [wrd_len] at h1
      have e1 := wrd_get (h := h) (p := p) n i h1
      have e2 := w i h1
      rw [← e1, List.getD_eq_getElem?_getD, List.getD_eq_getElem?_getD, List.getElem?_eq_getElem (by rw [wrd_len]; exact h1), List.getElem?_eq_getElem h2] at e2
      exact e2
theorem is_l1 {s p : Nat} {h : MH} {n : Nat} (hn : (zsB.getD s []).length = n) (h5 : h 8 5 = (p : Int)) (hb : ∀ i, i < n → in32 (h 9 (p + i)) ∧ in32 (sch s i)) (hp : p + n ≤ 700) : ∀ (d f k : Nat), k + d = n → d < f → ∃ b : Int, F_X8_is_28 f s (k : Int) h = some (b, h) ∧ ((b = 1 ∧ ∀ i, k ≤ i → i < n → h 9 (p + i) = sch s i) ∨ (b = 0 ∧ ¬ ∀ i, k ≤ i → i < n → h 9 (p + i) = sch s i)) := by
  have sl : slen s = (n : Int) := by unfold slen; rw [hn]
  intro d
  induction d with
  | zero =>
    intro f k e hf
    obtain ⟨f, rfl⟩ : ∃ g, f = g + 1 := ⟨f - 1, by omega⟩
    refine ⟨1, ?_, Or.inl ⟨rfl, fun i z1 z2 => absurd z1 (by omega)⟩⟩
    rw [F_X8_is_28]
    unfold ck
    rw [sl, if_pos (by omega), if_pos (by omega), if_pos (by omega)]
  | succ d ih =>
    intro f k e hf
    obtain ⟨f, rfl⟩ : ∃ g, f = g + 1 := ⟨f - 1, by omega⟩
    have b := hb k (by omega)
    by_cases y : h 9 (p + k) = sch s k
    · obtain ⟨b, a1, a2⟩ := ih f (k + 1) (by omega) (by omega)
      refine ⟨b, ?_, ?_⟩
      · rw [F_X8_is_28]
        unfold ck
        rw [sl, h5, if_pos (by omega), if_pos (by omega), if_neg (by omega), if_pos (by omega), if_pos (by omega), show ((p : Int) + k).toNat = p + k by omega, show ((k : Int)).toNat = k by omega, if_pos (by omega), if_pos (by omega), if_pos y, show (k : Int) + 1 = ((k + 1 : Nat) : Int) by omega, a1]
      · have w : (∀ i, k ≤ i → i < n → h 9 (p + i) = sch s i) ↔ ∀ i, k + 1 ≤ i → i < n → h 9 (p + i) = sch s i := by
          constructor
          · intro z i z1 z2; exact z i (by omega) z2
          · intro z i z1 z2
            by_cases x : i = k
            · subst x; exact y
            · exact z i (by omega) z2
        rw [w]; exact a2
    · refine ⟨0, ?_, Or.inr ⟨rfl, fun z => y (z k (by omega) (by omega))⟩⟩
      rw [F_X8_is_28]
      unfold ck
      rw [sl, h5, if_pos (by omega), if_pos (by omega), if_neg (by omega), if_pos (by omega), if_pos (by omega), show ((p : Int) + k).toNat = p + k by omega, show ((k : Int)).toNat = k by omega, if_pos (by omega), if_pos (by omega), if_neg y]
theorem s32 : ∀ s, s < 21 → (zsB.getD s []).length ≤ 70 ∧ 1 ≤ (zsB.getD s []).length ∧ ∀ i, i < 70 → 0 ≤ sch s i ∧ sch s i ≤ 200 := by decide +kernel
theorem is_l {L p q : Nat} {h : MH} (t : TK L p q h) {s : Nat} (hs : s < 21) : F_X8_is s h = some (if tWd h = zsB.getD s [] then 1 else 0, h) := by
  have t' := t
  obtain ⟨c, ⟨t1, t2⟩, t3, t4, t5, t6, t7, t8, t9⟩ := t
  obtain ⟨x1, x2, x3⟩ := s32 s hs
  have c2 := c.2.1
  have sl : slen s = ((zsB.getD s []).length : Int) := rfl
  unfold F_X8_is F_X8_is_0 ck
  rw [if_pos (by omega)]
  by_cases k : h 8 4 = 1
  · rw [if_neg (by omega), t1, t2, sl, if_pos (by omega), if_pos (by omega), tWd_tk t' k]
    by_cases e : (zsB.getD s []).length = q - p
    · rw [if_pos (by omega)]
      obtain ⟨b, a1, a2⟩ := is_l1 e t1 (fun i hi => ⟨by have := c.2.2 (p + i) (by omega); omega, by have := x3 i (by omega); omega⟩) (by omega) (q - p) 20000 0 (by omega) (by omega)
      rw [show ((0 : Nat) : Int) = 0 from rfl] at a1
      rw [a1]
      have w : (∀ i, 0 ≤ i → i < q - p → h 9 (p + i) = sch s i) ↔ wrd h p (q - p) = zsB.getD s [] := by
        rw [wrd_eq e]
        constructor
        · intro z i hi; exact z i (by omega) hi
        · intro z i _ hi; exact z i hi
      rw [w] at a2
      rcases a2 with ⟨u, v⟩ | ⟨u, v⟩
      · rw [if_pos v, u]
      · rw [if_neg v, u]
    · rw [if_neg (by omega), if_neg (fun z => e (by rw [← z, wrd_len]))]
  · rw [if_pos k]
    unfold tWd
    rw [if_neg k, if_neg (fun z => by rw [← z] at x2; exact absurd x2 (by decide))]
/-! the other's list of words -/
theorem iw_68 {L p q : Nat} {h g : MH} (t : TK L p q h) (k1 : h 8 4 = 1) (r : TG L h g) (k14 : Nat → Int → Int → MH → Option (Int × MH)) {x1 a n : Nat} {j : Int} (hx : x1 < 21) (hn : n = q - p) (ha : a + n < 70) (hl : ((a + n : Nat) : Int) < slen x1) :
    ∀ (d f k : Nat), k + d = n → d < f → ∃ b : Int, F_X12_inWords_68 k14 f x1 j (a : Int) ((a + n : Nat) : Int) 1 ((a + k : Nat) : Int) g = F_X12_inWords_115 k14 x1 j ((a + n : Nat) : Int) b g ∧ ((b = 1 ∧ ∀ i, k ≤ i → i < n → h 9 (p + i) = sch x1 (a + i)) ∨ (b = 0 ∧ ¬ ∀ i, k ≤ i → i < n → h 9 (p + i) = sch x1 (a + i))) := by
  obtain ⟨c, ⟨t1, t2⟩, t3, t4, t5, t6, t7, t8, t9⟩ := t
  obtain ⟨x1', x2', x3⟩ := s32 x1 hx
  have c2 := c.2.1
  obtain ⟨o, r1, -⟩ := r
  intro d
  induction d with
  | zero =>
    intro f k e hf
    obtain ⟨f, rfl⟩ : ∃ g, f = g + 1 := ⟨f - 1, by omega⟩
    refine ⟨1, ?_, Or.inl ⟨rfl, fun i z1 z2 => absurd z1 (by omega)⟩⟩
    rw [F_X12_inWords_68]
    unfold ck
    rw [if_pos (by omega), if_pos (by omega), if_pos (by omega)]
  | succ d ih =>
    intro f k e hf
    obtain ⟨f, rfl⟩ : ∃ g, f = g + 1 := ⟨f - 1, by omega⟩
    have sm := t7 k1 (p + k) (by omega) (by omega)
    unfold smb at sm
    have z := by_o (k := p + k) c o (by omega)
    rw [if_pos (by omega), show h 9 (p + k) % 256 = h 9 (p + k) by omega] at z
    have sc := x3 (a + k) (by omega)
    have st : F_X12_inWords_68 k14 (f + 1) x1 j (a : Int) ((a + n : Nat) : Int) 1 ((a + k : Nat) : Int) g = F_X12_inWords_68 k14 f x1 j (a : Int) ((a + n : Nat) : Int) (if h 9 (p + k) = sch x1 (a + k) then 1 else 0) ((a + (k + 1) : Nat) : Int) g := by
      rw [F_X12_inWords_68]
      unfold F_X12_inWords_107 ck
      rw [if_pos (by omega), if_pos (by omega), if_neg (by omega), if_pos (by omega), if_neg (by omega), if_pos (by omega), r1, t1, show (p : Int) + ((a + k : Nat) : Int) - (a : Int) = ((p + k : Nat) : Int) by omega, z, bind_eq, show (((a + k : Nat) : Int)).toNat = a + k by omega]
      dsimp only
      rw [if_pos (by omega), if_pos (by omega), show ((a + k : Nat) : Int) + 1 = ((a + (k + 1) : Nat) : Int) by omega]
      by_cases y : h 9 (p + k) = sch x1 (a + k)
      · rw [if_neg (by omega), if_pos y]
      · rw [if_pos (by omega), if_neg y]
    rw [st]
    by_cases y : h 9 (p + k) = sch x1 (a + k)
    · obtain ⟨b, a1, a2⟩ := ih f (k + 1) (by omega) (by omega)
      refine ⟨b, ?_, ?_⟩
      · rw [if_pos y, a1]
      · have w : (∀ i, k ≤ i → i < n → h 9 (p + i) = sch x1 (a + i)) ↔ ∀ i, k + 1 ≤ i → i < n → h 9 (p + i) = sch x1 (a + i) := by
          constructor
          · intro z i z1 z2; exact z i (by omega) z2
          · intro z i z1 z2
            by_cases x : i = k
            · subst x; exact y
            · exact z i (by omega) z2
        rw [w]; exact a2
    · refine ⟨0, ?_, Or.inr ⟨rfl, fun z => y (z k (by omega) (by omega))⟩⟩
      obtain ⟨f, rfl⟩ : ∃ g, f = g + 1 := ⟨f - 1, by omega⟩
      rw [if_neg y, F_X12_inWords_68]
      unfold ck
      rw [if_pos (by omega), if_pos (by omega)]
      by_cases y' : ((a + n : Nat) : Int) ≤ ((a + (k + 1) : Nat) : Int)
      · rw [if_pos y']
      · rw [if_neg y', if_pos (by omega), if_pos rfl]
theorem iw_68z (k14 : Nat → Int → Int → MH → Option (Int × MH)) {x1 a n f : Nat} {j : Int} {g : MH} (ha : a + n < 70) : F_X12_inWords_68 k14 (f + 1) x1 j (a : Int) ((a + n : Nat) : Int) 0 (a : Int) g = F_X12_inWords_115 k14 x1 j ((a + n : Nat) : Int) 0 g := by
  rw [F_X12_inWords_68]
  unfold ck
  rw [if_pos (by omega), if_pos (by omega)]
  by_cases y' : ((a + n : Nat) : Int) ≤ (a : Int)
  · rw [if_pos y']
  · rw [if_neg y', if_pos (by omega), if_pos rfl]
theorem iw_25 (k14 : Nat → Int → Int → MH → Option (Int × MH)) {p q : Nat} {g : MH} {x1 a n : Nat} {j : Int} (hx : x1 < 21) (ha : a + n < 70) (hl : ((a + n : Nat) : Int) < slen x1) (hw : ∀ i, i < n → sch x1 (a + i) ≠ 32) (hw' : sch x1 (a + n) = 32) (g2 : g 141 12 = (p : Int)) (g3 : g 141 13 = (q : Int)) (hpq : p ≤ q ∧ q ≤ 700) : ∀ (d f k : Nat), k + d = n → d < f → F_X12_inWords_25 k14 f x1 j (a : Int) ((a + k : Nat) : Int) g = F_X12_inWords_63 k14 x1 j (a : Int) ((a + n : Nat) : Int) (if n = q - p then 1 else 0) g := by
  obtain ⟨x1', x2', x3⟩ := s32 x1 hx
  intro d
  induction d with
  | zero =>
    intro f k e hf
    obtain ⟨f, rfl⟩ : ∃ g, f = g + 1 := ⟨f - 1, by omega⟩
    have : k = n := by omega
    subst this
    rw [F_X12_inWords_25]
    unfold ck
    rw [if_pos (by omega), show (((a + k : Nat) : Int)).toNat = a + k by omega, hw', if_pos (by omega), if_pos rfl, g2, g3, if_pos (by omega), if_pos (by omega)]
    by_cases y : k = q - p
    · rw [if_neg (by omega), if_pos y]
    · rw [if_pos (by omega), if_neg y]
  | succ d ih =>
    intro f k e hf
    obtain ⟨f, rfl⟩ : ∃ g, f = g + 1 := ⟨f - 1, by omega⟩
    have sc := x3 (a + k) (by omega)
    rw [F_X12_inWords_25]
    unfold ck
    rw [if_pos (by omega), show (((a + k : Nat) : Int)).toNat = a + k by omega, if_pos (by omega), if_neg (hw k (by omega)), show ((a + k : Nat) : Int) + 1 = ((a + (k + 1) : Nat) : Int) by omega, ih f (k + 1) (by omega) (by omega)]
/-- a word of the list tried -/
theorem iw_s {L p q : Nat} {h g : MH} (t : TK L p q h) (k1 : h 8 4 = 1) (r : TG L h g) {x1 a n f s : Nat} {j : Int} (hx : x1 < 21) (hn : (zsB.getD s []).length = n) (ha : a + n < 70) (hl : ((a + n : Nat) : Int) < slen x1) (hw : ∀ i, i < n → sch x1 (a + i) = sch s i ∧ sch x1 (a + i) ≠ 32) (hw' : sch x1 (a + n) = 32) :
    F_X12_inWords_14 (f + 1) x1 j (a : Int) g = if tWd h = zsB.getD s [] then some (j, g) else F_X12_inWords_14 f x1 (j + 1) ((a + n + 1 : Nat) : Int) g := by
  have t' := t
  have r' := r
  obtain ⟨c, ⟨t1, t2⟩, t3, t4, t5, t6, t7, t8, t9⟩ := t
  obtain ⟨o, r1, r2, -⟩ := r
  have c2 := c.2.1
  obtain ⟨x1', x2', x3⟩ := s32 x1 hx
  have sl : slen x1 = ((zsB.getD x1 []).length : Int) := rfl
  have e25 := iw_25 (F_X12_inWords_14 f) (j := j) (g := g) hx ha hl (fun i hi => (hw i hi).2) hw' (r1.trans t1) (r2.trans t2) (by omega) n 20000 0 (by omega) (by omega)
  rw [Nat.add_zero] at e25
  rw [F_X12_inWords_14]
  unfold ck
  rw [if_pos (by omega), if_pos (by omega), if_neg (by omega), e25, tWd_tk t' k1]
  unfold F_X12_inWords_63
  by_cases y : n = q - p
  · obtain ⟨b, a1, a2⟩ := iw_68 t' k1 r' (F_X12_inWords_14 f) (j := j) hx y ha hl n 20000 0 (by omega) (by omega)
    rw [Nat.add_zero] at a1
    rw [if_pos y, a1]
    have w : (∀ i, 0 ≤ i → i < n → h 9 (p + i) = sch x1 (a + i)) ↔ wrd h p (q - p) = zsB.getD s [] := by
      rw [wrd_eq (hn.trans y)]
      constructor
      · intro z i hi; rw [z i (by omega) (by omega), (hw i (by omega)).1]; rfl
      · intro z i _ hi; rw [z i (by omega), (hw i hi).1]; rfl
    rw [w] at a2
    unfold F_X12_inWords_115 ck
    rcases a2 with ⟨u, v⟩ | ⟨u, v⟩
    · rw [if_pos v, u, if_pos (by omega), if_neg (by omega)]
    · rw [if_neg v, u, if_pos (by omega), if_pos rfl, nx_eq, show ((a + n : Nat) : Int) + 1 = ((a + n + 1 : Nat) : Int) by omega]
  · have e68 := iw_68z (F_X12_inWords_14 f) (x1 := x1) (j := j) (g := g) (f := 19999) ha
    rw [if_neg y, e68, if_neg (fun z => y (by rw [← hn, ← z, wrd_len]))]
    unfold F_X12_inWords_115 ck
    rw [if_pos (by omega), if_pos rfl, nx_eq, show ((a + n : Nat) : Int) + 1 = ((a + n + 1 : Nat) : Int) by omega]
def ix (l : List Nat) (j : Int) (w : List Int) : Int :=
  match l with
  | [] => -1
  | s :: l => if w = zsB.getD s [] then j else ix l (j + 1) w
/-- the words of a list behind each other from a -/
def okw (x1 : Nat) : List Nat → Nat → Bool
  | [], a => decide (slen x1 = (a : Int))
  | s :: l, a => decide (a + (zsB.getD s []).length < 70) && decide (((a + (zsB.getD s []).length : Nat) : Int) < slen x1) && (List.range (zsB.getD s []).length).all (fun i => decide (sch x1 (a + i) = sch s i) && decide (sch x1 (a + i) ≠ 32)) && decide (sch x1 (a + (zsB.getD s []).length) = 32) && okw x1 l (a + (zsB.getD s []).length + 1)
theorem iw_l {L p q : Nat} {h g : MH} (t : TK L p q h) (k1 : h 8 4 = 1) (r : TG L h g) {x1 : Nat} (hx : x1 < 21) : ∀ (l : List Nat) (f a : Nat) (j : Int), a ≤ 70 → okw x1 l a = true → F_X12_inWords_14 (f + l.length + 1) x1 j (a : Int) g = some (ix l j (tWd h), g)
  | [], f, a, j, ha, w => by
    unfold okw at w
    have w := of_decide_eq_true w
    rw [F_X12_inWords_14]
    unfold ck
    rw [w, if_pos (by omega), if_pos (by omega), if_pos (by omega)]
    rfl
  | s :: l, f, a, j, ha, w => by
    unfold okw at w
    rw [Bool.and_eq_true, Bool.and_eq_true, Bool.and_eq_true, Bool.and_eq_true] at w
    obtain ⟨⟨⟨⟨w1, w2⟩, w3⟩, w4⟩, w5⟩ := w
    have w1 := of_decide_eq_true w1
    have w2 := of_decide_eq_true w2
    have w4 := of_decide_eq_true w4
    have w3' : ∀ i, i < (zsB.getD s []).length → sch x1 (a + i) = sch s i ∧ sch x1 (a + i) ≠ 32 := fun i hi => by
      have := List.all_eq_true.mp w3 i (List.mem_range.mpr hi)
      rw [Bool.and_eq_true] at this
      exact ⟨of_decide_eq_true this.1, of_decide_eq_true this.2⟩
    have e := iw_s t k1 r (f := f + l.length + 1) (j := j) hx rfl w1 w2 w3' w4
    rw [show f + (s :: l).length + 1 = f + l.length + 1 + 1 by rw [List.length_cons]; omega, e, ix]
    by_cases y : tWd h = zsB.getD s []
    · rw [if_pos y, if_pos y]
    · rw [if_neg y, if_neg y, iw_l t k1 r hx l f _ (j + 1) (by omega) w5]
def w19 : List Nat := [0, 5, 6, 7, 1, 2, 3, 4]
def w20 : List Nat := [9, 10, 11, 12, 13, 14, 8, 15, 16, 17, 18]
theorem ix_nil : ∀ (l : List Nat) (j : Int), (∀ s ∈ l, s < 21) → ix l j [] = -1
  | [], _, _ => rfl
  | s :: l, j, w => by
    have x2 := (s32 s (w s List.mem_cons_self)).2.1
    rw [ix, if_neg (fun z => by rw [← z] at x2; exact absurd x2 (by decide)), ix_nil l _ (fun s' h' => w s' (List.mem_cons_of_mem _ h'))]
theorem iw_g {L p q : Nat} {h g : MH} (t : TK L p q h) (r : TG L h g) {x1 : Nat} {l : List Nat} (hx : x1 < 21) (hl : ∀ s ∈ l, s < 21) (hl' : l.length < 19999) (w : okw x1 l 1 = true) : F_X12_inWords x1 g = some (ix l 0 (tWd h), g) := by
  have t4 := t.2.2.2.1
  have r3 := r.2.2.2.1
  unfold F_X12_inWords F_X12_inWords_0 ck
  rw [r3]
  by_cases k1 : h 8 4 = 1
  · rw [k1, show kmp 1 = 2 from rfl, if_pos (by omega), if_pos rfl]
    have e := iw_l t k1 r hx l (19999 - l.length) 1 0 (by omega) w
    rw [show 19999 - l.length + l.length + 1 = 20000 by omega, show ((1 : Nat) : Int) = 1 from rfl] at e
    exact e
  · have y : kmp (h 8 4) ≠ 2 ∧ in32 (kmp (h 8 4)) := by
      unfold kmp
      have cs : h 8 4 = 0 ∨ h 8 4 = 2 ∨ h 8 4 = 3 ∨ h 8 4 = 4 := by omega
      rcases cs with x | x | x | x <;> rw [x] <;> decide
    have e : tWd h = [] := by unfold tWd; rw [if_neg k1]
    rw [if_pos y.2, if_neg y.1, e, ix_nil l 0 hl]
theorem iw_19 {L p q : Nat} {h g : MH} (t : TK L p q h) (r : TG L h g) : F_X12_inWords 19 g = some (ix w19 0 (tWd h), g) := iw_g t r (by omega) (by decide) (by decide) (by decide +kernel)
theorem iw_20 {L p q : Nat} {h g : MH} (t : TK L p q h) (r : TG L h g) : F_X12_inWords 20 g = some (ix w20 0 (tWd h), g) := iw_g t r (by omega) (by decide) (by decide) (by decide +kernel)
