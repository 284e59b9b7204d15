/-! ===== what is taken from the tape, on both sides ===== -/
def S0 (L : Nat) (h g : MH) : Prop := (∃ p q : Nat, TK L p q h) ∧ TG L h g ∧ (h 8 9 = 0 ∧ h 8 10 = -1) ∧ g 141 17 = 0 ∧ g 141 16 = -1
def FT (h g : MH) : Prop := (1 ≤ h 8 9 ∧ h 8 9 ≤ 6 ∧ g 141 17 = h 8 9) ∧ 0 ≤ h 8 10 ∧ h 8 10 ≤ 700 ∧ g 141 16 = h 8 10
def HX (h h' : MH) : Prop := ∀ c k, ¬ (c = 8 ∧ 3 ≤ k ∧ k ≤ 10) → h' c k = h c k
def GX (g g' : MH) : Prop := ∀ c k, ¬ (c = 141 ∧ 11 ≤ k ∧ k ≤ 17) → g' c k = g c k
theorem HX.tr {a b c : MH} (x : HX a b) (y : HX b c) : HX a c := fun i k z => (y i k z).trans (x i k z)
theorem GX.tr {a b c : MH} (x : GX a b) (y : GX b c) : GX a c := fun i k z => (y i k z).trans (x i k z)
theorem S0.f {L : Nat} {h g h' g' : MH} (s : S0 L h g) (a : ∀ c k, (c = 8 ∧ k ≠ 8) ∨ c = 9 → h' c k = h c k) (b : ∀ c k, (c = 141 ∧ 10 ≤ k ∧ k ≤ 17) ∨ c = 147 → g' c k = g c k) : S0 L h' g' := by
  obtain ⟨⟨p, q, ⟨c1, c2, c3⟩, ⟨t1, t2⟩, t3, t4, t5, t6, t7, t8, t9⟩, ⟨⟨o1, o2⟩, r1, r2, r3, r4⟩, ⟨x1, x2⟩, y1, y2⟩ := s
  have w9 : ∀ k, h' 9 k = h 9 k := fun k => a _ _ (by omega)
  refine ⟨⟨p, q, ⟨by rw [a _ _ (by omega)]; exact c1, c2, fun k hk => by rw [w9]; exact c3 k hk⟩, ⟨by rw [a _ _ (by omega)]; exact t1, by rw [a _ _ (by omega)]; exact t2⟩, t3, by rw [a _ _ (by omega)]; exact t4, by rw [a _ _ (by omega)]; exact t5, by rw [a _ _ (by omega)]; exact t6, fun z i z1 z2 => ?_, fun z z1 => ?_, by rw [a 8 4 (by omega), a 8 7 (by omega)]; exact t9⟩, ⟨⟨by rw [b _ _ (by omega)]; exact o1, fun k hk => by rw [b _ _ (by omega), w9]; exact o2 k hk⟩, by rw [b _ _ (by omega), a _ _ (by omega)]; exact r1, by rw [b _ _ (by omega), a _ _ (by omega)]; exact r2, by rw [b _ _ (by omega), a _ _ (by omega)]; exact r3, by rw [b _ _ (by omega), a 8 4 (by omega), a 8 7 (by omega)]; exact r4⟩, ⟨by rw [a _ _ (by omega)]; exact x1, by rw [a _ _ (by omega)]; exact x2⟩, by rw [b _ _ (by omega)]; exact y1, by rw [b _ _ (by omega)]; exact y2⟩
  · rw [a 8 4 (by omega)] at z
    rw [w9]; exact t7 z i z1 z2
  · rw [a 8 4 (by omega)] at z
    rw [a 8 6 (by omega), wrd_e w9]; exact t8 z z1
theorem adv {L : Nat} {h g : MH} (s : S0 L h g) : ∃ h' g', F_X8_advance h = some h' ∧ F_X12_ahead g = some g' ∧ S0 L h' g' ∧ h 8 3 ≤ h' 8 5 ∧ h' 8 8 = h 8 8 ∧ HX h h' ∧ GX g g' := by
  obtain ⟨⟨p, q, c, ⟨t1, t2⟩, t3, -⟩, ⟨o, r1, r2, -⟩, ⟨x1, x2⟩, y1, y2⟩ := s
  obtain ⟨p', q', h', g', a1, a2, a3, a4, a5, a6, a7⟩ := adv0 (p := q) c o t2 (r2.trans t2) (by omega)
  have := a3.2.1.1
  refine ⟨h', g', a1, a2, ⟨⟨p', q', a3⟩, a4, ⟨?_, ?_⟩, ?_, ?_⟩, by omega, a6 _ _ (by omega), fun c k z => a6 _ _ (by omega), fun c k z => a7 _ _ (by omega)⟩
  · rw [a6 _ _ (by omega)]; exact x1
  · rw [a6 _ _ (by omega)]; exact x2
  · rw [a7 _ _ (by omega)]; exact y1
  · rw [a7 _ _ (by omega)]; exact y2
theorem kmp_1 {k : Int} (h : 0 ≤ k ∧ k ≤ 4) : in32 (kmp k) ∧ (kmp k = 1 ↔ k = 4) ∧ (kmp k = 4 ↔ k = 3) ∧ (kmp k = 3 ↔ k = 2) ∧ (kmp k = 2 ↔ k = 1) ∧ (kmp k = 0 ↔ k = 0) := by
  have cs : k = 0 ∨ k = 1 ∨ k = 2 ∨ k = 3 ∨ k = 4 := by omega
  rcases cs with x | x | x | x | x <;> rw [x] <;> decide
theorem S0.k {L : Nat} {h g : MH} (s : S0 L h g) : (0 ≤ h 8 4 ∧ h 8 4 ≤ 4) ∧ g 141 11 = kmp (h 8 4) ∧ (0 ≤ h 8 5 ∧ h 8 5 ≤ h 8 3 ∧ h 8 3 ≤ L ∧ L ≤ 700) ∧ g 141 12 = h 8 5 ∧ (h 8 4 = 0 → h 8 5 = L) ∧ (h 8 4 ≠ 0 → h 8 5 < h 8 3) := by
  obtain ⟨⟨p, q, c, ⟨t1, t2⟩, t3, t4, t5, t6, -⟩, ⟨o, r1, r2, r3, -⟩, -⟩ := s
  have := c.2.1
  refine ⟨t4, r3, ⟨by omega, by omega, by omega, by omega⟩, r1, fun z => by have := t5 z; omega, fun z => by have := t6 z; omega⟩
theorem fl_w {L : Nat} {h g : MH} {c : Int} (s : S0 L h g) (k : h 8 4 ≠ 4) (hc : 1 ≤ c ∧ c ≤ 6) : ∃ h' g', F_X8_wrong c h = some (0, h') ∧ F_X12_fails c g = some (0, g') ∧ FT h' g' ∧ HX h h' ∧ GX g g' := by
  obtain ⟨k1, k2, k3, k4, -⟩ := s.k
  obtain ⟨m1, m2, -⟩ := kmp_1 k1
  obtain ⟨-, -, -, y1, y2⟩ := s
  refine ⟨hup (hup h 8 9 c) 8 10 (h 8 5), hup (hup g 141 17 c) 141 16 (h 8 5), ?_, ?_, ⟨⟨?_, ?_, ?_⟩, ?_, ?_, ?_⟩, fun c k z => ?_, fun c k z => ?_⟩
  · unfold F_X8_wrong F_X8_wrong_0
    rw [nx_eq, hup_n _ _ _ _ 8 5 (by omega), nx_eq]
  · unfold F_X12_fails F_X12_fails_0 ck
    rw [y1, if_pos (by omega), if_neg (by omega), k2, if_pos m1, if_pos (by omega), nx_eq, nx_eq, hup_n _ _ _ _ 141 12 (by omega), k4]
  · rw [hup_n _ _ _ _ _ _ (by omega), hup_s]; omega
  · rw [hup_n _ _ _ _ _ _ (by omega), hup_s]; omega
  · rw [hup_n _ _ _ _ _ _ (by omega), hup_s, hup_n _ _ _ _ _ _ (by omega), hup_s]
  · rw [hup_s]; omega
  · rw [hup_s]; omega
  · rw [hup_s, hup_s]
  · rw [hup_n _ _ _ _ _ _ (by omega), hup_n _ _ _ _ _ _ (by omega)]
  · rw [hup_n _ _ _ _ _ _ (by omega), hup_n _ _ _ _ _ _ (by omega)]
theorem fl_m {L : Nat} {h g : MH} (s : S0 L h g) : ∃ h' g', F_X8_misplaced h = some (0, h') ∧ F_X12_fails 2 g = some (0, g') ∧ FT h' g' ∧ HX h h' ∧ GX g g' := by
  obtain ⟨k1, k2, k3, k4, -⟩ := s.k
  by_cases k : h 8 4 = 4
  · obtain ⟨-, -, -, y1, y2⟩ := s
    refine ⟨hup (hup h 8 9 1) 8 10 (h 8 5), hup (hup g 141 17 1) 141 16 (h 8 5), ?_, ?_, ⟨⟨?_, ?_, ?_⟩, ?_, ?_, ?_⟩, fun c k z => ?_, fun c k z => ?_⟩
    · unfold F_X8_misplaced F_X8_misplaced_0 F_X8_misplaced_14 F_X8_wrong F_X8_wrong_0 ck
      rw [if_pos (by omega), if_neg (by omega), nx_eq, hup_n _ _ _ _ 8 5 (by omega), nx_eq, bind_eq]
      dsimp only
      rw [if_pos (by omega)]
    · unfold F_X12_fails F_X12_fails_0 ck
      rw [y1, if_pos (by omega), if_neg (by omega), k2, k, show kmp 4 = 1 from rfl, if_pos (by omega), if_neg (by omega), nx_eq, nx_eq, hup_n _ _ _ _ 141 12 (by omega), k4]
    · rw [hup_n _ _ _ _ _ _ (by omega), hup_s]; omega
    · rw [hup_n _ _ _ _ _ _ (by omega), hup_s]; omega
    · rw [hup_n _ _ _ _ _ _ (by omega), hup_s, hup_n _ _ _ _ _ _ (by omega), hup_s]
    · rw [hup_s]; omega
    · rw [hup_s]; omega
    · rw [hup_s, hup_s]
    · rw [hup_n _ _ _ _ _ _ (by omega), hup_n _ _ _ _ _ _ (by omega)]
    · rw [hup_n _ _ _ _ _ _ (by omega), hup_n _ _ _ _ _ _ (by omega)]
  · obtain ⟨h', g', a1, a2, a3, a4, a5⟩ := fl_w s k (c := 2) (by omega)
    refine ⟨h', g', ?_, a2, a3, a4, a5⟩
    unfold F_X8_misplaced F_X8_misplaced_0 F_X8_misplaced_14 ck
    rw [if_pos (by omega), if_pos k, a1, bind_eq]
    dsimp only
    rw [if_pos (by omega)]
/-- taken, or a fault -/
def PT (L : Nat) (h : MH) (b : Int) (h' g' : MH) : Prop := (b = 1 ∧ S0 L h' g' ∧ h 8 3 ≤ h' 8 5) ∨ (b = 0 ∧ FT h' g')
theorem sign_l {L : Nat} {h g : MH} (s : S0 L h g) : ∃ b h' g', F_X8_takeSign h = some (b, h') ∧ F_X12_ends g = some (b, g') ∧ PT L h b h' g' ∧ HX h h' ∧ GX g g' := by
  obtain ⟨k1, k2, -⟩ := s.k
  obtain ⟨m1, m2, m3, -⟩ := kmp_1 k1
  by_cases k : h 8 4 = 3
  · obtain ⟨h', g', a1, a2, a3, a4, a5, a6, a7⟩ := adv s
    refine ⟨1, h', g', ?_, ?_, Or.inl ⟨rfl, a3, a4⟩, a6, a7⟩
    · unfold F_X8_takeSign F_X8_takeSign_0 ck
      rw [if_pos (by omega), if_pos k, a1, bind_eq]
    · unfold F_X12_ends F_X12_ends_0 ck
      rw [k2, if_pos m1, if_pos (m3.mpr k), a2, bind_eq]
  · obtain ⟨h', g', a1, a2, a3, a6, a7⟩ := fl_m s
    refine ⟨0, h', g', ?_, ?_, Or.inr ⟨rfl, a3⟩, a6, a7⟩
    · unfold F_X8_takeSign F_X8_takeSign_0 ck
      rw [if_pos (by omega), if_neg k, a1, bind_eq]
      dsimp only
      rw [if_pos (by omega)]
    · unfold F_X12_ends F_X12_ends_0 ck
      rw [k2, if_pos m1, if_neg (fun z => k (m3.mp z)), a2, bind_eq]
      dsimp only
      rw [if_pos (by omega)]
theorem is_t {L : Nat} {h g : MH} (t : S0 L h g) {s : Nat} (hs : s < 21) (e : tWd h = zsB.getD s []) : F_X8_is s h = some (1, h) := by
  obtain ⟨p, q, t⟩ := t.1
  rw [is_l t hs, if_pos e]
theorem is_f {L : Nat} {h g : MH} (t : S0 L h g) {s : Nat} (hs : s < 21) (e : ¬ tWd h = zsB.getD s []) : F_X8_is s h = some (0, h) := by
  obtain ⟨p, q, t⟩ := t.1
  rw [is_l t hs, if_neg e]
theorem iw19 {L : Nat} {h g : MH} (t : S0 L h g) : F_X12_inWords 19 g = some (ix w19 0 (tWd h), g) := by
  obtain ⟨⟨p, q, a⟩, b, -⟩ := t
  exact iw_19 a b
theorem iw20 {L : Nat} {h g : MH} (t : S0 L h g) : F_X12_inWords 20 g = some (ix w20 0 (tWd h), g) := by
  obtain ⟨⟨p, q, a⟩, b, -⟩ := t
  exact iw_20 a b
theorem ix_b (w : List Int) : ∀ (l : List Nat) (j : Int), 0 ≤ j → -1 ≤ ix l j w ∧ ix l j w < j + l.length ∧ (ix l j w = -1 ∨ j ≤ ix l j w)
  | [], j, hj => by
    show -1 ≤ (-1 : Int) ∧ (-1 : Int) < j + ((0 : Nat) : Int) ∧ ((-1 : Int) = -1 ∨ j ≤ -1)
    omega
  | s :: l, j, hj => by
    have ih := ix_b w l (j + 1) (by omega)
    rw [ix, List.length_cons]
    by_cases e : w = zsB.getD s []
    · rw [if_pos e]; omega
    · rw [if_neg e]; omega
theorem ix_no {w : List Int} : ∀ (l : List Nat) (j : Int), (∀ s ∈ l, w ≠ zsB.getD s []) → ix l j w = -1
  | [], _, _ => rfl
  | s :: l, j, z => by rw [ix, if_neg (z s List.mem_cons_self), ix_no l _ (fun s' h' => z s' (List.mem_cons_of_mem _ h'))]
theorem ix_yes {w : List Int} {s : Nat} (e : w = zsB.getD s []) : ∀ (l : List Nat) (j : Int), 0 ≤ j → s ∈ l → ix l j w ≠ -1
  | [], _, _, z => by cases z
  | t :: l, j, hj, z => by
    rw [ix]
    by_cases y : w = zsB.getD t []
    · rw [if_pos y]; omega
    · rw [if_neg y]
      rcases List.mem_cons.mp z with z | z
      · subst z; exact absurd e y
      · exact ix_yes e l (j + 1) (by omega) z
theorem word_l {L : Nat} {h g : MH} (s : S0 L h g) {x : Nat} {j : Int} (hx : x < 21) (hj : 0 ≤ j ∧ j ≤ 10) (w : ∀ v, ix w19 0 v = j ↔ v = zsB.getD x []) : ∃ b h' g', F_X8_takeWord x h = some (b, h') ∧ F_X12_wantWord j g = some (b, g') ∧ PT L h b h' g' ∧ HX h h' ∧ GX g g' := by
  have ib := ix_b (tWd h) w19 0 (by omega)
  have il : w19.length = 8 := rfl
  rw [il] at ib
  have e19 := iw19 s
  by_cases k : tWd h = zsB.getD x []
  · obtain ⟨h', g', a1, a2, a3, a4, a5, a6, a7⟩ := adv s
    refine ⟨1, h', g', ?_, ?_, Or.inl ⟨rfl, a3, a4⟩, a6, a7⟩
    · unfold F_X8_takeWord F_X8_takeWord_0 ck
      rw [is_t s hx k, bind_eq]
      dsimp only
      rw [if_pos (by omega), if_pos (by omega), a1, bind_eq]
    · unfold F_X12_wantWord F_X12_wantWord_0 ck
      rw [e19, bind_eq]
      dsimp only
      rw [if_pos (by omega), if_pos (by omega), if_pos ((w _).mpr k), a2, bind_eq]
  · obtain ⟨h', g', a1, a2, a3, a6, a7⟩ := fl_m s
    refine ⟨0, h', g', ?_, ?_, Or.inr ⟨rfl, a3⟩, a6, a7⟩
    · unfold F_X8_takeWord F_X8_takeWord_0 ck
      rw [is_f s hx k, bind_eq]
      dsimp only
      rw [if_pos (by omega), if_neg (by omega), a1, bind_eq]
      dsimp only
      rw [if_pos (by omega)]
    · unfold F_X12_wantWord F_X12_wantWord_0 ck
      rw [e19, bind_eq]
      dsimp only
      rw [if_pos (by omega), if_pos (by omega), if_neg (fun z => k ((w _).mp z)), a2, bind_eq]
      dsimp only
      rw [if_pos (by omega)]
theorem num_l {L x : Nat} {h g : MH} {lo hi : Int} (s : S0 L h g) (hx : x < 2640) (hl : 0 ≤ lo ∧ lo ≤ 9999) (hh : 0 ≤ hi ∧ hi ≤ 9999) : ∃ b h' g', F_X8_takeNumber lo hi h = some (b, h') ∧ F_X12_number (x : Int) lo hi g = some (b, g') ∧ ((b = 1 ∧ S0 L h' g' ∧ h 8 3 ≤ h' 8 5 ∧ (lo ≤ h' 8 8 ∧ h' 8 8 ≤ hi) ∧ g' 142 x = h' 8 8) ∨ (b = 0 ∧ FT h' g')) ∧ HX h h' ∧ ∀ c k, ¬ (c = 141 ∧ 11 ≤ k ∧ k ≤ 17) → ¬ (c = 142 ∧ k = x) → g' c k = g c k := by
  obtain ⟨k1, k2, -⟩ := s.k
  obtain ⟨m1, m2, m3, m4, -⟩ := kmp_1 k1
  by_cases k : h 8 4 = 2
  · have nb : (0 ≤ h 8 7 ∧ h 8 7 ≤ 9999) ∧ g 141 14 = h 8 7 := by
      obtain ⟨⟨p, q, t⟩, r, -⟩ := s
      exact ⟨t.2.2.2.2.2.2.2.2 k, r.2.2.2.2 k⟩
    by_cases y : lo ≤ h 8 7 ∧ h 8 7 ≤ hi
    · obtain ⟨h', g', a1, a2, a3, a4, a5, a6, a7⟩ := adv (h := hup h 8 8 (h 8 7)) (g := hup g 142 x (h 8 7)) (s.f (fun c k z => hup_n _ _ _ _ _ _ (by omega)) (fun c k z => hup_n _ _ _ _ _ _ (by omega)))
      rw [hup_n _ _ _ _ _ _ (by omega)] at a4
      rw [hup_s] at a5
      refine ⟨1, h', g', ?_, ?_, Or.inl ⟨rfl, a3, a4, by omega, by rw [a7 _ _ (by omega), hup_s, a5]⟩, fun c k z => by rw [a6 _ _ z, hup_n _ _ _ _ _ _ (by omega)], fun c k z1 z2 => by rw [a7 _ _ z1, hup_n _ _ _ _ _ _ z2]⟩
      · unfold F_X8_takeNumber F_X8_takeNumber_0 F_X11_outside F_X11_outside_0 ck
        rw [if_pos (by omega), if_pos k, if_pos (by omega), if_pos (by omega), if_pos (by omega), if_pos (by omega), if_pos (by omega), if_neg (by omega), if_pos (by omega), if_pos (by omega), bind_eq]
        dsimp only
        rw [if_pos (by omega), if_pos rfl, nx_eq, a1, bind_eq]
      · unfold F_X12_number F_X12_number_0 ck
        rw [k2, if_pos m1, if_pos (m4.mpr k), nb.2, if_pos (by omega), if_pos (by omega), if_neg (by omega), if_pos (by omega), if_pos (by omega), if_pos (by omega), nx_eq, show ((x : Int)).toNat = x by omega, a2, bind_eq]
    · obtain ⟨h', g', a1, a2, a3, a6, a7⟩ := fl_w s (c := 4) (by omega) (by omega)
      refine ⟨0, h', g', ?_, ?_, Or.inr ⟨rfl, a3⟩, a6, fun c k z _ => a7 c k z⟩
      · unfold F_X8_takeNumber F_X8_takeNumber_0 F_X11_outside F_X11_outside_0 ck
        rw [if_pos (by omega), if_pos k, if_pos (by omega), if_pos (by omega), if_pos (by omega), if_pos (by omega), if_pos (by omega)]
        have e : (if h 8 7 < lo then some ((1 : Int), h) else if in64 hi then if h 8 7 ≤ hi then some (0, h) else some (1, h) else none) = some (1, h) := by
          by_cases z : h 8 7 < lo
          · rw [if_pos z]
          · rw [if_neg z, if_pos (by omega), if_neg (by omega)]
        rw [e, bind_eq]
        dsimp only
        rw [if_pos (by omega), if_neg (by omega), a1, bind_eq]
        dsimp only
        rw [if_pos (by omega)]
      · have e30 : F_X12_number_30 g = some (0, g') := by
          unfold F_X12_number_30 ck
          rw [a2, bind_eq]
          dsimp only
          rw [if_pos (by omega)]
        unfold F_X12_number F_X12_number_0 ck
        rw [k2, if_pos m1, if_pos (m4.mpr k), nb.2, if_pos (by omega), if_pos (by omega), e30]
        by_cases z : h 8 7 < lo
        · rw [if_pos z]
        · rw [if_neg z, if_pos (by omega), if_neg (by omega)]
  · obtain ⟨h', g', a1, a2, a3, a6, a7⟩ := fl_m s
    refine ⟨0, h', g', ?_, ?_, Or.inr ⟨rfl, a3⟩, a6, fun c k z _ => a7 c k z⟩
    · unfold F_X8_takeNumber F_X8_takeNumber_0 ck
      rw [if_pos (by omega), if_neg k, a1, bind_eq]
      dsimp only
      rw [if_pos (by omega)]
    · unfold F_X12_number F_X12_number_0 ck
      rw [k2, if_pos m1, if_neg (fun z => k (m4.mp z)), a2, bind_eq]
      dsimp only
      rw [if_pos (by omega)]
/-! names -/
def nOK (l : List Nat) (h : MH) : Prop := h 8 4 = 1 ∧ h 8 3 - h 8 5 ≤ 8 ∧ ix l 0 (tWd h) = -1
theorem tshort_l {L : Nat} {h g : MH} (s : S0 L h g) : F_X8_isShortWord h = some (if h 8 4 = 1 ∧ h 8 3 - h 8 5 ≤ 8 then 1 else 0, h) := by
  obtain ⟨k1, k2, k3, -⟩ := s.k
  unfold F_X8_isShortWord F_X8_isShortWord_0 ck
  rw [if_pos (by omega)]
  by_cases k : h 8 4 = 1
  · rw [if_neg (by omega), if_pos (by omega)]
    by_cases y : 8 < h 8 3 - h 8 5
    · rw [if_pos y, if_neg (by omega)]
    · rw [if_neg y, if_pos (by omega)]
  · rw [if_pos k, if_neg (by omega)]
theorem nameg {L x : Nat} {h g : MH} {l : List Nat} (s : S0 L h g) (hl : l.length ≤ 100) (iw : F_X12_inWords x g = some (ix l 0 (tWd h), g)) : ∃ b : Int, F_X12_isName x g = some (b, g) ∧ ((b = 1 ∧ nOK l h) ∨ (b = 0 ∧ ¬ nOK l h)) := by
  obtain ⟨k1, k2, k3, k4, -⟩ := s.k
  obtain ⟨m1, m2, m3, m4, m5, -⟩ := kmp_1 k1
  have g3 := s.2.1.2.2.1
  have ib := ix_b (tWd h) l 0 (by omega)
  unfold F_X12_isName F_X12_isName_0 ck
  rw [k2, if_pos m1]
  by_cases k : h 8 4 = 1
  · rw [if_neg (fun z => z (m5.mpr k)), k4, g3, if_pos (by omega)]
    by_cases y : 8 < h 8 3 - h 8 5
    · exact ⟨0, by rw [if_pos y], Or.inr ⟨rfl, fun z => absurd z.2.1 (by omega)⟩⟩
    · rw [if_neg y, iw, bind_eq]
      dsimp only
      rw [if_pos (by omega)]
      by_cases w : ix l 0 (tWd h) = -1
      · exact ⟨1, by rw [if_neg (fun z => z w)], Or.inl ⟨rfl, k, by omega, w⟩⟩
      · exact ⟨0, by rw [if_pos w], Or.inr ⟨rfl, fun z => w z.2.2⟩⟩
  · exact ⟨0, by rw [if_pos (fun z => k (m5.mp z))], Or.inr ⟨rfl, fun z => k z.1⟩⟩
theorem nh_l {L p q : Nat} {h g : MH} (t : TK L p q h) (r : TG L h g) (k1 : h 8 4 = 1) (hq : q - p ≤ 8) : ∀ (d f k : Nat), k + d = q - p → d < f → F_X12_nameHere_7 f (en8 (wrd h p k)) ((p + k : Nat) : Int) g = some (en8 (wrd h p (q - p)), g) := by
  obtain ⟨c, ⟨t1, t2⟩, t3, t4, t5, t6, t7, t8, t9⟩ := t
  obtain ⟨o, r1, r2, -⟩ := r
  have c2 := c.2.1
  intro d
  induction d with
  | zero =>
    intro f k e hf
    obtain ⟨f, rfl⟩ : ∃ g, f = g + 1 := ⟨f - 1, by omega⟩
    rw [F_X12_nameHere_7]
    unfold ck
    rw [r2, t2, if_pos (by omega), if_pos (by omega), if_pos (by omega), show k = q - p by omega]
  | succ d ih =>
    intro f k e hf
    obtain ⟨f, rfl⟩ : ∃ g, f = g + 1 := ⟨f - 1, by omega⟩
    have sm := t7 k1 (p + k) (by omega) (by omega)
    unfold smb at sm
    have z := by_o (k := p + k) c o (by omega)
    rw [if_pos (by omega), show h 9 (p + k) % 256 = h 9 (p + k) by omega] at z
    have lw0 := wrd_lw (h := h) (p := p) k (fun i hi => t7 k1 (p + i) (by omega) (by omega))
    have ps := en8_pos _ _ (wrd_len (h := h) (p := p) k) lw0
    have bd := (en_bd _ _ (wrd_len (h := h) (p := p) k) (by omega) lw0).2
    have m : (256 : Int) ^ k ≤ 72057594037927936 := by
      have cs : k = 0 ∨ k = 1 ∨ k = 2 ∨ k = 3 ∨ k = 4 ∨ k = 5 ∨ k = 6 ∨ k = 7 := by omega
      rcases cs with x | x | x | x | x | x | x | x <;> rw [x] <;> decide
    have hv : lor64 (shl64 (en8 (wrd h p k)) 8) (h 9 (p + k)) = en8 (wrd h p (k + 1)) := by
      rw [wrd, en_app8]
      generalize en8 (wrd h p k) = X at *
      generalize h 9 (p + k) = Y at *
      generalize (256 : Int) ^ k = C at *
      obtain ⟨xx, ex⟩ : ∃ xx : Nat, X = (xx : Int) := ⟨X.toNat, by omega⟩
      obtain ⟨yy, ey⟩ : ∃ yy : Nat, Y = (yy : Int) := ⟨Y.toNat, by omega⟩
      rw [ex] at bd
      rw [ex, ey]
      clear z r1 r2 t1 t2 t8 t9 t5 t6 c o
      rw [shl8 (by simp only [Nat.reducePow]; omega), show xx * 256 = xx * 2 ^ 8 from rfl, lor_add (k := 8) (by simp only [Nat.reducePow]; omega) (by simp only [Nat.reducePow]; omega) (by simp only [Nat.reducePow]; omega)]
      simp only [Nat.reducePow]
      omega
    rw [F_X12_nameHere_7]
    unfold ck
    rw [r2, t2, if_pos (by omega), if_pos (by omega), if_neg (by omega), z, bind_eq]
    dsimp only
    rw [if_pos (by omega), nx_eq, hv, show ((p + k : Nat) : Int) + 1 = ((p + (k + 1) : Nat) : Int) by omega, ih f (k + 1) (by omega) (by omega)]
theorem nh_g {L : Nat} {h g : MH} {l : List Nat} (s : S0 L h g) (n : nOK l h) : ∃ v : Int, F_X12_nameHere g = some (v, g) ∧ nmR (h 8 6) v := by
  obtain ⟨⟨p, q, t⟩, r, -⟩ := s
  have t' := t
  obtain ⟨c, ⟨t1, t2⟩, t3, t4, t5, t6, t7, t8, t9⟩ := t
  obtain ⟨n1, n2, n3⟩ := n
  have e := nh_l t' r n1 (by omega) (q - p) 20000 0 (by omega) (by omega)
  refine ⟨en8 (wrd h p (q - p)), ?_, wrd h p (q - p), wrd_lw _ (fun i hi => t7 n1 (p + i) (by omega) (by omega)), by rw [wrd_len]; omega, t8 n1 (by omega), rfl⟩
  unfold F_X12_nameHere F_X12_nameHere_0
  rw [nx_eq, r.2.1, t1]
  rw [Nat.add_zero] at e
  exact e
