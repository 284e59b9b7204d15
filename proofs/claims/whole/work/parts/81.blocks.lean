/-! ===== work: blocks ===== -/
def kd (h0 : MH) (e : Nat) : Int := h0 142 (190 + 4 * e)
def lk (h0 : MH) (e : Nat) : Int := h0 142 (190 + 4 * e + 3)
/-- the script as it stands: E entries -/
def SX (E : Nat) (h0 : MH) : Prop := E ≤ 60 ∧ cntS 0 h0 E ≤ 30 ∧ opnS 0 h0 E = 0 ∧ (∀ e, e ≤ E → 0 ≤ opnS 0 h0 e ∧ opnS 0 h0 e ≤ 3) ∧ (∀ e, e < E → 0 ≤ kd h0 e ∧ kd h0 e ≤ 6) ∧
  (∀ e, e < E → kd h0 e = 4 ∨ kd h0 e = 5 → ∃ l : Nat, lk h0 e = (l : Int) ∧ e < l ∧ l < E ∧ kd h0 l = 6 ∧ lk h0 l = (e : Int) ∧ h0 53 (cntS 0 h0 e) = (cntS 0 h0 l : Int)) ∧
  (∀ e, e < E → kd h0 e = 6 → ∃ o : Nat, lk h0 e = (o : Int) ∧ o < e ∧ (kd h0 o = 4 ∨ kd h0 o = 5) ∧ lk h0 o = (e : Int)) ∧
  ∀ e l : Nat, e < E → lk h0 e = (l : Int) → (kd h0 e = 4 ∨ kd h0 e = 5) → opnS 0 h0 l = opnS 0 h0 e + 1 ∧ ∀ j, e < j → j ≤ l → opnS 0 h0 e < opnS 0 h0 j
theorem SX_of {h : MH} (s : SR 49 0 h) : ∃ E : Nat, h 142 5 = (E : Int) ∧ SX E h ∧ h 49 0 = (cntS 0 h E : Int) := by
  obtain ⟨E, s1, s2, s3, s4, s5, s6, s7, s8⟩ := s
  simp only [Nat.zero_add] at s1 s8
  refine ⟨E, s1, ⟨s2, s4, s5, s6, fun e he => ?_, fun e he hk => ?_, fun e he hk => ?_, s8⟩, s3⟩
  · have z := (s7 e he).1
    simp only [Nat.zero_add] at z
    exact z
  · have z := (s7 e he).2.2.1
    simp only [Nat.zero_add] at z
    obtain ⟨l, z1, z2, z3, z4, z5, z6⟩ := z hk
    exact ⟨l, z1, z2, by omega, z4, z5, z6⟩
  · have z := (s7 e he).2.2.2
    simp only [Nat.zero_add] at z
    exact z hk
theorem opn_s {h0 : MH} (e : Nat) : opnS 0 h0 (e + 1) = opnS 0 h0 e + (if kd h0 e = 6 then -1 else if kd h0 e = 4 ∨ kd h0 e = 5 then 1 else 0) := by
  rw [opnS]; simp only [Nat.zero_add]; rfl
theorem cnt_s {h0 : MH} (e : Nat) : cntS 0 h0 (e + 1) = cntS 0 h0 e + (if kd h0 e = 6 then 0 else 1) := by
  rw [cntS]; simp only [Nat.zero_add]; rfl
/-- the class's stack of open blocks at entry x -/
def WC (E : Nat) (h0 : MH) (x D : Nat) (os ls : Nat → Nat) (hc : MH) : Prop := x ≤ E ∧ hc 70 5 = (cntS 0 h0 x : Int) ∧ hc 70 6 = (D : Int) ∧
  (∀ i, i < 30 → hc 53 i = h0 53 i) ∧
  (∀ i, i < D → os i < x ∧ x ≤ ls i ∧ ls i < E ∧ (kd h0 (os i) = 4 ∨ kd h0 (os i) = 5) ∧ lk h0 (os i) = (ls i : Int) ∧ opnS 0 h0 (os i) = (i : Int) ∧ cntS 0 h0 (os i) + 1 < cntS 0 h0 (ls i) ∧ hc 71 i = (cntS 0 h0 (os i) : Int) ∧ (1 ≤ hc 72 i ∧ hc 72 i ≤ 9) ∧ (kd h0 (os i) = 5 → hc 72 i = 1)) ∧
  (opnS 0 h0 x = (D : Int) ∨ (opnS 0 h0 x = (D : Int) + 1 ∧ x < E ∧ kd h0 x = 6 ∧ ∃ o : Nat, lk h0 x = (o : Int) ∧ x = o + 1))
/-- the other's counters beside it -/
def WG (h0 : MH) (x D : Nat) (os : Nat → Nat) (hc g : MH) : Prop := (∀ k, 190 ≤ k → k < 430 → g 142 k = h0 142 k) ∧ g 142 5 = h0 142 5 ∧ (∀ i, i < D → kd h0 (os i) = 4 → g 153 (os i) = hc 72 i - 1) ∧ (opnS 0 h0 x = (D : Int) + 1 → ∀ o : Nat, lk h0 x = (o : Int) → kd h0 o = 4 → 0 ≤ g 153 o ∧ g 153 o ≤ 8)
def K70 (h h' : MH) : Prop := ∀ c k, ¬ (c = 70 ∧ (k = 5 ∨ k = 6)) → c ≠ 71 → c ≠ 72 → h' c k = h c k
theorem K70.tr {a b c : MH} (x : K70 a b) (y : K70 b c) : K70 a c := fun i k e e2 e3 => (y i k e e2 e3).trans (x i k e e2 e3)
def K153 (g g' : MH) : Prop := ∀ c k, c ≠ 153 → g' c k = g c k
theorem K153.tr {a b c : MH} (x : K153 a b) (y : K153 b c) : K153 a c := fun i k e => (y i k e).trans (x i k e)
/-- the block that ends at x is the top one -/
theorem top_eq {E x o o' l' : Nat} {h0 : MH} (s : SX E h0) (hx : x < E) (h1 : kd h0 o = 4 ∨ kd h0 o = 5) (h2 : lk h0 o = (x : Int)) (h3 : o < x) (k1 : kd h0 o' = 4 ∨ kd h0 o' = 5) (k2 : lk h0 o' = (l' : Int)) (k3 : o' < x) (k4 : x ≤ l') (e : opnS 0 h0 o' ≤ opnS 0 h0 o) (k5 : l' < E) : o' ≤ o := by
  obtain ⟨-, -, -, -, -, -, -, s8⟩ := s
  rcases Nat.lt_or_ge o o' with q | q
  · have := (s8 o x (by omega) h2 h1).2 o' q (by omega)
    omega
  · exact q
theorem top_ge {E x o o' l' : Nat} {h0 : MH} (s : SX E h0) (h3 : o < x) (k1 : kd h0 o' = 4 ∨ kd h0 o' = 5) (k2 : lk h0 o' = (l' : Int)) (k3 : o' < E) (k4 : x ≤ l') (e : opnS 0 h0 o ≤ opnS 0 h0 o') : o ≤ o' := by
  obtain ⟨-, -, -, -, -, -, -, s8⟩ := s
  rcases Nat.lt_or_ge o' o with q | q
  · have := (s8 o' l' k3 k2 k1).2 o q (by omega)
    omega
  · exact q
/-- one step of the other's walk over ends -/
theorem be_s {E x f : Nat} {h0 g : MH} (s : SX E h0) (hE : h0 142 5 = (E : Int)) (hx : x ≤ E) (g1 : ∀ k, 190 ≤ k → k < 430 → g 142 k = h0 142 k) (g5 : g 142 5 = h0 142 5) : (x = E ∨ kd h0 x ≠ 6 → F_X12_behindEnds_2 (f + 1) (x : Int) g = some ((x : Int), g)) ∧
    (x < E → kd h0 x = 6 → ∀ o : Nat, lk h0 x = (o : Int) → (kd h0 o = 5 → F_X12_behindEnds_2 (f + 1) (x : Int) g = F_X12_behindEnds_2 f ((x + 1 : Nat) : Int) g) ∧ (kd h0 o = 4 → 0 ≤ g 153 o ∧ g 153 o ≤ 8 → (g 153 o = 0 → F_X12_behindEnds_2 (f + 1) (x : Int) g = F_X12_behindEnds_2 f ((x + 1 : Nat) : Int) g) ∧ (0 < g 153 o → F_X12_behindEnds_2 (f + 1) (x : Int) g = F_X12_behindEnds_2 f ((o + 1 : Nat) : Int) (hup g 153 o (g 153 o - 1))))) := by
  obtain ⟨a1, a2, a3, a4, a5, a6, a7, a8⟩ := s
  refine ⟨fun q => ?_, fun q1 q2 o q3 => ?_⟩
  · rw [F_X12_behindEnds_2]
    unfold ck
    rw [g5, hE, if_pos (by omega), if_pos (by omega)]
    rcases Nat.lt_or_ge x E with z | z
    · have kx := a5 x z
      have q' : kd h0 x ≠ 6 := by
        rcases q with q | q
        · omega
        · exact q
      have gx : g 142 (190 + 4 * x) = kd h0 x := g1 _ (by omega) (by omega)
      rw [if_neg (by omega), if_pos (by omega), show (190 + 4 * (x : Int)).toNat = 190 + 4 * x by omega, gx, if_pos (by omega), if_pos q']
    · rw [if_pos (by omega)]
  · obtain ⟨o', b1, b2, b3, b4⟩ := a7 x q1 q2
    have eo : o' = o := by omega
    subst eo
    have gx : g 142 (190 + 4 * x) = kd h0 x := g1 _ (by omega) (by omega)
    have gl : g 142 (190 + 4 * x + 3) = lk h0 x := g1 _ (by omega) (by omega)
    have go : g 142 (190 + 4 * o') = kd h0 o' := g1 _ (by omega) (by omega)
    have ko := a5 o' (by omega)
    have st : F_X12_behindEnds_2 (f + 1) (x : Int) g = if kd h0 o' ≠ 4 then F_X12_behindEnds_81 (F_X12_behindEnds_2 f) (x : Int) (o' : Int) g else ck (in32 (g 153 o')) (if g 153 o' ≤ 0 then F_X12_behindEnds_81 (F_X12_behindEnds_2 f) (x : Int) (o' : Int) g else F_X12_behindEnds_82 (F_X12_behindEnds_2 f) (x : Int) (o' : Int) 1 g) := by
      rw [F_X12_behindEnds_2]
      unfold ck
      rw [g5, hE, if_pos (by omega), if_pos (by omega), if_neg (by omega), if_pos (by omega), show (190 + 4 * (x : Int)).toNat = 190 + 4 * x by omega, gx, if_pos (by omega), if_neg (by omega), if_pos (by omega), show (190 + 4 * (x : Int) + 3).toNat = 190 + 4 * x + 3 by omega, gl, b1, nx_eq, if_pos (by omega), show (190 + 4 * (o' : Int)).toNat = 190 + 4 * o' by omega, go, if_pos (by omega)]
      by_cases z : kd h0 o' = 4
      · rw [if_neg (show ¬ kd h0 o' ≠ 4 from fun w => w z), if_pos (by omega), if_neg (show ¬ kd h0 o' ≠ 4 from fun w => w z), show ((o' : Int)).toNat = o' by omega]
      · rw [if_pos (show kd h0 o' ≠ 4 from z), if_pos (show kd h0 o' ≠ 4 from z)]
    have e81 : F_X12_behindEnds_81 (F_X12_behindEnds_2 f) (x : Int) (o' : Int) g = F_X12_behindEnds_2 f ((x + 1 : Nat) : Int) g := by
      unfold F_X12_behindEnds_81 F_X12_behindEnds_82 F_X12_behindEnds_99 F_X12_behindEnds_113 ck
      rw [if_pos (by omega), if_pos rfl, if_pos (by omega), if_pos rfl, show (x : Int) + 1 = ((x + 1 : Nat) : Int) by omega]
    refine ⟨fun z => by rw [st, if_pos (by omega), e81], fun z zb => ⟨fun z0 => ?_, fun z1 => ?_⟩⟩
    · rw [st, if_neg (by omega)]
      unfold ck
      rw [if_pos (by omega), if_pos (by omega), e81]
    · rw [st, if_neg (by omega)]
      unfold F_X12_behindEnds_82 F_X12_behindEnds_99 F_X12_behindEnds_113 ck
      rw [if_pos (by omega), if_neg (by omega), if_pos (by omega), if_neg (by omega), if_pos (by omega), nx_eq, if_pos (by omega), if_neg (by omega), show ((o' : Int)).toNat = o' by omega, show (o' : Int) + 1 = ((o' + 1 : Nat) : Int) by omega]
/-- the other goes round an empty block till its count is done -/
theorem be_empty {E x o : Nat} {h0 : MH} (s : SX E h0) (hE : h0 142 5 = (E : Int)) (hx : x < E) (k6 : kd h0 x = 6) (l : lk h0 x = (o : Int)) (ho : kd h0 o = 4) (hox : x = o + 1) : ∀ (c f : Nat) (g : MH), (∀ k, 190 ≤ k → k < 430 → g 142 k = h0 142 k) → g 142 5 = h0 142 5 → g 153 o = (c : Int) → c ≤ 8 → F_X12_behindEnds_2 (f + 1 + c) (x : Int) g = F_X12_behindEnds_2 f ((x + 1 : Nat) : Int) (hup g 153 o 0) := by
  intro c
  induction c with
  | zero =>
    intro f g g1 g5 gc _
    have z := (((be_s (f := f) s hE (by omega) g1 g5).2 hx k6 o l).2 ho (by omega)).1 (by omega)
    rw [Nat.add_zero, z, hup_same _ _ _ _ (by omega)]
  | succ c ih =>
    intro f g g1 g5 gc hc
    have z := (((be_s (f := f + 1 + c) s hE (by omega) g1 g5).2 hx k6 o l).2 ho (by omega)).2 (by omega)
    rw [← Nat.add_assoc, z, ← hox, ih f _ (fun k a b => by rw [hup_n _ _ _ _ _ _ (by omega)]; exact g1 k a b) (by rw [hup_n _ _ _ _ _ _ (by omega)]; exact g5) (by rw [hup_s]; omega) (by omega), hup_hup]
