/-! ===== the floor alone ===== -/
/-- a machine on the floor at cell f, the other's slot at b -/
def FM (f b B m : Nat) (h : MH) : Prop :=
  (1 ≤ h (f + 1) m ∧ h (f + 1) m ≤ 99 ∧ h 142 (b + 8 + 16 * m) = h (f + 1) m) ∧
  (0 ≤ h (f + 2) m ∧ h (f + 2) m ≤ 64 ∧ h 142 (b + 8 + 16 * m + 2) = h (f + 2) m) ∧
  (0 ≤ h (f + 3) m ∧ h (f + 3) m ≤ 99 ∧ h 142 (b + 8 + 16 * m + 3) = h (f + 3) m ∧ (0 < h (f + 2) m → 1 ≤ h (f + 3) m)) ∧
  (0 ≤ h (f + 5) m ∧ h (f + 5) m ≤ 99 ∧ h 142 (b + 8 + 16 * m + 4) = h (f + 5) m) ∧
  (-1 ≤ h (f + 6) m ∧ h (f + 6) m ≤ 3 ∧ h 142 (b + 8 + 16 * m + 5) = h (f + 6) m ∧ (h (f + 6) m = -1 ↔ h f 7 = 0)) ∧
  (0 ≤ h (f + 7) m ∧ h (f + 7) m ≤ 600000 * B ∧ h 142 (b + 8 + 16 * m + 6) = h (f + 7) m) ∧
  (∀ s : Nat, s < 4 → 0 ≤ h (f + 9) (4 * m + s) ∧ h (f + 9) (4 * m + s) ≤ 6000 * B ∧ h 142 (b + 8 + 16 * m + 7 + s) = h (f + 9) (4 * m + s)) ∧
  (0 ≤ h (f + 4) m ∧ h (f + 4) m ≤ 999 ∧ h 142 (b + 8 + 16 * m + 11) = h (f + 4) m) ∧
  (0 ≤ h (f + 8) m ∧ h (f + 8) m ≤ h (f + 4) m ∧ h 142 (b + 8 + 16 * m + 12) = h (f + 8) m)
def FR (f b B : Nat) (h : MH) : Prop :=
  (0 ≤ h f 0 ∧ h f 0 ≤ 6 ∧ h 142 b = h f 0) ∧
  (0 ≤ h f 7 ∧ h f 7 ≤ 1000 * B ∧ h 142 (b + 2) = h f 7) ∧
  (0 ≤ h f 5 ∧ h f 5 ≤ 9999 ∧ h 142 (b + 3) = h f 5) ∧
  (0 ≤ h f 6 ∧ h f 6 ≤ 65535 ∧ h 142 (b + 4) = h f 6) ∧
  (∀ m : Nat, (m : Int) < h f 0 → FM f b B m h) ∧
  (∀ k : Nat, k < 36 → 0 ≤ h (f + 10) k ∧ h (f + 10) k ≤ 6000 * B ∧ h 142 (b + 104 + k) = h (f + 10) k)
/-- what a plan has beside its floor -/
def PX (p b : Nat) (h : MH) : Prop :=
  (0 ≤ h p 4 ∧ h p 4 ≤ 7 ∧ h 142 (b + 1) = h p 4) ∧
  (∀ m : Nat, (m : Int) < h (p + 1) 0 → (1 ≤ h (p + 13) m ∧ h (p + 13) m ≤ 24 ∧ h 142 (b + 8 + 16 * m + 1) = h (p + 13) m) ∧ nmR (h (p + 12) m) (h 142 (b + 8 + 16 * m + 13))) ∧
  (∀ k : Nat, k < 49 → -1 ≤ h (p + 14) k ∧ h (p + 14) k ≤ 999 ∧ h 142 (b + 140 + k) = if h (p + 14) k = -1 then 10 else h (p + 14) k)
theorem PR_FR {p b B : Nat} {h : MH} : PR p b B h ↔ FR (p + 1) b B h ∧ PX p b h := by
  constructor
  · rintro ⟨r1, r2, r3, r4, r5, r6, r7, r8⟩
    refine ⟨⟨r1, r3, r4, r5, fun m hm => ?_, r7⟩, r2, fun m hm => ?_, r8⟩
    · obtain ⟨m1, m2, m3, m4, m5, m6, m7, m8, m9, m10, m11⟩ := r6 m hm
      exact ⟨m1, m3, m4, m5, m6, m7, m8, m9, m10⟩
    · obtain ⟨m1, m2, m3, m4, m5, m6, m7, m8, m9, m10, m11⟩ := r6 m hm
      exact ⟨m2, m11⟩
  · rintro ⟨⟨r1, r3, r4, r5, r6, r7⟩, r2, s, r8⟩
    refine ⟨r1, r2, r3, r4, r5, fun m hm => ?_, r7, r8⟩
    obtain ⟨m1, m3, m4, m5, m6, m7, m8, m9, m10⟩ := r6 m hm
    exact ⟨m1, (s m hm).1, m3, m4, m5, m6, m7, m8, m9, m10, (s m hm).2⟩
/-- the class's start -/
theorem start_eq {f : Nat} {x : Int} {h : MH} : F_X1_start f x h = some (hfl (hfl (hfl (hfl (hfl (hfl (hup (hup (hup h f 5 x) f 6 x) f 7 0) (f + 5) 6 0) (f + 6) 6 (-1)) (f + 7) 6 0) (f + 8) 6 0) (f + 9) 24 0) (f + 10) 36 0) := by
  unfold F_X1_start F_X1_start_0
  simp only [nx_eq, fillI (show 6 < 10000 by omega), fillI (show 24 < 10000 by omega), fillI (show 36 < 10000 by omega), bind_eq]
/-! the other's start -/
theorem fr102 {B : Nat} {g : MH} (hB : B + 440 ≤ 2640) : ∀ (d f j : Nat), j + d = 36 → d < f → F_X12_fresh_102 f (B : Int) (j : Int) (hfr g 142 (B + 104) j 0) = some (hfr g 142 (B + 104) 36 0) := by
  intro d
  induction d with
  | zero =>
    intro f j e hf
    obtain ⟨f, rfl⟩ : ∃ g, f = g + 1 := ⟨f - 1, by omega⟩
    have : j = 36 := by omega
    subst this
    rw [F_X12_fresh_102]
    unfold ck
    rw [if_pos (by omega), if_pos (by omega)]
  | succ d ih =>
    intro f j e hf
    obtain ⟨f, rfl⟩ : ∃ g, f = g + 1 := ⟨f - 1, by omega⟩
    have hx : ((B : Int) + 104 + (j : Int)).toNat = B + 104 + j := by omega
    rw [F_X12_fresh_102]
    unfold ck
    rw [if_pos (by omega), if_neg (by omega), if_pos (by omega), nx_eq, hx, hfr_s]
    exact ih f (j + 1) (by omega) (by omega)
def mS (b0 : Nat) (g : MH) : MH := hup (hup (hfr g 142 (b0 + 4) 7 0) 142 (b0 + 5) (-1)) 142 (b0 + 12) 0
theorem fr47 {B m b0 : Nat} {g : MH} {k31 : Int → Int → MH → Option MH} (hb : b0 + 16 ≤ 2640) : ∀ (d f j : Nat), j + d = 7 → d < f → F_X12_fresh_47 k31 f (B : Int) (m : Int) (b0 : Int) ((4 + j : Nat) : Int) (hfr g 142 (b0 + 4) j 0) = k31 (B : Int) ((m + 1 : Nat) : Int) (mS b0 g) := by
  intro d
  induction d with
  | zero =>
    intro f j e hf
    obtain ⟨f, rfl⟩ : ∃ g, f = g + 1 := ⟨f - 1, by omega⟩
    have : j = 7 := by omega
    subst this
    have h5 : ((b0 : Int) + 5).toNat = b0 + 5 := by omega
    have h12 : ((b0 : Int) + 12).toNat = b0 + 12 := by omega
    rw [F_X12_fresh_47]
    unfold ck
    rw [if_pos (by omega), if_pos (by omega), if_pos (by omega), nx_eq, if_pos (by omega), nx_eq, h5, h12]
    rfl
  | succ d ih =>
    intro f j e hf
    obtain ⟨f, rfl⟩ : ∃ g, f = g + 1 := ⟨f - 1, by omega⟩
    have hx : ((b0 : Int) + ((4 + j : Nat) : Int)).toNat = b0 + 4 + j := by omega
    rw [F_X12_fresh_47]
    unfold ck
    rw [if_pos (by omega), if_neg (by omega), if_pos (by omega), nx_eq, hx, hfr_s]
    exact ih f (j + 1) (by omega) (by omega)
def mI (B : Nat) : Nat → Nat → MH → MH
  | 0, _, g => g
  | d + 1, m, g => mI B d (m + 1) (mS (B + 8 + 16 * m) g)
theorem fr31 {B : Nat} (hB : B + 440 ≤ 2640) : ∀ (d f m : Nat) (g : MH), m + d = 6 → d < f → F_X12_fresh_31 f (B : Int) (m : Int) g = some (hfr (mI B d m g) 142 (B + 104) 36 0) := by
  intro d
  induction d with
  | zero =>
    intro f m g e hf
    obtain ⟨f, rfl⟩ : ∃ g, f = g + 1 := ⟨f - 1, by omega⟩
    have q := fr102 (g := g) hB 36 20000 0 (by omega) (by omega)
    rw [hfr_0, show ((0 : Nat) : Int) = 0 from rfl] at q
    rw [F_X12_fresh_31]
    unfold ck
    rw [if_pos (by omega), if_pos (by omega)]
    exact q
  | succ d ih =>
    intro f m g e hf
    obtain ⟨f, rfl⟩ : ∃ g, f = g + 1 := ⟨f - 1, by omega⟩
    have q := fr47 (B := B) (m := m) (b0 := B + 8 + 16 * m) (g := g) (k31 := F_X12_fresh_31 f) (by omega) 7 20000 0 (by omega) (by omega)
    rw [hfr_0, show ((4 + 0 : Nat) : Int) = 4 from rfl, show ((B + 8 + 16 * m : Nat) : Int) = (B : Int) + 8 + 16 * (m : Int) by omega] at q
    rw [F_X12_fresh_31]
    unfold F_X12_machineAt F_X12_machineAt_0 ck
    rw [if_pos (by omega), if_neg (by omega), bind_eq]
    dsimp only
    rw [q]
    exact ih f (m + 1) _ (by omega) (by omega)
/-- a slot that the start writes, in a machine's 16 -/
def mW (d : Nat) : Prop := (4 ≤ d ∧ d ≤ 10) ∨ d = 12
theorem mS_at {b0 : Nat} {g : MH} (c k : Nat) : mS b0 g c k = if c = 142 ∧ (k = b0 + 5) then -1 else if c = 142 ∧ ((b0 + 4 ≤ k ∧ k ≤ b0 + 10) ∨ k = b0 + 12) then 0 else g c k := by
  unfold mS
  by_cases e1 : c = 142 ∧ k = b0 + 12
  · rw [e1.1, e1.2, hup_s, if_neg (by omega), if_pos (by omega)]
  · rw [hup_n _ _ _ _ _ _ e1]
    by_cases e2 : c = 142 ∧ k = b0 + 5
    · rw [e2.1, e2.2, hup_s, if_pos (by omega)]
    · rw [hup_n _ _ _ _ _ _ e2, if_neg e2]
      by_cases e3 : c = 142 ∧ b0 + 4 ≤ k ∧ k < b0 + 4 + 7
      · rw [hfr_y _ _ _ _ _ _ _ e3, if_pos (by omega)]
      · rw [hfr_n _ _ _ _ _ _ _ e3, if_neg (by omega)]
theorem mI_n {B : Nat} : ∀ (d m : Nat) (g : MH) (c k : Nat), (c ≠ 142 ∨ k < B + 8 + 16 * m ∨ B + 8 + 16 * (m + d) ≤ k ∨ ∃ m' e, k = B + 8 + 16 * m' + e ∧ e < 16 ∧ ¬ mW e) → mI B d m g c k = g c k := by
  intro d
  induction d with
  | zero => intro m g c k _; rfl
  | succ d ih =>
    intro m g c k hc
    rw [mI, ih (m + 1) _ c k (by
      rcases hc with q | q | q | q
      · exact Or.inl q
      · exact Or.inr (Or.inl (by omega))
      · exact Or.inr (Or.inr (Or.inl (by omega)))
      · exact Or.inr (Or.inr (Or.inr q))), mS_at]
    rcases hc with q | q | q | ⟨m', e, q, q1, q2⟩
    · rw [if_neg (by omega), if_neg (by omega)]
    · rw [if_neg (by omega), if_neg (by omega)]
    · rw [if_neg (by omega), if_neg (by omega)]
    · unfold mW at q2
      rw [if_neg (by omega), if_neg (by omega)]
theorem mI_y {B : Nat} : ∀ (d m : Nat) (g : MH) (m' e : Nat), m ≤ m' → m' < m + d → mW e → mI B d m g 142 (B + 8 + 16 * m' + e) = if e = 5 then -1 else 0 := by
  intro d
  induction d with
  | zero => intro m g m' e h1 h2; omega
  | succ d ih =>
    intro m g m' e h1 h2 hw
    rw [mI]
    by_cases q : m' = m
    · subst q
      have hw' := hw
      unfold mW at hw'
      rw [mI_n _ _ _ _ _ (Or.inr (Or.inl (by omega))), mS_at]
      by_cases e5 : e = 5
      · rw [if_pos (by omega), if_pos e5]
      · rw [if_neg (by omega), if_pos (by omega), if_neg e5]
    · exact ih (m + 1) _ m' e (by omega) (by omega) hw
/-- the other's start: what it writes -/
theorem fresh_eq {B : Nat} {x : Int} {g : MH} (hB : B + 440 ≤ 2640) (hx : in32 x) : F_X12_fresh (B : Int) x g = some (hfr (mI B 6 0 (hup (hup (hup g 142 (B + 2) 0) 142 (B + 3) x) 142 (B + 4) x)) 142 (B + 104) 36 0) := by
  have h2 : ((B : Int) + 2).toNat = B + 2 := by omega
  have h3 : ((B : Int) + 3).toNat = B + 3 := by omega
  have h4 : ((B : Int) + 4).toNat = B + 4 := by omega
  unfold F_X12_fresh F_X12_fresh_0 ck
  rw [if_pos (by omega), nx_eq, if_pos hx, if_pos (by omega), nx_eq, if_pos (by omega), nx_eq, h2, h3, h4]
  have q := fr31 (B := B) hB 6 20000 0 (hup (hup (hup g 142 (B + 2) 0) 142 (B + 3) x) 142 (B + 4) x) (by omega) (by omega)
  rw [show ((0 : Nat) : Int) = 0 from rfl] at q
  exact q
/-- both starts over a floor -/
theorem FR_start {f b B : Nat} {x : Int} {h g0 g : MH} (r : FR f b B h) (hx : 0 ≤ x ∧ x ≤ 9999)
    (e1 : ∀ k, k ≠ 5 → k ≠ 6 → k ≠ 7 → g f k = h f k) (e5 : g f 5 = x) (e6 : g f 6 = x) (e7 : g f 7 = 0)
    (s : ∀ d m, 1 ≤ d → d ≤ 4 → g (f + d) m = h (f + d) m) (z5 : ∀ m, m < 6 → g (f + 5) m = 0) (z6 : ∀ m, m < 6 → g (f + 6) m = -1) (z7 : ∀ m, m < 6 → g (f + 7) m = 0) (z8 : ∀ m, m < 6 → g (f + 8) m = 0) (z9 : ∀ m, m < 24 → g (f + 9) m = 0) (z10 : ∀ m, m < 36 → g (f + 10) m = 0)
    (o : ∀ k, g 142 k = hfr (mI b 6 0 (hup (hup (hup g0 142 (b + 2) 0) 142 (b + 3) x) 142 (b + 4) x)) 142 (b + 104) 36 0 142 k) (oe : ∀ k, g0 142 k = h 142 k) : FR f b B g := by
  obtain ⟨r1, r2, r3, r4, r5, r6⟩ := r
  have ob : g 142 b = h 142 b := by rw [o, hfr_n _ _ _ _ _ _ _ (by omega), mI_n _ _ _ _ _ (Or.inr (Or.inl (by omega))), hup_n _ _ _ _ _ _ (by omega), hup_n _ _ _ _ _ _ (by omega), hup_n _ _ _ _ _ _ (by omega), oe]
  have o2 : g 142 (b + 2) = 0 := by rw [o, hfr_n _ _ _ _ _ _ _ (by omega), mI_n _ _ _ _ _ (Or.inr (Or.inl (by omega))), hup_n _ _ _ _ _ _ (by omega), hup_n _ _ _ _ _ _ (by omega), hup_s]
  have o3 : g 142 (b + 3) = x := by rw [o, hfr_n _ _ _ _ _ _ _ (by omega), mI_n _ _ _ _ _ (Or.inr (Or.inl (by omega))), hup_n _ _ _ _ _ _ (by omega), hup_s]
  have o4 : g 142 (b + 4) = x := by rw [o, hfr_n _ _ _ _ _ _ _ (by omega), mI_n _ _ _ _ _ (Or.inr (Or.inl (by omega))), hup_s]
  have oW : ∀ m e, m < 6 → e < 16 → mW e → g 142 (b + 8 + 16 * m + e) = if e = 5 then -1 else 0 := fun m e hm he hw => by
    rw [o, hfr_n _ _ _ _ _ _ _ (by omega), mI_y 6 0 _ m e (by omega) (by omega) hw]
  have oN : ∀ m e, m < 6 → e < 16 → ¬ mW e → g 142 (b + 8 + 16 * m + e) = h 142 (b + 8 + 16 * m + e) := fun m e hm he hw => by
    rw [o, hfr_n _ _ _ _ _ _ _ (by omega), mI_n _ _ _ _ _ (Or.inr (Or.inr (Or.inr ⟨m, e, rfl, he, hw⟩))), hup_n _ _ _ _ _ _ (by omega), hup_n _ _ _ _ _ _ (by omega), hup_n _ _ _ _ _ _ (by omega), oe]
  unfold FR
  rw [e1 0 (by omega) (by omega) (by omega), e5, e6, e7, ob, o2, o3, o4]
  refine ⟨r1, ⟨by omega, by omega, rfl⟩, ⟨hx.1, hx.2, rfl⟩, ⟨hx.1, by omega, rfl⟩, fun m hm => ?_, fun k hk => ?_⟩
  · have hm6 : m < 6 := by omega
    obtain ⟨m1, m2, m3, m4, m5, m6, m7, m8, m9⟩ := r5 m hm
    have n0 : g 142 (b + 8 + 16 * m) = h 142 (b + 8 + 16 * m) := oN m 0 hm6 (by omega) (by unfold mW; omega)
    unfold FM
    rw [s 1 m (by omega) (by omega), s 2 m (by omega) (by omega), s 3 m (by omega) (by omega), s 4 m (by omega) (by omega), z5 m hm6, z6 m hm6, z7 m hm6, z8 m hm6, e7, n0, oN m 2 hm6 (by omega) (by unfold mW; omega), oN m 3 hm6 (by omega) (by unfold mW; omega), oN m 11 hm6 (by omega) (by unfold mW; omega), oW m 4 hm6 (by omega) (by unfold mW; omega), oW m 5 hm6 (by omega) (by unfold mW; omega), oW m 6 hm6 (by omega) (by unfold mW; omega), oW m 12 hm6 (by omega) (by unfold mW; omega)]
    refine ⟨m1, m2, m3, ⟨by omega, by omega, rfl⟩, ⟨by omega, by omega, rfl, by omega⟩, ⟨by omega, by omega, rfl⟩, fun s' hs => ?_, m8, ⟨by omega, by omega, rfl⟩⟩
    have q := oW m (7 + s') hm6 (by omega) (by unfold mW; omega)
    rw [← Nat.add_assoc, if_neg (by omega)] at q
    rw [z9 _ (by omega), q]
    exact ⟨by omega, by omega, rfl⟩
  · rw [z10 k hk, o, hfr_y _ _ _ _ _ _ _ (by omega)]
    exact ⟨by omega, by omega, rfl⟩
