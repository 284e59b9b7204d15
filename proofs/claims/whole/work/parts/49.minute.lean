/-! ===== a minute on both sides: what stays, what is equal ===== -/
theorem hup_hup (h : MH) (c k : Nat) (v w : Int) : hup (hup h c k v) c k w = hup h c k w := by
  funext c' k'
  by_cases e : c' = c ∧ k' = k
  · rw [e.1, e.2, hup_s, hup_s]
  · rw [hup_n _ _ _ _ _ _ e, hup_n _ _ _ _ _ _ e, hup_n _ _ _ _ _ _ e]
theorem hup_same (h : MH) (c k : Nat) (v : Int) (e : h c k = v) : hup h c k v = h := by
  funext c' k'
  by_cases q : c' = c ∧ k' = k
  · rw [q.1, q.2, hup_s, e]
  · rw [hup_n _ _ _ _ _ _ q]
theorem hup_comm (h : MH) (c k c2 k2 : Nat) (v w : Int) (hn : ¬ (c = c2 ∧ k = k2)) : hup (hup h c k v) c2 k2 w = hup (hup h c2 k2 w) c k v := by
  funext c' k'
  by_cases e : c' = c ∧ k' = k
  · rw [e.1, e.2, hup_n _ _ _ _ _ _ hn, hup_s, hup_s]
  · rw [hup_n _ c k v _ _ e]
    by_cases e2 : c' = c2 ∧ k' = k2
    · rw [e2.1, e2.2, hup_s, hup_s]
    · rw [hup_n _ _ _ _ _ _ e2, hup_n _ _ _ _ _ _ e2, hup_n _ _ _ _ _ _ e]
/-- the class's floor at cell f in heap h, the other's slot 0 in heap g: equal; q: counts and blames too -/
def FE (q : Prop) (f : Nat) (h g : MH) : Prop :=
  g 142 0 = h f 0 ∧ g 142 4 = h f 6 ∧
  (∀ m : Nat, m < 6 → (m : Int) < h f 0 → g 142 (8 + 16 * m) = h (f + 1) m ∧ g 142 (8 + 16 * m + 2) = h (f + 2) m ∧ g 142 (8 + 16 * m + 3) = h (f + 3) m ∧ g 142 (8 + 16 * m + 4) = h (f + 5) m ∧ g 142 (8 + 16 * m + 5) = h (f + 6) m ∧ g 142 (8 + 16 * m + 6) = h (f + 7) m ∧ g 142 (8 + 16 * m + 11) = h (f + 4) m ∧ g 142 (8 + 16 * m + 12) = h (f + 8) m) ∧
  (q → (∀ m : Nat, m < 6 → (m : Int) < h f 0 → ∀ s : Nat, s < 4 → g 142 (8 + 16 * m + 7 + s) = h (f + 9) (4 * m + s)) ∧ ∀ k : Nat, k < 36 → g 142 (104 + k) = h (f + 10) k)
/-- the floor's own bounds -/
def FI (q : Prop) (f : Nat) (A C : Int) (h : MH) : Prop :=
  (1 ≤ h f 0 ∧ h f 0 ≤ 6) ∧ (0 ≤ h f 6 ∧ h f 6 ≤ 65535) ∧
  (∀ m : Nat, (m : Int) < h f 0 → (1 ≤ h (f + 1) m ∧ h (f + 1) m ≤ 99) ∧ (0 ≤ h (f + 2) m ∧ h (f + 2) m ≤ 64) ∧ (0 ≤ h (f + 3) m ∧ h (f + 3) m ≤ 99 ∧ (0 < h (f + 2) m → 1 ≤ h (f + 3) m)) ∧ (0 ≤ h (f + 5) m ∧ h (f + 5) m ≤ 99) ∧ (0 ≤ h (f + 7) m ∧ h (f + 7) m ≤ A) ∧ (0 ≤ h (f + 4) m ∧ h (f + 4) m ≤ 999) ∧ (0 ≤ h (f + 8) m ∧ h (f + 8) m ≤ h (f + 4) m)) ∧
  (q → (∀ m : Nat, (m : Int) < h f 0 → ∀ s : Nat, s < 4 → 0 ≤ h (f + 9) (4 * m + s) ∧ h (f + 9) (4 * m + s) ≤ C) ∧ ∀ k : Nat, k < 36 → 0 ≤ h (f + 10) k ∧ h (f + 10) k ≤ C)
/-- the states -/
def FS (f : Nat) (P : Nat → Int → Prop) (h : MH) : Prop := ∀ m : Nat, (m : Int) < h f 0 → P m (h (f + 6) m)
theorem FE.wk {q : Prop} {f : Nat} {h g : MH} (r : FE q f h g) : FE False f h g := ⟨r.1, r.2.1, r.2.2.1, fun x => x.elim⟩
theorem FI.wk {q : Prop} {f : Nat} {A C : Int} {h : MH} (r : FI q f A C h) : FI False f A C h := ⟨r.1, r.2.1, r.2.2.1, fun x => x.elim⟩
theorem FI.up {q : Prop} {f : Nat} {A C A' C' : Int} {h : MH} (r : FI q f A C h) (hA : A ≤ A') (hC : C ≤ C') : FI q f A' C' h := by
  obtain ⟨r1, r2, r3, r4⟩ := r
  refine ⟨r1, r2, fun m hm => ?_, fun hq => ⟨fun m hm s hs => ?_, fun k hk => ?_⟩⟩
  · have := r3 m hm; omega
  · have := (r4 hq).1 m hm s hs; omega
  · have := (r4 hq).2 k hk; omega
/-- what a minute leaves alone -/
def CG (f c k : Nat) : Prop := ¬ (c = f ∧ k = 6) ∧ ¬ (f + 5 ≤ c ∧ c ≤ f + 10)
def OG (c k : Nat) : Prop := ¬ (c = 142 ∧ (k = 4 ∨ (8 ≤ k ∧ k < 104 ∧ ((4 ≤ (k - 8) % 16 ∧ (k - 8) % 16 ≤ 6) ∨ (k - 8) % 16 = 12))))
def O3 (c k : Nat) : Prop := ¬ (c = 142 ∧ ((8 ≤ k ∧ k < 104 ∧ 7 ≤ (k - 8) % 16 ∧ (k - 8) % 16 ≤ 10) ∨ (104 ≤ k ∧ k < 140)))
theorem FE_5 {q : Prop} {f m : Nat} {v : Int} {h g : MH} (hf : f < 100) (hm : m < 6) (r : FE q f h g) : FE q f (hup h (f + 5) m v) (hup g 142 (8 + 16 * m + 4) v) := by
  obtain ⟨r1, r2, r3, r4⟩ := r
  refine ⟨?_, ?_, fun m' hm' hl => ?_, fun hq => ⟨fun m' hm' hl s hs => ?_, fun k hk => ?_⟩⟩
  · rw [hup_n _ _ _ _ _ _ (by omega), hup_n _ _ _ _ _ _ (by omega)]; exact r1
  · rw [hup_n _ _ _ _ _ _ (by omega), hup_n _ _ _ _ _ _ (by omega)]; exact r2
  · rw [hup_n _ _ _ _ _ _ (by omega)] at hl
    obtain ⟨b0, b1, b2, b3, b4, b5, b6, b7⟩ := r3 m' hm' hl
    by_cases e : m' = m
    · subst e
      refine ⟨?_, ?_, ?_, ?_, ?_, ?_, ?_, ?_⟩ <;> simp (disch := omega) only [hup_n, hup_s] <;> first | trivial | assumption
    · refine ⟨?_, ?_, ?_, ?_, ?_, ?_, ?_, ?_⟩ <;> simp (disch := omega) only [hup_n] <;> assumption
  · rw [hup_n _ _ _ _ _ _ (by omega)] at hl
    rw [hup_n _ _ _ _ _ _ (by omega), hup_n _ _ _ _ _ _ (by omega)]; exact (r4 hq).1 m' hm' hl s hs
  · rw [hup_n _ _ _ _ _ _ (by omega), hup_n _ _ _ _ _ _ (by omega)]; exact (r4 hq).2 k hk
theorem FE_6 {q : Prop} {f m : Nat} {v : Int} {h g : MH} (hf : f < 100) (hm : m < 6) (r : FE q f h g) : FE q f (hup h (f + 6) m v) (hup g 142 (8 + 16 * m + 5) v) := by
  obtain ⟨r1, r2, r3, r4⟩ := r
  refine ⟨?_, ?_, fun m' hm' hl => ?_, fun hq => ⟨fun m' hm' hl s hs => ?_, fun k hk => ?_⟩⟩
  · rw [hup_n _ _ _ _ _ _ (by omega), hup_n _ _ _ _ _ _ (by omega)]; exact r1
  · rw [hup_n _ _ _ _ _ _ (by omega), hup_n _ _ _ _ _ _ (by omega)]; exact r2
  · rw [hup_n _ _ _ _ _ _ (by omega)] at hl
    obtain ⟨b0, b1, b2, b3, b4, b5, b6, b7⟩ := r3 m' hm' hl
    by_cases e : m' = m
    · subst e
      refine ⟨?_, ?_, ?_, ?_, ?_, ?_, ?_, ?_⟩ <;> simp (disch := omega) only [hup_n, hup_s] <;> first | trivial | assumption
    · refine ⟨?_, ?_, ?_, ?_, ?_, ?_, ?_, ?_⟩ <;> simp (disch := omega) only [hup_n] <;> assumption
  · rw [hup_n _ _ _ _ _ _ (by omega)] at hl
    rw [hup_n _ _ _ _ _ _ (by omega), hup_n _ _ _ _ _ _ (by omega)]; exact (r4 hq).1 m' hm' hl s hs
  · rw [hup_n _ _ _ _ _ _ (by omega), hup_n _ _ _ _ _ _ (by omega)]; exact (r4 hq).2 k hk
theorem FE_7 {q : Prop} {f m : Nat} {v : Int} {h g : MH} (hf : f < 100) (hm : m < 6) (r : FE q f h g) : FE q f (hup h (f + 7) m v) (hup g 142 (8 + 16 * m + 6) v) := by
  obtain ⟨r1, r2, r3, r4⟩ := r
  refine ⟨?_, ?_, fun m' hm' hl => ?_, fun hq => ⟨fun m' hm' hl s hs => ?_, fun k hk => ?_⟩⟩
  · rw [hup_n _ _ _ _ _ _ (by omega), hup_n _ _ _ _ _ _ (by omega)]; exact r1
  · rw [hup_n _ _ _ _ _ _ (by omega), hup_n _ _ _ _ _ _ (by omega)]; exact r2
  · rw [hup_n _ _ _ _ _ _ (by omega)] at hl
    obtain ⟨b0, b1, b2, b3, b4, b5, b6, b7⟩ := r3 m' hm' hl
    by_cases e : m' = m
    · subst e
      refine ⟨?_, ?_, ?_, ?_, ?_, ?_, ?_, ?_⟩ <;> simp (disch := omega) only [hup_n, hup_s] <;> first | trivial | assumption
    · refine ⟨?_, ?_, ?_, ?_, ?_, ?_, ?_, ?_⟩ <;> simp (disch := omega) only [hup_n] <;> assumption
  · rw [hup_n _ _ _ _ _ _ (by omega)] at hl
    rw [hup_n _ _ _ _ _ _ (by omega), hup_n _ _ _ _ _ _ (by omega)]; exact (r4 hq).1 m' hm' hl s hs
  · rw [hup_n _ _ _ _ _ _ (by omega), hup_n _ _ _ _ _ _ (by omega)]; exact (r4 hq).2 k hk
theorem FE_8 {q : Prop} {f m : Nat} {v : Int} {h g : MH} (hf : f < 100) (hm : m < 6) (r : FE q f h g) : FE q f (hup h (f + 8) m v) (hup g 142 (8 + 16 * m + 12) v) := by
  obtain ⟨r1, r2, r3, r4⟩ := r
  refine ⟨?_, ?_, fun m' hm' hl => ?_, fun hq => ⟨fun m' hm' hl s hs => ?_, fun k hk => ?_⟩⟩
  · rw [hup_n _ _ _ _ _ _ (by omega), hup_n _ _ _ _ _ _ (by omega)]; exact r1
  · rw [hup_n _ _ _ _ _ _ (by omega), hup_n _ _ _ _ _ _ (by omega)]; exact r2
  · rw [hup_n _ _ _ _ _ _ (by omega)] at hl
    obtain ⟨b0, b1, b2, b3, b4, b5, b6, b7⟩ := r3 m' hm' hl
    by_cases e : m' = m
    · subst e
      refine ⟨?_, ?_, ?_, ?_, ?_, ?_, ?_, ?_⟩ <;> simp (disch := omega) only [hup_n, hup_s] <;> first | trivial | assumption
    · refine ⟨?_, ?_, ?_, ?_, ?_, ?_, ?_, ?_⟩ <;> simp (disch := omega) only [hup_n] <;> assumption
  · rw [hup_n _ _ _ _ _ _ (by omega)] at hl
    rw [hup_n _ _ _ _ _ _ (by omega), hup_n _ _ _ _ _ _ (by omega)]; exact (r4 hq).1 m' hm' hl s hs
  · rw [hup_n _ _ _ _ _ _ (by omega), hup_n _ _ _ _ _ _ (by omega)]; exact (r4 hq).2 k hk
theorem FE_seed {q : Prop} {f : Nat} {v : Int} {h g : MH} (hf : f < 100) (r : FE q f h g) : FE q f (hup h f 6 v) (hup g 142 4 v) := by
  obtain ⟨r1, r2, r3, r4⟩ := r
  refine ⟨?_, ?_, fun m' hm' hl => ?_, fun hq => ⟨fun m' hm' hl s hs => ?_, fun k hk => ?_⟩⟩
  · rw [hup_n _ _ _ _ _ _ (by omega), hup_n _ _ _ _ _ _ (by omega)]; exact r1
  · rw [hup_s, hup_s]
  · rw [hup_n _ _ _ _ _ _ (by omega)] at hl
    obtain ⟨b0, b1, b2, b3, b4, b5, b6, b7⟩ := r3 m' hm' hl
    refine ⟨?_, ?_, ?_, ?_, ?_, ?_, ?_, ?_⟩ <;> simp (disch := omega) only [hup_n] <;> assumption
  · rw [hup_n _ _ _ _ _ _ (by omega)] at hl
    rw [hup_n _ _ _ _ _ _ (by omega), hup_n _ _ _ _ _ _ (by omega)]; exact (r4 hq).1 m' hm' hl s hs
  · rw [hup_n _ _ _ _ _ _ (by omega), hup_n _ _ _ _ _ _ (by omega)]; exact (r4 hq).2 k hk
theorem FE_cnt {q : Prop} {f m s0 : Nat} {v v' : Int} {h g : MH} (hv : q → v' = v) (hf : f < 100) (hm : m < 6) (hs0 : s0 < 4) (r : FE q f h g) : FE q f (hup h (f + 9) (4 * m + s0) v) (hup g 142 (8 + 16 * m + 7 + s0) v') := by
  obtain ⟨r1, r2, r3, r4⟩ := r
  refine ⟨?_, ?_, fun m' hm' hl => ?_, fun hq => ⟨fun m' hm' hl s hs => ?_, fun k hk => ?_⟩⟩
  · rw [hup_n _ _ _ _ _ _ (by omega), hup_n _ _ _ _ _ _ (by omega)]; exact r1
  · rw [hup_n _ _ _ _ _ _ (by omega), hup_n _ _ _ _ _ _ (by omega)]; exact r2
  · rw [hup_n _ _ _ _ _ _ (by omega)] at hl
    obtain ⟨b0, b1, b2, b3, b4, b5, b6, b7⟩ := r3 m' hm' hl
    refine ⟨?_, ?_, ?_, ?_, ?_, ?_, ?_, ?_⟩ <;> simp (disch := omega) only [hup_n] <;> assumption
  · rw [hup_n _ _ _ _ _ _ (by omega)] at hl
    by_cases e : m' = m ∧ s = s0
    · rw [e.1, e.2, hup_s, hup_s]; exact hv hq
    · rw [hup_n _ _ _ _ _ _ (by omega), hup_n _ _ _ _ _ _ (by omega)]; exact (r4 hq).1 m' hm' hl s hs
  · rw [hup_n _ _ _ _ _ _ (by omega), hup_n _ _ _ _ _ _ (by omega)]; exact (r4 hq).2 k hk
theorem FE_bl {q : Prop} {f k0 : Nat} {v v' : Int} {h g : MH} (hv : q → v' = v) (hf : f < 100) (hk0 : k0 < 36) (r : FE q f h g) : FE q f (hup h (f + 10) k0 v) (hup g 142 (104 + k0) v') := by
  obtain ⟨r1, r2, r3, r4⟩ := r
  refine ⟨?_, ?_, fun m' hm' hl => ?_, fun hq => ⟨fun m' hm' hl s hs => ?_, fun k hk => ?_⟩⟩
  · rw [hup_n _ _ _ _ _ _ (by omega), hup_n _ _ _ _ _ _ (by omega)]; exact r1
  · rw [hup_n _ _ _ _ _ _ (by omega), hup_n _ _ _ _ _ _ (by omega)]; exact r2
  · rw [hup_n _ _ _ _ _ _ (by omega)] at hl
    obtain ⟨b0, b1, b2, b3, b4, b5, b6, b7⟩ := r3 m' hm' hl
    refine ⟨?_, ?_, ?_, ?_, ?_, ?_, ?_, ?_⟩ <;> simp (disch := omega) only [hup_n] <;> assumption
  · rw [hup_n _ _ _ _ _ _ (by omega)] at hl
    rw [hup_n _ _ _ _ _ _ (by omega), hup_n _ _ _ _ _ _ (by omega)]; exact (r4 hq).1 m' hm' hl s hs
  · by_cases e : k = k0
    · subst e; rw [hup_s, hup_s]; exact hv hq
    · rw [hup_n _ _ _ _ _ _ (by omega), hup_n _ _ _ _ _ _ (by omega)]; exact (r4 hq).2 k hk
/-- the other writes what the floor's relation does not read -/
theorem FE_oth {q : Prop} {f k0 : Nat} {v : Int} {h g : MH} (hk : k0 = 2 ∨ k0 = 1 ∨ k0 = 3 ∨ (¬ q ∧ (104 ≤ k0 ∨ (8 ≤ k0 ∧ 7 ≤ (k0 - 8) % 16 ∧ (k0 - 8) % 16 ≤ 10)))) (r : FE q f h g) : FE q f h (hup g 142 k0 v) := by
  obtain ⟨r1, r2, r3, r4⟩ := r
  refine ⟨?_, ?_, fun m' hm' hl => ?_, fun hq => ⟨fun m' hm' hl s hs => ?_, fun k hk2 => ?_⟩⟩
  · rw [hup_n _ _ _ _ _ _ (by omega)]; exact r1
  · rw [hup_n _ _ _ _ _ _ (by omega)]; exact r2
  · obtain ⟨b0, b1, b2, b3, b4, b5, b6, b7⟩ := r3 m' hm' hl
    refine ⟨?_, ?_, ?_, ?_, ?_, ?_, ?_, ?_⟩ <;> simp (disch := omega) only [hup_n] <;> assumption
  · rw [hup_n _ _ _ _ _ _ (fun e => by rcases hk with x | x | x | x; omega; omega; omega; exact x.1 hq)]; exact (r4 hq).1 m' hm' hl s hs
  · rw [hup_n _ _ _ _ _ _ (fun e => by rcases hk with x | x | x | x; omega; omega; omega; exact x.1 hq)]; exact (r4 hq).2 k hk2
/-- the class's minutes -/
theorem FE_min {q : Prop} {f : Nat} {v : Int} {h g : MH} (r : FE q f h g) : FE q f (hup h f 7 v) g := by
  obtain ⟨r1, r2, r3, r4⟩ := r
  refine ⟨?_, ?_, fun m' hm' hl => ?_, fun hq => ⟨fun m' hm' hl s hs => ?_, fun k hk => ?_⟩⟩
  · rw [hup_n _ _ _ _ _ _ (by omega)]; exact r1
  · rw [hup_n _ _ _ _ _ _ (by omega)]; exact r2
  · rw [hup_n _ _ _ _ _ _ (by omega)] at hl
    obtain ⟨b0, b1, b2, b3, b4, b5, b6, b7⟩ := r3 m' hm' hl
    refine ⟨?_, ?_, ?_, ?_, ?_, ?_, ?_, ?_⟩ <;> simp (disch := omega) only [hup_n] <;> assumption
  · rw [hup_n _ _ _ _ _ _ (by omega)] at hl
    rw [hup_n _ _ _ _ _ _ (by omega)]; exact (r4 hq).1 m' hm' hl s hs
  · rw [hup_n _ _ _ _ _ _ (by omega)]; exact (r4 hq).2 k hk
theorem FI_5 {q : Prop} {f m : Nat} {v A C : Int} {h : MH} (hv : 0 ≤ v ∧ v ≤ 99) (r : FI q f A C h) : FI q f A C (hup h (f + 5) m v) := by
  obtain ⟨r1, r2, r3, r4⟩ := r
  refine ⟨?_, ?_, fun m' hl => ?_, fun hq => ⟨fun m' hl s hs => ?_, fun k hk => ?_⟩⟩
  · rw [hup_n _ _ _ _ _ _ (by omega)]; exact r1
  · rw [hup_n _ _ _ _ _ _ (by omega)]; exact r2
  · rw [hup_n _ _ _ _ _ _ (by omega)] at hl
    have b := r3 m' hl
    by_cases e : m' = m
    · subst e
      simp (disch := omega) only [hup_n, hup_s]
      omega
    · simp (disch := omega) only [hup_n]
      omega
  · rw [hup_n _ _ _ _ _ _ (by omega)] at hl
    rw [hup_n _ _ _ _ _ _ (by omega)]; exact (r4 hq).1 m' hl s hs
  · rw [hup_n _ _ _ _ _ _ (by omega)]; exact (r4 hq).2 k hk
theorem FI_6 {q : Prop} {f m : Nat} {v A C : Int} {h : MH} (r : FI q f A C h) : FI q f A C (hup h (f + 6) m v) := by
  obtain ⟨r1, r2, r3, r4⟩ := r
  refine ⟨?_, ?_, fun m' hl => ?_, fun hq => ⟨fun m' hl s hs => ?_, fun k hk => ?_⟩⟩
  · rw [hup_n _ _ _ _ _ _ (by omega)]; exact r1
  · rw [hup_n _ _ _ _ _ _ (by omega)]; exact r2
  · rw [hup_n _ _ _ _ _ _ (by omega)] at hl
    have b := r3 m' hl
    simp (disch := omega) only [hup_n]
    omega
  · rw [hup_n _ _ _ _ _ _ (by omega)] at hl
    rw [hup_n _ _ _ _ _ _ (by omega)]; exact (r4 hq).1 m' hl s hs
  · rw [hup_n _ _ _ _ _ _ (by omega)]; exact (r4 hq).2 k hk
theorem FI_7 {q : Prop} {f m : Nat} {v A C A' : Int} {h : MH} (hv : 0 ≤ v ∧ v ≤ A') (hA : A ≤ A') (r : FI q f A C h) : FI q f A' C (hup h (f + 7) m v) := by
  obtain ⟨r1, r2, r3, r4⟩ := r
  refine ⟨?_, ?_, fun m' hl => ?_, fun hq => ⟨fun m' hl s hs => ?_, fun k hk => ?_⟩⟩
  · rw [hup_n _ _ _ _ _ _ (by omega)]; exact r1
  · rw [hup_n _ _ _ _ _ _ (by omega)]; exact r2
  · rw [hup_n _ _ _ _ _ _ (by omega)] at hl
    have b := r3 m' hl
    by_cases e : m' = m
    · subst e
      simp (disch := omega) only [hup_n, hup_s]
      omega
    · simp (disch := omega) only [hup_n]
      omega
  · rw [hup_n _ _ _ _ _ _ (by omega)] at hl
    rw [hup_n _ _ _ _ _ _ (by omega)]; exact (r4 hq).1 m' hl s hs
  · rw [hup_n _ _ _ _ _ _ (by omega)]; exact (r4 hq).2 k hk
theorem FI_8 {q : Prop} {f m : Nat} {v A C : Int} {h : MH} (hv : 0 ≤ v ∧ v ≤ h (f + 4) m) (r : FI q f A C h) : FI q f A C (hup h (f + 8) m v) := by
  obtain ⟨r1, r2, r3, r4⟩ := r
  refine ⟨?_, ?_, fun m' hl => ?_, fun hq => ⟨fun m' hl s hs => ?_, fun k hk => ?_⟩⟩
  · rw [hup_n _ _ _ _ _ _ (by omega)]; exact r1
  · rw [hup_n _ _ _ _ _ _ (by omega)]; exact r2
  · rw [hup_n _ _ _ _ _ _ (by omega)] at hl
    have b := r3 m' hl
    by_cases e : m' = m
    · subst e
      simp (disch := omega) only [hup_n, hup_s]
      omega
    · simp (disch := omega) only [hup_n]
      omega
  · rw [hup_n _ _ _ _ _ _ (by omega)] at hl
    rw [hup_n _ _ _ _ _ _ (by omega)]; exact (r4 hq).1 m' hl s hs
  · rw [hup_n _ _ _ _ _ _ (by omega)]; exact (r4 hq).2 k hk
theorem FI_seed {q : Prop} {f : Nat} {v A C : Int} {h : MH} (hv : 0 ≤ v ∧ v ≤ 65535) (r : FI q f A C h) : FI q f A C (hup h f 6 v) := by
  obtain ⟨r1, r2, r3, r4⟩ := r
  refine ⟨?_, ?_, fun m' hl => ?_, fun hq => ⟨fun m' hl s hs => ?_, fun k hk => ?_⟩⟩
  · rw [hup_n _ _ _ _ _ _ (by omega)]; exact r1
  · rw [hup_s]; exact hv
  · rw [hup_n _ _ _ _ _ _ (by omega)] at hl
    have b := r3 m' hl
    simp (disch := omega) only [hup_n]
    omega
  · rw [hup_n _ _ _ _ _ _ (by omega)] at hl
    rw [hup_n _ _ _ _ _ _ (by omega)]; exact (r4 hq).1 m' hl s hs
  · rw [hup_n _ _ _ _ _ _ (by omega)]; exact (r4 hq).2 k hk
theorem FI_min {q : Prop} {f : Nat} {v A C : Int} {h : MH} (r : FI q f A C h) : FI q f A C (hup h f 7 v) := by
  obtain ⟨r1, r2, r3, r4⟩ := r
  refine ⟨?_, ?_, fun m' hl => ?_, fun hq => ⟨fun m' hl s hs => ?_, fun k hk => ?_⟩⟩
  · rw [hup_n _ _ _ _ _ _ (by omega)]; exact r1
  · rw [hup_n _ _ _ _ _ _ (by omega)]; exact r2
  · rw [hup_n _ _ _ _ _ _ (by omega)] at hl
    have b := r3 m' hl
    simp (disch := omega) only [hup_n]
    omega
  · rw [hup_n _ _ _ _ _ _ (by omega)] at hl
    rw [hup_n _ _ _ _ _ _ (by omega)]; exact (r4 hq).1 m' hl s hs
  · rw [hup_n _ _ _ _ _ _ (by omega)]; exact (r4 hq).2 k hk
theorem FI_cnt {q : Prop} {f i : Nat} {v A C C' : Int} {h : MH} (hv : q → 0 ≤ v ∧ v ≤ C') (hC : C ≤ C') (r : FI q f A C h) : FI q f A C' (hup h (f + 9) i v) := by
  obtain ⟨r1, r2, r3, r4⟩ := r
  refine ⟨?_, ?_, fun m' hl => ?_, fun hq => ⟨fun m' hl s hs => ?_, fun k hk => ?_⟩⟩
  · rw [hup_n _ _ _ _ _ _ (by omega)]; exact r1
  · rw [hup_n _ _ _ _ _ _ (by omega)]; exact r2
  · rw [hup_n _ _ _ _ _ _ (by omega)] at hl
    have b := r3 m' hl
    simp (disch := omega) only [hup_n]
    omega
  · rw [hup_n _ _ _ _ _ _ (by omega)] at hl
    have z := (r4 hq).1 m' hl s hs
    by_cases e : 4 * m' + s = i
    · rw [e, hup_s]; exact hv hq
    · rw [hup_n _ _ _ _ _ _ (by omega)]; omega
  · have z := (r4 hq).2 k hk
    rw [hup_n _ _ _ _ _ _ (by omega)]; omega
theorem FI_bl {q : Prop} {f i : Nat} {v A C C' : Int} {h : MH} (hv : q → 0 ≤ v ∧ v ≤ C') (hC : C ≤ C') (r : FI q f A C h) : FI q f A C' (hup h (f + 10) i v) := by
  obtain ⟨r1, r2, r3, r4⟩ := r
  refine ⟨?_, ?_, fun m' hl => ?_, fun hq => ⟨fun m' hl s hs => ?_, fun k hk => ?_⟩⟩
  · rw [hup_n _ _ _ _ _ _ (by omega)]; exact r1
  · rw [hup_n _ _ _ _ _ _ (by omega)]; exact r2
  · rw [hup_n _ _ _ _ _ _ (by omega)] at hl
    have b := r3 m' hl
    simp (disch := omega) only [hup_n]
    omega
  · rw [hup_n _ _ _ _ _ _ (by omega)] at hl
    have z := (r4 hq).1 m' hl s hs
    rw [hup_n _ _ _ _ _ _ (by omega)]; omega
  · have z := (r4 hq).2 k hk
    by_cases e : k = i
    · rw [e, hup_s]; exact hv hq
    · rw [hup_n _ _ _ _ _ _ (by omega)]; omega
