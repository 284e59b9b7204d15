/-! ===== a plan, a shift, copied ===== -/
def plim (d k : Nat) : Prop := (d = 0 ∧ k = 4) ∨ (d = 1 ∧ (k = 0 ∨ k = 5 ∨ k = 6 ∨ k = 7)) ∨ (2 ≤ d ∧ d ≤ 9 ∧ k < 6) ∨ (d = 10 ∧ k < 24) ∨ (d = 11 ∧ k < 36) ∨ ((d = 12 ∨ d = 13) ∧ k < 6) ∨ (d = 14 ∧ k < 49)
theorem MR_move {p b p' b' B m : Nat} {h g : MH} (e : ∀ d k, plim d k → g (p' + d) k = h (p + d) k) (f : ∀ k, k < 190 → k ≠ 5 → g 142 (b' + k) = h 142 (b + k)) (hm : m < 6) (r : MR p b B m h) : MR p' b' B m g := by
  obtain ⟨r1, r2, r3, r4, r5, r6, r7, r8, r9, r10, r11⟩ := r
  have f' : ∀ d, d < 16 → g 142 (b' + 8 + 16 * m + d) = h 142 (b + 8 + 16 * m + d) := fun d hd => by
    have q := f (8 + 16 * m + d) (by omega) (by omega)
    rw [show b' + 8 + 16 * m + d = b' + (8 + 16 * m + d) by omega, q, show b + 8 + 16 * m + d = b + (8 + 16 * m + d) by omega]
  have f0 : g 142 (b' + 8 + 16 * m) = h 142 (b + 8 + 16 * m) := f' 0 (by decide)
  unfold MR
  rw [e 2 m (by unfold plim; omega), e 13 m (by unfold plim; omega), e 3 m (by unfold plim; omega), e 4 m (by unfold plim; omega), e 6 m (by unfold plim; omega), e 7 m (by unfold plim; omega), e 1 7 (by unfold plim; omega), e 8 m (by unfold plim; omega), e 5 m (by unfold plim; omega), e 9 m (by unfold plim; omega), e 12 m (by unfold plim; omega), f0, f' 1 (by decide), f' 2 (by decide), f' 3 (by decide), f' 4 (by decide), f' 5 (by decide), f' 6 (by decide), f' 11 (by decide), f' 12 (by decide), f' 13 (by decide)]
  refine ⟨r1, r2, r3, r4, r5, r6, r7, fun s hs => ?_, r9, r10, r11⟩
  have f7 : g 142 (b' + 8 + 16 * m + 7 + s) = h 142 (b + 8 + 16 * m + 7 + s) := by
    have q := f' (7 + s) (by omega)
    rw [← Nat.add_assoc, ← Nat.add_assoc] at q
    exact q
  rw [e 10 _ (by unfold plim; omega), f7]
  exact r8 s hs
theorem PR_move {p b p' b' B : Nat} {h g : MH} (e : ∀ d k, plim d k → g (p' + d) k = h (p + d) k) (f : ∀ k, k < 190 → k ≠ 5 → g 142 (b' + k) = h 142 (b + k)) (r : PR p b B h) : PR p' b' B g := by
  obtain ⟨r1, r2, r3, r4, r5, r6, r7, r8⟩ := r
  have e0 : g p' 4 = h p 4 := e 0 4 (by unfold plim; omega)
  have f0 : g 142 b' = h 142 b := f 0 (by decide) (by decide)
  unfold PR
  rw [e 1 0 (by unfold plim; omega), e0, e 1 7 (by unfold plim; omega), e 1 5 (by unfold plim; omega), e 1 6 (by unfold plim; omega), f0, f 1 (by decide) (by decide), f 2 (by decide) (by decide), f 3 (by decide) (by decide), f 4 (by decide) (by decide)]
  refine ⟨r1, r2, r3, r4, r5, fun m hm => MR_move e f (by omega) (r6 m hm), fun k hk => ?_, fun k hk => ?_⟩
  · have f1 : g 142 (b' + 104 + k) = h 142 (b + 104 + k) := by rw [Nat.add_assoc, f (104 + k) (by omega) (by omega), Nat.add_assoc]
    rw [e 11 _ (by unfold plim; omega), f1]
    exact r7 k hk
  · have f1 : g 142 (b' + 140 + k) = h 142 (b + 140 + k) := by rw [Nat.add_assoc, f (140 + k) (by omega) (by omega), Nat.add_assoc]
    rw [e 14 _ (by unfold plim; omega), f1]
    exact r8 k hk
theorem cntS_m {b b' : Nat} {h g : MH} : ∀ e : Nat, (∀ i, i < e → g 142 (b' + 190 + 4 * i) = h 142 (b + 190 + 4 * i)) → cntS b' g e = cntS b h e
  | 0, _ => rfl
  | e + 1, f => by
    rw [cntS, cntS, cntS_m e (fun i hi => f i (by omega)), f e (by omega)]
theorem opnS_m {b b' : Nat} {h g : MH} : ∀ e : Nat, (∀ i, i < e → g 142 (b' + 190 + 4 * i) = h 142 (b + 190 + 4 * i)) → opnS b' g e = opnS b h e
  | 0, _ => rfl
  | e + 1, f => by
    rw [opnS, opnS, opnS_m e (fun i hi => f i (by omega)), f e (by omega)]
theorem cntS_le {b : Nat} {h : MH} : ∀ e e' : Nat, e ≤ e' → cntS b h e ≤ cntS b h e' := by
  intro e e' he
  induction e' with
  | zero => have : e = 0 := by omega
            subst this; exact Nat.le_refl _
  | succ e' ih =>
    by_cases q : e = e' + 1
    · subst q; exact Nat.le_refl _
    · have := ih (by omega)
      rw [show cntS b h (e' + 1) = cntS b h e' + (if h 142 (b + 190 + 4 * e') = 6 then 0 else 1) from rfl]
      omega
theorem cntS_lt {b : Nat} {h : MH} {e E : Nat} (he : e < E) (hk : h 142 (b + 190 + 4 * e) ≠ 6) : cntS b h e < cntS b h E := by
  have q := cntS_le (b := b) (h := h) (e + 1) E (by omega)
  rw [show cntS b h (e + 1) = cntS b h e + (if h 142 (b + 190 + 4 * e) = 6 then 0 else 1) from rfl, if_neg hk] at q
  omega
theorem SR_move {q b q' b' : Nat} {h g : MH} (e0 : g q' 0 = h q 0) (e : ∀ d k, 1 ≤ d → d ≤ 4 → k < 30 → g (q' + d) k = h (q + d) k) (f : ∀ k, k < 440 → g 142 (b' + k) = h 142 (b + k)) (r : SR q b h) : SR q' b' g := by
  obtain ⟨E, r1, r2, r3, r4, r5, r6, r7, r8⟩ := r
  have f5 : g 142 (b' + 5) = h 142 (b + 5) := f 5 (by omega)
  have f4 : ∀ i d, i < 62 → d < 4 → g 142 (b' + 190 + 4 * i + d) = h 142 (b + 190 + 4 * i + d) := fun i d hi hd => by
    rw [show b' + 190 + 4 * i + d = b' + (190 + 4 * i + d) by omega, f _ (by omega), show b + 190 + 4 * i + d = b + (190 + 4 * i + d) by omega]
  have f0 : ∀ i, i < 62 → g 142 (b' + 190 + 4 * i) = h 142 (b + 190 + 4 * i) := fun i hi => f4 i 0 hi (by decide)
  have hc : ∀ i, i ≤ 60 → cntS b' g i = cntS b h i := fun i hi => cntS_m i (fun j hj => f0 j (by omega))
  have ho : ∀ i, i ≤ 60 → opnS b' g i = opnS b h i := fun i hi => opnS_m i (fun j hj => f0 j (by omega))
  refine ⟨E, by rw [f5]; exact r1, r2, by rw [e0, hc E r2]; exact r3, by rw [hc E r2]; exact r4, by rw [ho E r2]; exact r5, fun i hi => by rw [ho i (by omega)]; exact r6 i hi, fun i hi => ?_, fun i l hi hl hk => ?_⟩
  · have s := r7 i hi
    unfold SR1 at s ⊢
    simp only [f0 i (by omega), f4 i 1 (by omega) (by decide), f4 i 2 (by omega) (by decide), f4 i 3 (by omega) (by decide), hc i (by omega), f5] at s ⊢
    obtain ⟨s1, s2, s3, s4⟩ := s
    refine ⟨s1, fun hk => ?_, fun hk => ?_, fun hk => ?_⟩
    · have cl := cntS_lt (b := b) (h := h) hi hk
      rw [e 1 _ (by omega) (by omega) (by omega), e 2 _ (by omega) (by omega) (by omega), e 3 _ (by omega) (by omega) (by omega)]
      exact s2 hk
    · have cl := cntS_lt (b := b) (h := h) hi (by omega)
      obtain ⟨l, t1, t2, t3, t4, t5, t6⟩ := s3 hk
      refine ⟨l, t1, t2, t3, ?_, ?_, ?_⟩
      · rw [f0 l (by omega)]; exact t4
      · rw [f4 l 3 (by omega) (by decide)]; exact t5
      · rw [hc l (by omega), e 4 _ (by omega) (by omega) (by omega)]; exact t6
    · obtain ⟨o, t1, t2, t3, t4⟩ := s4 hk
      refine ⟨o, t1, t2, ?_, ?_⟩
      · rw [f0 o (by omega)]; exact t3
      · rw [f4 o 3 (by omega) (by decide)]; exact t4
  · rw [f4 i 3 (by omega) (by decide)] at hl
    rw [f0 i (by omega)] at hk
    obtain ⟨u1, u2⟩ := r8 i l hi hl hk
    have hl60 : l ≤ 60 := by
      have s := r7 i hi
      unfold SR1 at s
      obtain ⟨l', t1, t2, t3, -⟩ := s.2.2.1 hk
      have : (l' : Int) = l := by rw [← t1, hl]
      omega
    rw [ho l hl60, ho i (by omega)]
    refine ⟨u1, fun j hj1 hj2 => ?_⟩
    rw [ho j (by omega)]
    exact u2 j hj1 hj2
