/-! ===== what a zone's cells say stays, where they stay ===== -/
theorem R1_f {h h' : MH} (a : Ag Z1 h h') (r : R1 h) : R1 h' := by
  unfold R1 at *
  rw [a 0 0 (by unfold Z1; omega), a 0 1 (by unfold Z1; omega), a 0 2 (by unfold Z1; omega), a 141 1 (by unfold Z1; omega), a 141 2 (by unfold Z1; omega), a 141 3 (by unfold Z1; omega)]
  exact r
theorem R2_f {h h' : MH} (a : Ag Z2 h h') (r : R2 h) : R2 h' := by
  intro t ht
  obtain ⟨r1, r2, r3⟩ := r t ht
  rw [a 6 t (by unfold Z2; omega), a 7 t (by unfold Z2; omega), a 143 t (by unfold Z2; omega), a 144 t (by unfold Z2; omega)]
  refine ⟨r1, r2, fun k hk => ?_⟩
  rw [a (2 + t) k (by unfold Z2; omega), a 145 _ (by unfold Z2; omega)]
  exact r3 k hk
theorem R3_f {h h' : MH} (a : Ag Z3 h h') (r : R3 h) : R3 h' := by
  obtain ⟨r1, r2, r3, r4⟩ := r
  unfold R3
  rw [a 8 1 (by unfold Z3; omega), a 8 9 (by unfold Z3; omega), a 8 10 (by unfold Z3; omega), a 141 9 (by unfold Z3; omega), a 141 15 (by unfold Z3; omega), a 141 16 (by unfold Z3; omega)]
  refine ⟨r1, r2, r3, fun k hk => ?_⟩
  rw [a 9 k (by unfold Z3; omega), a 146 k (by unfold Z3; omega)]
  exact r4 k hk
theorem MR_f {p b B m : Nat} {h h' : MH} (a : Ag (Zp p b) h h') (hm : m < 6) (r : MR p b B m h) : MR p b B m h' := by
  obtain ⟨r1, r2, r3, r4, r5, r6, r7, r8, r9, r10, r11⟩ := r
  have e : ∀ d k, d ≤ 14 → h' (p + d) k = h (p + d) k := fun d k hd => a _ _ (by unfold Zp; omega)
  have f : ∀ d, d < 16 → h' 142 (b + 8 + 16 * m + d) = h 142 (b + 8 + 16 * m + d) := fun d hd => a _ _ (by unfold Zp; omega)
  have f0 : h' 142 (b + 8 + 16 * m) = h 142 (b + 8 + 16 * m) := f 0 (by decide)
  unfold MR
  rw [e 2 m (by decide), e 13 m (by decide), e 3 m (by decide), e 4 m (by decide), e 6 m (by decide), e 7 m (by decide), e 1 7 (by decide), e 8 m (by decide), e 5 m (by decide), e 9 m (by decide), e 12 m (by decide), f0, f 1 (by decide), f 2 (by decide), f 3 (by decide), f 4 (by decide), f 5 (by decide), f 6 (by decide), f 11 (by decide), f 12 (by decide), f 13 (by decide)]
  refine ⟨r1, r2, r3, r4, r5, r6, r7, fun s hs => ?_, r9, r10, r11⟩
  have f7 : h' 142 (b + 8 + 16 * m + 7 + s) = h 142 (b + 8 + 16 * m + 7 + s) := by
    have q := f (7 + s) (by omega)
    rw [← Nat.add_assoc] at q
    exact q
  rw [e 10 _ (by decide), f7]
  exact r8 s hs
theorem PR_f {p b B : Nat} {h h' : MH} (a : Ag (Zp p b) h h') (r : PR p b B h) : PR p b B h' := by
  obtain ⟨r1, r2, r3, r4, r5, r6, r7, r8⟩ := r
  have e : ∀ d k, d ≤ 14 → h' (p + d) k = h (p + d) k := fun d k hd => a _ _ (by unfold Zp; omega)
  have e0 : h' p 4 = h p 4 := e 0 4 (by decide)
  have f : ∀ d, d < 190 → d ≠ 5 → h' 142 (b + d) = h 142 (b + d) := fun d hd h5 => a _ _ (by unfold Zp; omega)
  have f0 : h' 142 b = h 142 b := f 0 (by decide) (by decide)
  unfold PR
  rw [e 1 0 (by decide), e0, e 1 7 (by decide), e 1 5 (by decide), e 1 6 (by decide), f0, f 1 (by decide) (by decide), f 2 (by decide) (by decide), f 3 (by decide) (by decide), f 4 (by decide) (by decide)]
  refine ⟨r1, r2, r3, r4, r5, fun m hm => MR_f a (by omega) (r6 m hm), fun k hk => ?_, fun k hk => ?_⟩
  · have f1 : h' 142 (b + 104 + k) = h 142 (b + 104 + k) := f (104 + k) (by omega) (by omega) |> fun q => by rw [show b + 104 + k = b + (104 + k) by omega]; exact q
    rw [e 11 _ (by decide), f1]
    exact r7 k hk
  · have f1 : h' 142 (b + 140 + k) = h 142 (b + 140 + k) := f (140 + k) (by omega) (by omega) |> fun q => by rw [show b + 140 + k = b + (140 + k) by omega]; exact q
    rw [e 14 _ (by decide), f1]
    exact r8 k hk
theorem cntS_f {b : Nat} {h h' : MH} : ∀ e : Nat, (∀ i, i < e → h' 142 (b + 190 + 4 * i) = h 142 (b + 190 + 4 * i)) → cntS b h' e = cntS b h e
  | 0, _ => rfl
  | e + 1, f => by
    rw [cntS, cntS, cntS_f e (fun i hi => f i (by omega)), f e (by omega)]
theorem opnS_f {b : Nat} {h h' : MH} : ∀ e : Nat, (∀ i, i < e → h' 142 (b + 190 + 4 * i) = h 142 (b + 190 + 4 * i)) → opnS b h' e = opnS b h e
  | 0, _ => rfl
  | e + 1, f => by
    rw [opnS, opnS, opnS_f e (fun i hi => f i (by omega)), f e (by omega)]
theorem SR_f {q b : Nat} {h h' : MH} (a : Ag (Zs q b) h h') (r : SR q b h) : SR q b h' := by
  obtain ⟨E, r1, r2, r3, r4, r5, r6, r7, r8⟩ := r
  have e : ∀ d k, d ≤ 4 → h' (q + d) k = h (q + d) k := fun d k hd => a _ _ (by unfold Zs; omega)
  have e0 : h' q 0 = h q 0 := e 0 0 (by decide)
  have f5 : h' 142 (b + 5) = h 142 (b + 5) := a _ _ (by unfold Zs; omega)
  have f : ∀ i d, i < 62 → d < 4 → h' 142 (b + 190 + 4 * i + d) = h 142 (b + 190 + 4 * i + d) := fun i d hi hd => a _ _ (by unfold Zs; omega)
  have f0 : ∀ i, i < 62 → h' 142 (b + 190 + 4 * i) = h 142 (b + 190 + 4 * i) := fun i hi => f i 0 hi (by decide)
  have hc : ∀ i, i ≤ 60 → cntS b h' i = cntS b h i := fun i hi => cntS_f i (fun j hj => f0 j (by omega))
  have ho : ∀ i, i ≤ 60 → opnS b h' i = opnS b h i := fun i hi => opnS_f i (fun j hj => f0 j (by omega))
  refine ⟨E, by rw [f5]; exact r1, r2, by rw [e0, hc E r2]; exact r3, by rw [hc E r2]; exact r4, by rw [ho E r2]; exact r5, fun i hi => by rw [ho i (by omega)]; exact r6 i hi, fun i hi => ?_, fun i l hi hl hk => ?_⟩
  · have s := r7 i hi
    unfold SR1 at s ⊢
    simp only [f0 i (by omega), f i 1 (by omega) (by decide), f i 2 (by omega) (by decide), f i 3 (by omega) (by decide), hc i (by omega), e 1 _ (show 1 ≤ 4 by decide), e 2 _ (show 2 ≤ 4 by decide), e 3 _ (show 3 ≤ 4 by decide), e 4 _ (show 4 ≤ 4 by decide), f5] at s ⊢
    obtain ⟨s1, s2, s3, s4⟩ := s
    refine ⟨s1, s2, fun hk => ?_, fun hk => ?_⟩
    · obtain ⟨l, t1, t2, t3, t4, t5, t6⟩ := s3 hk
      refine ⟨l, t1, t2, t3, ?_, ?_, ?_⟩
      · rw [f0 l (by omega)]; exact t4
      · rw [f l 3 (by omega) (by decide)]; exact t5
      · rw [hc l (by omega)]; exact t6
    · obtain ⟨o, t1, t2, t3, t4⟩ := s4 hk
      refine ⟨o, t1, t2, ?_, ?_⟩
      · rw [f0 o (by omega)]; exact t3
      · rw [f o 3 (by omega) (by decide)]; exact t4
  · rw [f i 3 (by omega) (by decide)] at hl
    rw [f0 i (by omega)] at hk
    obtain ⟨u1, u2⟩ := r8 i l hi hl hk
    have hl60 : l ≤ 60 := by
      have s := r7 i hi
      unfold SR1 at s
      obtain ⟨l', t1, t2, t3, -⟩ := s.2.2.1 hk
      have : (l' : Int) = l := by rw [← t1, hl]
      omega
    rw [ho l hl60, ho i (by omega)]
    refine ⟨u1, fun j hj1 hj2 => ?_⟩
    rw [ho j (by omega)]
    exact u2 j hj1 hj2
theorem R6_f {B : Nat} {h h' : MH} (a : Ag Z6 h h') (r : R6 B h) : R6 B h' := by
  obtain ⟨r1, r2⟩ := r
  unfold R6
  rw [a 0 13 (by unfold Z6; omega), a 141 50 (by unfold Z6; omega)]
  refine ⟨r1, fun j hj => ?_⟩
  obtain ⟨s1, s2⟩ := r2 j hj
  exact ⟨PR_f (a.wk (fun c k q => by unfold Zp at q; unfold Z6; omega)) s1, SR_f (a.wk (fun c k q => by unfold Zs at q; unfold Z6; omega)) s2⟩
theorem R7_f {h h' : MH} (a : Ag Z7 h h') (r : R7 h) : R7 h' := by
  obtain ⟨r1, r2, r3, r4⟩ := r
  unfold R7
  rw [a 56 1 (by unfold Z7; omega), a 56 2 (by unfold Z7; omega), a 56 3 (by unfold Z7; omega), a 141 23 (by unfold Z7; omega), a 141 24 (by unfold Z7; omega), a 141 27 (by unfold Z7; omega)]
  refine ⟨r1, r2, r3, fun k hk => ?_⟩
  rw [a 68 k (by unfold Z7; omega), a 152 k (by unfold Z7; omega)]
  exact r4 k hk
theorem R8_f {h h' : MH} (a : Ag Z8 h h') (r : R8 h) : R8 h' := by
  unfold R8 at *
  rw [a 70 0 (by unfold Z8; omega), a 70 2 (by unfold Z8; omega), a 70 3 (by unfold Z8; omega), a 70 4 (by unfold Z8; omega), a 141 29 (by unfold Z8; omega), a 141 30 (by unfold Z8; omega), a 141 31 (by unfold Z8; omega)]
  exact r
theorem R9_f {h h' : MH} (a : Ag Z9 h h') (r : R9 h) : R9 h' := by
  unfold R9 at *
  rw [a 73 1 (by unfold Z9; omega), a 73 2 (by unfold Z9; omega), a 73 3 (by unfold Z9; omega), a 73 4 (by unfold Z9; omega), a 141 40 (by unfold Z9; omega), a 141 41 (by unfold Z9; omega), a 159 0 (by unfold Z9; omega), a 159 1 (by unfold Z9; omega), a 159 2 (by unfold Z9; omega), a 159 3 (by unfold Z9; omega)]
  exact r
theorem R10_f {h h' : MH} (a : Ag Z10 h h') (r : R10 h) : R10 h' := by
  obtain ⟨r1, r2⟩ := r
  unfold R10
  rw [a 75 2 (by unfold Z10; omega), a 141 45 (by unfold Z10; omega)]
  refine ⟨r1, fun k hk => ?_⟩
  rw [a 77 k (by unfold Z10; omega), a 162 k (by unfold Z10; omega)]
  exact r2 k hk
theorem R11_f {h h' : MH} (a : Ag Z11 h h') (r : R11 h) : R11 h' := by
  obtain ⟨r1, r2⟩ := r
  unfold R11
  rw [a 78 1 (by unfold Z11; omega), a 141 49 (by unfold Z11; omega)]
  refine ⟨r1, fun k hk => ?_⟩
  rw [a 79 k (by unfold Z11; omega), a 164 k (by unfold Z11; omega)]
  exact r2 k hk
theorem R12_f {h h' : MH} (a : Ag Z12 h h') (r : R12 h) : R12 h' := fun k hk => (a 160 k rfl).trans (r k hk)
/-! more calls -/
theorem MR_m {p b B B' m : Nat} {h : MH} (hB : B ≤ B') (r : MR p b B m h) : MR p b B' m h := by
  obtain ⟨r1, r2, r3, r4, r5, r6, ⟨r7, r7b, r7c⟩, r8, r9, r10, r11⟩ := r
  have hB : (B : Int) ≤ B' := by omega
  exact ⟨r1, r2, r3, r4, r5, r6, ⟨r7, by omega, r7c⟩, fun s hs => ⟨(r8 s hs).1, by have := (r8 s hs).2.1; omega, (r8 s hs).2.2⟩, r9, r10, r11⟩
theorem PR_m {p b B B' : Nat} {h : MH} (hB : B ≤ B') (r : PR p b B h) : PR p b B' h := by
  obtain ⟨r1, r2, ⟨r3, r3b, r3c⟩, r4, r5, r6, r7, r8⟩ := r
  have hB' : (B : Int) ≤ B' := by omega
  exact ⟨r1, r2, ⟨r3, by omega, r3c⟩, r4, r5, fun m hm => MR_m hB (r6 m hm), fun k hk => ⟨(r7 k hk).1, by have := (r7 k hk).2.1; omega, (r7 k hk).2.2⟩, r8⟩
theorem R6_m {B B' : Nat} {h : MH} (hB : B ≤ B') (r : R6 B h) : R6 B' h := ⟨r.1, fun j hj => ⟨PR_m hB (r.2 j hj).1, (r.2 j hj).2⟩⟩
theorem RR_m {n n' : Nat} {h : MH} (hn : n ≤ n') (r : RR n h) : RR n' h := by
  obtain ⟨r1, r2, r3, r4, r5, r6, r7⟩ := r
  exact ⟨r1, r2, r3, PR_m hn r4, r5, R6_m hn r6, r7⟩
theorem RR_mono : ∀ n h, RR n h → RR (n + 1) h := fun n _ r => RR_m (Nat.le_succ n) r
/-! cells that no zone has: nothing but the status changes -/
def Zall (c k : Nat) : Prop := Z2 c k ∨ Z3 c k ∨ Zp 34 0 c k ∨ Zs 49 0 c k ∨ Z6 c k ∨ Z7 c k ∨ Z8 c k ∨ Z9 c k ∨ Z10 c k ∨ Z11 c k ∨ Z12 c k
theorem RR_rest {n : Nat} {h h' : MH} (a : Ag Zall h h') (r1 : R1 h') (r : RR n h) : RR n h' := by
  obtain ⟨-, r2, r3, r4, r5, r6, r7, r8, r9, r10, r11, r12⟩ := r
  exact ⟨r1, R2_f (a.wk (fun c k q => Or.inl q)) r2, R3_f (a.wk (fun c k q => Or.inr (Or.inl q))) r3, PR_f (a.wk (fun c k q => Or.inr (Or.inr (Or.inl q)))) r4, SR_f (a.wk (fun c k q => Or.inr (Or.inr (Or.inr (Or.inl q))))) r5, R6_f (a.wk (fun c k q => Or.inr (Or.inr (Or.inr (Or.inr (Or.inl q)))))) r6, R7_f (a.wk (fun c k q => Or.inr (Or.inr (Or.inr (Or.inr (Or.inr (Or.inl q))))))) r7, R8_f (a.wk (fun c k q => Or.inr (Or.inr (Or.inr (Or.inr (Or.inr (Or.inr (Or.inl q)))))))) r8, R9_f (a.wk (fun c k q => Or.inr (Or.inr (Or.inr (Or.inr (Or.inr (Or.inr (Or.inr (Or.inl q))))))))) r9, R10_f (a.wk (fun c k q => Or.inr (Or.inr (Or.inr (Or.inr (Or.inr (Or.inr (Or.inr (Or.inr (Or.inl q)))))))))) r10, R11_f (a.wk (fun c k q => Or.inr (Or.inr (Or.inr (Or.inr (Or.inr (Or.inr (Or.inr (Or.inr (Or.inr (Or.inl q))))))))))) r11, R12_f (a.wk (fun c k q => Or.inr (Or.inr (Or.inr (Or.inr (Or.inr (Or.inr (Or.inr (Or.inr (Or.inr (Or.inr q))))))))))) r12⟩
/-- both statuses are written, nothing else -/
theorem RR_st {n : Nat} {h : MH} {v : Int} (hv : 0 ≤ v ∧ v ≤ 9) (r : RR n h) : RR (n + 1) (hup (hup h 0 0 v) 141 1 v) := by
  refine RR_mono _ _ (RR_rest (h := h) ?_ ?_ r)
  · refine Ag.up (Ag.up Ag.rf ?_) ?_ <;> (unfold Zall Z2 Z3 Zp Zs Z6 Z7 Z8 Z9 Z10 Z11 Z12; omega)
  · obtain ⟨⟨-, r2, r3⟩, -⟩ := r
    exact ⟨⟨hv.1, hv.2, rfl⟩, r2, r3⟩
