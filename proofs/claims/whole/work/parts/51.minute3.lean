/-! ===== a minute: bottles move ===== -/
def hif (b : Bool) (h : MH) (c k : Nat) (v : Int) : MH := if b then hup h c k v else h
theorem hif_n (b : Bool) (h : MH) (c k : Nat) (v : Int) (c' k' : Nat) (e : ¬ (c' = c ∧ k' = k)) : hif b h c k v c' k' = h c' k' := by
  unfold hif; cases b
  · rfl
  · exact hup_n _ _ _ _ _ _ e
theorem Ag.hi {P : Nat → Nat → Prop} {h h' : MH} {b : Bool} {c0 k0 : Nat} {v : Int} (a : Ag P h h') (w : ¬ P c0 k0) : Ag P h (hif b h' c0 k0 v) := by
  unfold hif; cases b
  · exact a
  · exact a.up w
theorem FE_8i {q : Prop} {f m : Nat} {b : Bool} {v : Int} {h g : MH} (hf : f < 100) (hm : m < 6) (r : FE q f h g) : FE q f (hif b h (f + 8) m v) (hif b g 142 (8 + 16 * m + 12) v) := by
  unfold hif; cases b
  · exact r
  · exact FE_8 hf hm r
theorem FI_8i {q : Prop} {f m : Nat} {b : Bool} {v A C : Int} {h : MH} (hv : b = true → 0 ≤ v ∧ v ≤ h (f + 4) m) (r : FI q f A C h) : FI q f A C (hif b h (f + 8) m v) := by
  unfold hif; cases b
  · exact r
  · exact FI_8 (hv rfl) r
def mva (f m : Nat) (h : MH) : Int := if m = 0 then 1000000 else h (f + 8) (m - 1)
def mvf (f m n : Nat) (h : MH) : Int := if m + 1 = n then 1000000 else h (f + 4) m - h (f + 8) m
def mvv (f m n : Nat) (h : MH) : Int := min (h (f + 1) m) (min (mva f m h) (mvf f m n h))
def mvH (f m n : Nat) (v : Int) (h : MH) : MH := hup (hif (decide (m + 1 < n)) (hif (decide (0 < m)) h (f + 8) (m - 1) (h (f + 8) (m - 1) - v)) (f + 8) m (h (f + 8) m + v)) (f + 7) m (h (f + 7) m + v)
def mvG (m n : Nat) (v : Int) (g : MH) : MH := hup (hif (decide (m + 1 < n)) (hif (decide (0 < m)) g 142 (8 + 16 * (m - 1) + 12) (g 142 (8 + 16 * (m - 1) + 12) - v)) 142 (8 + 16 * m + 12) (g 142 (8 + 16 * m + 12) + v)) 142 (8 + 16 * m + 6) (g 142 (8 + 16 * m + 6) + v)
def mvs (s a fr v : Int) : Int := if v = s then 0 else if s ≤ a then 2 else if fr < a then 2 else 1
theorem mv_b {q : Prop} {f m n : Nat} {A C : Int} {h : MH} (hm : m < n) (hn : h f 0 = (n : Int)) (r : FI q f A C h) : (0 ≤ mva f m h ∧ mva f m h ≤ 1000000) ∧ (0 ≤ mvf f m n h ∧ mvf f m n h ≤ 1000000) ∧ (0 ≤ mvv f m n h ∧ mvv f m n h ≤ h (f + 1) m ∧ mvv f m n h ≤ mva f m h ∧ mvv f m n h ≤ mvf f m n h) := by
  obtain ⟨r1, r2, r3, r4⟩ := r
  have b := r3 m (by omega)
  have b' := r3 (m - 1) (by omega)
  have x1 : 0 ≤ mva f m h ∧ mva f m h ≤ 1000000 := by unfold mva; split <;> omega
  have x2 : 0 ≤ mvf f m n h ∧ mvf f m n h ≤ 1000000 := by unfold mvf; split <;> omega
  refine ⟨x1, x2, ?_⟩
  unfold mvv
  omega
theorem mv_c {q : Prop} {f m n : Nat} {A C : Int} {h : MH} (hf : f < 100) (hm : m < n) (hn : h f 0 = (n : Int)) (r : FI q f A C h) :
    F_X1_moveBottles f (m : Int) h = some (mvs (h (f + 1) m) (mva f m h) (mvf f m n h) (mvv f m n h), mvH f m n (mvv f m n h) h) := by
  obtain ⟨x1, x2, x3⟩ := mv_b hm hn r
  obtain ⟨r1, r2, r3, r4⟩ := r
  have b := r3 m (by omega)
  have et : ((m : Int)).toNat = m := by omega
  have e1 : F_X1_moveBottles f (m : Int) h = F_X1_moveBottles_17 f (m : Int) (mva f m h) h := by
    unfold F_X1_moveBottles F_X1_moveBottles_0 ck mva
    rw [if_pos (by omega)]
    by_cases c : m = 0
    · rw [if_neg (by omega), if_pos c]
    · rw [if_pos (by omega), if_pos (by omega), if_neg c, show ((m : Int) - 1).toNat = m - 1 by omega]
  have e2 : F_X1_moveBottles_17 f (m : Int) (mva f m h) h = F_X1_moveBottles_46 f (m : Int) (mva f m h) (mvf f m n h) h := by
    unfold F_X1_moveBottles_17 ck mvf
    rw [if_pos (by omega), if_pos (by omega)]
    by_cases c : m + 1 = n
    · rw [if_neg (by omega), if_pos c]
    · rw [if_pos (by omega), if_pos (by omega), if_neg c, et]
  have e3 : F_X1_moveBottles_46 f (m : Int) (mva f m h) (mvf f m n h) h = F_X1_moveBottles_80 f (m : Int) (mva f m h) (mvf f m n h) (mvv f m n h) (hif (decide (0 < m)) h (f + 8) (m - 1) (h (f + 8) (m - 1) - mvv f m n h)) := by
    unfold F_X1_moveBottles_46 ck hif
    rw [if_pos (by omega), if_pos (by omega), if_pos (by omega), et, if_pos (by omega), if_pos (by omega), nx_eq]
    by_cases c : m = 0
    · rw [if_pos (by omega), if_neg (by simp; omega)]; rfl
    · rw [if_neg (by omega), if_pos (by omega), if_pos (by simp; omega), nx_eq, show ((m : Int) - 1).toNat = m - 1 by omega]; rfl
  rw [e1, e2, e3]
  generalize mvv f m n h = v at *
  generalize hk : hif (decide (0 < m)) h (f + 8) (m - 1) (h (f + 8) (m - 1) - v) = k
  have k0 : k f 0 = (n : Int) := by rw [← hk, hif_n _ _ _ _ _ _ _ (by omega)]; exact hn
  have k8 : k (f + 8) m = h (f + 8) m := by
    rw [← hk]; unfold hif
    by_cases c : m = 0
    · rw [if_neg (by simp; omega)]
    · rw [if_pos (by simp; omega), hup_n _ _ _ _ _ _ (by omega)]
  have k7 : k (f + 7) m = h (f + 7) m := by rw [← hk, hif_n _ _ _ _ _ _ _ (by omega)]
  have k1 : k (f + 1) m = h (f + 1) m := by rw [← hk, hif_n _ _ _ _ _ _ _ (by omega)]
  have e4 : F_X1_moveBottles_80 f (m : Int) (mva f m h) (mvf f m n h) v k = F_X1_moveBottles_101 f (m : Int) (mva f m h) (mvf f m n h) v (hif (decide (m + 1 < n)) k (f + 8) m (h (f + 8) m + v)) := by
    unfold F_X1_moveBottles_80 ck hif
    rw [if_pos (by omega), if_pos (by omega)]
    by_cases c : m + 1 = n
    · rw [if_pos (by omega), if_neg (by simp; omega)]
    · rw [if_neg (by omega), if_pos (by omega), if_pos (by simp; omega), nx_eq, et, k8]
  rw [e4]
  generalize hj : hif (decide (m + 1 < n)) k (f + 8) m (h (f + 8) m + v) = j
  have j7 : j (f + 7) m = h (f + 7) m := by rw [← hj, hif_n _ _ _ _ _ _ _ (by omega)]; exact k7
  have j1 : hup j (f + 7) m (h (f + 7) m + v) (f + 1) m = h (f + 1) m := by rw [hup_n _ _ _ _ _ _ (by omega), ← hj, hif_n _ _ _ _ _ _ _ (by omega)]; exact k1
  unfold F_X1_moveBottles_101 ck mvs mvH
  rw [hk, hj, if_pos (by omega), nx_eq, et, j7, j1, if_pos (by omega), if_pos (by omega)]
  by_cases c1 : v = h (f + 1) m
  · rw [if_neg (by omega), if_pos c1]
  · rw [if_pos (by omega), if_neg c1, if_pos (by omega)]
    by_cases c2 : h (f + 1) m ≤ mva f m h
    · rw [if_pos c2, if_pos c2]
    · rw [if_neg c2, if_neg c2, if_pos (by omega)]
      by_cases c3 : mvf f m n h < mva f m h
      · rw [if_pos c3, if_pos c3]
      · rw [if_neg c3, if_neg c3]
theorem mv_o {q : Prop} {f m n : Nat} {A C : Int} {h g : MH} (hf : f < 100) (hm : m < n) (hn : h f 0 = (n : Int)) (r : FI q f A C h) (hs : h (f + 6) m = 0) (e : FE q f h g) :
    ∃ g', F_X12_moves (m : Int) ((n : Int) - 1) g = some g' ∧ (g' = mvG m n (mvv f m n h) g ∧ mvs (h (f + 1) m) (mva f m h) (mvf f m n h) (mvv f m n h) = 0 ∨ g' = hup (mvG m n (mvv f m n h) g) 142 (8 + 16 * m + 5) (mvs (h (f + 1) m) (mva f m h) (mvf f m n h) (mvv f m n h))) := by
  obtain ⟨x1, x2, x3⟩ := mv_b hm hn r
  obtain ⟨r1, r2, r3, r4⟩ := r
  obtain ⟨e1, e2, e3, e4⟩ := e
  have b := r3 m (by omega)
  have b' := r3 (m - 1) (by omega)
  obtain ⟨y0, y1, y2, y3, y4, y5, y6, y7⟩ := e3 m (by omega) (by omega)
  obtain ⟨z0, z1, z2, z3, z4, z5, z6, z7⟩ := e3 (m - 1) (by omega) (by omega)
  have t0 : ((0 : Int) + 8 + 16 * (m : Int) + 0).toNat = 8 + 16 * m := by omega
  have t5 : ((0 : Int) + 8 + 16 * (m : Int) + 5).toNat = 8 + 16 * m + 5 := by omega
  have t6 : ((0 : Int) + 8 + 16 * (m : Int) + 6).toNat = 8 + 16 * m + 6 := by omega
  have t11 : ((0 : Int) + 8 + 16 * (m : Int) + 11).toNat = 8 + 16 * m + 11 := by omega
  have t12 : ((0 : Int) + 8 + 16 * (m : Int) + 12).toNat = 8 + 16 * m + 12 := by omega
  have p12 : 0 < m → ((0 : Int) + 8 + 16 * ((m : Int) - 1) + 12).toNat = 8 + 16 * (m - 1) + 12 := by omega
  generalize ha' : (if m = 0 then h (f + 1) m else h (f + 8) (m - 1)) = a'
  generalize hf' : (if m + 1 = n then h (f + 1) m else h (f + 4) m - h (f + 8) m) = f'
  have ha : m = 0 ∧ a' = h (f + 1) m ∧ mva f m h = 1000000 ∨ 0 < m ∧ a' = h (f + 8) (m - 1) ∧ mva f m h = a' := by
    unfold mva; rw [← ha']
    by_cases c : m = 0
    · rw [if_pos c, if_pos c]; exact Or.inl ⟨c, rfl, rfl⟩
    · rw [if_neg c, if_neg c]; exact Or.inr ⟨by omega, rfl, rfl⟩
  have hff : m + 1 = n ∧ f' = h (f + 1) m ∧ mvf f m n h = 1000000 ∨ m + 1 < n ∧ f' = h (f + 4) m - h (f + 8) m ∧ mvf f m n h = f' := by
    unfold mvf; rw [← hf']
    by_cases c : m + 1 = n
    · rw [if_pos c, if_pos c]; exact Or.inl ⟨c, rfl, rfl⟩
    · rw [if_neg c, if_neg c]; exact Or.inr ⟨by omega, rfl, rfl⟩
  have hv : min (h (f + 1) m) (min a' f') = mvv f m n h := by unfold mvv; omega
  have q1 : F_X12_moves (m : Int) ((n : Int) - 1) g = F_X12_moves_56 (m : Int) ((n : Int) - 1) (0 + 8 + 16 * (m : Int)) (h (f + 1) m) a' g := by
    unfold F_X12_moves F_X12_moves_0 F_X12_machineAt F_X12_machineAt_0 ck
    simp only [bind_eq, nx_eq]
    rw [if_pos (by omega), t0, t5, y0, y4, if_pos (by omega), if_pos (by omega), if_pos (by omega), if_pos (by omega), ← ha']
    by_cases c : m = 0
    · rw [if_neg (by omega), if_pos c]
    · rw [if_pos (by omega), if_neg c, if_pos (by omega), p12 (by omega), z7]
  have q2 : F_X12_moves_56 (m : Int) ((n : Int) - 1) (0 + 8 + 16 * (m : Int)) (h (f + 1) m) a' g = F_X12_moves_87 (m : Int) ((n : Int) - 1) (0 + 8 + 16 * (m : Int)) (h (f + 1) m) a' f' g := by
    unfold F_X12_moves_56 ck
    rw [if_pos (by omega), if_pos (by omega), ← hf']
    by_cases c : m + 1 = n
    · rw [if_neg (by omega), if_pos c]
    · rw [if_pos (by omega), if_pos (by omega), if_pos (by omega), if_neg c, t11, t12, y6, y7]
  have q3 : F_X12_moves_87 (m : Int) ((n : Int) - 1) (0 + 8 + 16 * (m : Int)) (h (f + 1) m) a' f' g = F_X12_moves_127 (m : Int) ((n : Int) - 1) (0 + 8 + 16 * (m : Int)) (h (f + 1) m) a' f' (mvv f m n h) (hif (decide (0 < m)) g 142 (8 + 16 * (m - 1) + 12) (g 142 (8 + 16 * (m - 1) + 12) - mvv f m n h)) := by
    unfold F_X12_moves_87 F_X12_machineAt F_X12_machineAt_0 ck hif
    simp only [bind_eq, nx_eq]
    rw [if_pos (by omega), if_pos (by omega), if_pos (by omega), if_pos (by omega), if_pos (by omega), hv]
    by_cases c : m = 0
    · rw [if_pos (by omega), if_neg (by simp; omega)]
    · rw [if_neg (by omega), if_pos (by omega), if_pos (by simp; omega), p12 (by omega)]
  rw [q1, q2, q3]
  generalize mvv f m n h = v at *
  generalize hk : hif (decide (0 < m)) g 142 (8 + 16 * (m - 1) + 12) (g 142 (8 + 16 * (m - 1) + 12) - v) = k
  have k12 : k 142 (8 + 16 * m + 12) = g 142 (8 + 16 * m + 12) := by
    rw [← hk]; unfold hif
    by_cases c : m = 0
    · rw [if_neg (by simp; omega)]
    · rw [if_pos (by simp; omega), hup_n _ _ _ _ _ _ (by omega)]
  have k6 : k 142 (8 + 16 * m + 6) = g 142 (8 + 16 * m + 6) := by rw [← hk, hif_n _ _ _ _ _ _ _ (by omega)]
  have q4 : F_X12_moves_127 (m : Int) ((n : Int) - 1) (0 + 8 + 16 * (m : Int)) (h (f + 1) m) a' f' v k = F_X12_moves_146 (m : Int) ((n : Int) - 1) (0 + 8 + 16 * (m : Int)) (h (f + 1) m) a' f' v (hif (decide (m + 1 < n)) k 142 (8 + 16 * m + 12) (g 142 (8 + 16 * m + 12) + v)) := by
    unfold F_X12_moves_127 ck hif
    rw [if_pos (by omega), if_pos (by omega)]
    by_cases c : m + 1 = n
    · rw [if_pos (by omega), if_neg (by simp; omega)]
    · rw [if_neg (by omega), if_pos (by omega), if_pos (by simp; omega), nx_eq, t12, k12]
  rw [q4]
  generalize hj : hif (decide (m + 1 < n)) k 142 (8 + 16 * m + 12) (g 142 (8 + 16 * m + 12) + v) = j
  have j6 : j 142 (8 + 16 * m + 6) = g 142 (8 + 16 * m + 6) := by rw [← hj, hif_n _ _ _ _ _ _ _ (by omega)]; exact k6
  unfold F_X12_moves_146 ck mvs mvG
  rw [hk, hj, if_pos (by omega), nx_eq, t6, t5, j6, if_pos (by omega), if_pos (by omega)]
  by_cases c1 : v = h (f + 1) m
  · rw [if_pos (by omega)]
    exact ⟨_, rfl, Or.inl ⟨rfl, if_pos c1⟩⟩
  · rw [if_neg (by omega), if_neg c1, if_pos (by omega)]
    by_cases c2 : h (f + 1) m ≤ mva f m h
    · rw [if_pos (by omega), if_pos (by omega), if_pos c2]
      exact ⟨_, rfl, Or.inr rfl⟩
    · rw [if_neg (by omega), if_pos (by omega), if_pos (by omega), if_neg c2]
      by_cases c3 : mvf f m n h < mva f m h
      · rw [if_neg (by omega), if_pos c3, if_pos (by omega), if_pos (by omega), if_pos (by omega)]
        exact ⟨_, rfl, Or.inr rfl⟩
      · rw [if_neg c3]
        by_cases c4 : m + 1 = n
        · rw [if_pos (by omega), if_pos (by omega)]
          exact ⟨_, rfl, Or.inr rfl⟩
        · rw [if_neg (by omega), if_pos (by omega), if_neg (by omega), if_pos (by omega)]
          exact ⟨_, rfl, Or.inr rfl⟩
def MI (f : Nat) (e : Int) (h h' : MH) : Prop := ∀ k : Nat, h (f + 7) k ≤ h' (f + 7) k ∧ h' (f + 7) k ≤ h (f + 7) k + e
theorem MI.tr {f : Nat} {e e' : Int} {h h' h'' : MH} (a : MI f e h h') (b : MI f e' h' h'') : MI f (e + e') h h'' := fun k => by
  have := a k; have := b k; omega
theorem MI.up {f : Nat} {e e' : Int} {h h' : MH} (a : MI f e h h') (w : e ≤ e') : MI f e' h h' := fun k => by
  have := a k; omega
theorem MI.eq {f : Nat} {h h' : MH} (a : ∀ k, h' (f + 7) k = h (f + 7) k) : MI f 0 h h' := fun k => by
  have := a k; omega
theorem mvH_st {f m n : Nat} {v : Int} {h : MH} (c k : Nat) (w : ¬ (c = f + 8 ∧ (k = m ∨ k = m - 1)) ∧ ¬ (c = f + 7 ∧ k = m)) : mvH f m n v h c k = h c k := by
  unfold mvH
  rw [hup_n _ _ _ _ _ _ (by omega), hif_n _ _ _ _ _ _ _ (by omega), hif_n _ _ _ _ _ _ _ (by omega)]
theorem mv_l {q : Prop} {f m n : Nat} {A C : Int} {h : MH} (hf : f < 100) (hm : m < n) (hn : h f 0 = (n : Int)) (r : FI q f A C h) (hs : h (f + 6) m = 0) :
    ∃ (s : Int) (h1 : MH), F_X1_moveBottles f (m : Int) h = some (s, h1) ∧ FI q f (A + 99) C (hup h1 (f + 6) m s) ∧ Ag (CG f) h (hup h1 (f + 6) m s) ∧ (∀ k, k ≠ m → hup h1 (f + 6) m s (f + 6) k = h (f + 6) k) ∧ (0 ≤ s ∧ s ≤ 3 ∧ (m = 0 → s ≠ 1) ∧ (m + 1 = n → s ≠ 2)) ∧ MI f 99 h (hup h1 (f + 6) m s) ∧
      ∀ g, FE q f h g → ∃ g', F_X12_moves (m : Int) ((n : Int) - 1) g = some g' ∧ FE q f (hup h1 (f + 6) m s) g' ∧ Ag OG g g' := by
  have r1 := r.1
  have hn6 : n ≤ 6 := by omega
  obtain ⟨x1, x2, x3, x4, x5, x6⟩ := mv_b hm hn r
  have b := r.2.2.1 m (by omega)
  have b' := r.2.2.1 (m - 1) (by omega)
  refine ⟨_, _, mv_c hf hm hn r, ?_, ?_, fun k hk => ?_, ?_, fun k => ?_, fun g x => ?_⟩
  · refine FI_6 ?_
    unfold mvH
    refine FI_7 ⟨by omega, by omega⟩ (by omega) (FI_8i (fun e => ?_) (FI_8i (fun e => ?_) r))
    · have e1 : m + 1 < n := of_decide_eq_true e
      rw [hif_n _ _ _ _ _ _ _ (by omega)]
      have : mvf f m n h = h (f + 4) m - h (f + 8) m := by unfold mvf; rw [if_neg (by omega)]
      omega
    · have e1 : 0 < m := of_decide_eq_true e
      have : mva f m h = h (f + 8) (m - 1) := by unfold mva; rw [if_neg (by omega)]
      omega
  · refine Ag.up ?_ (by unfold CG; omega)
    unfold mvH
    refine Ag.up (Ag.hi (Ag.hi Ag.rf ?_) ?_) ?_ <;> unfold CG <;> omega
  · rw [hup_n _ _ _ _ _ _ (by omega), mvH_st _ _ (by omega)]
  · have ea : m = 0 → mva f m h = 1000000 := fun e => by unfold mva; rw [if_pos e]
    have ef : m + 1 = n → mvf f m n h = 1000000 := fun e => by unfold mvf; rw [if_pos e]
    have ev : mvv f m n h = min (h (f + 1) m) (min (mva f m h) (mvf f m n h)) := rfl
    unfold mvs
    split
    · omega
    · split
      · omega
      · split <;> omega
  · rw [hup_n _ _ _ _ _ _ (by omega)]
    by_cases e : k = m
    · subst e
      unfold mvH
      rw [hup_s]
      omega
    · rw [mvH_st _ _ (by omega)]
      omega
  · obtain ⟨g', y1, y2⟩ := mv_o hf hm hn r hs x
    obtain ⟨e1, e2, e3, e4⟩ := x
    obtain ⟨w0, w1, w2, w3, w4, w5, w6, w7⟩ := e3 m (by omega) (by omega)
    obtain ⟨z0, z1, z2, z3, z4, z5, z6, z7⟩ := e3 (m - 1) (by omega) (by omega)
    have E : FE q f (mvH f m n (mvv f m n h) h) (mvG m n (mvv f m n h) g) := by
      unfold mvH mvG
      rw [z7, w7, w5]
      exact FE_7 hf (by omega) (FE_8i hf (by omega) (FE_8i hf (by omega) ⟨e1, e2, e3, e4⟩))
    have G : Ag OG g (mvG m n (mvv f m n h) g) := by
      unfold mvG
      refine Ag.up (Ag.hi (Ag.hi Ag.rf ?_) ?_) ?_ <;> unfold OG <;> omega
    refine ⟨g', y1, ?_, ?_⟩
    · rcases y2 with ⟨y2, y3⟩ | y2
      · rw [y3, hup_same _ _ _ _ (by rw [mvH_st _ _ (by omega)]; exact hs), y2]
        exact E
      · rw [y2]
        exact FE_6 hf (by omega) E
    · rcases y2 with ⟨y2, y3⟩ | y2
      · rw [y2]; exact G
      · rw [y2]; exact G.up (by unfold OG; omega)
/-- the states while bottles move: machines below d have not moved -/
def SP (n d : Nat) (k : Nat) (s : Int) : Prop := 0 ≤ s ∧ s ≤ 3 ∧ (k = 0 → s ≠ 1) ∧ (k + 1 = n → s ≠ 2) ∧ (k < d → s = 0 ∨ s = 3)
theorem mlp2 {q : Prop} {f n : Nat} {C : Int} (hf : f < 100) : ∀ (d fu fu' : Nat) (A : Int) (h : MH), d ≤ n → d < fu → d < fu' → h f 0 = (n : Int) → FI q f A C h → FS f (SP n d) h →
    ∃ h', F_X1_goOn_42 fu f ((d : Int) - 1) h = some (hup h' f 7 (h' f 7 + 1)) ∧ FI q f (A + 99 * d) C h' ∧ FS f (SP n 0) h' ∧ Ag (CG f) h h' ∧ MI f (99 * d) h h' ∧
      ∀ g, FE q f h g → ∃ g', F_X12_minute_30 fu' ((n : Int) - 1) ((d : Int) - 1) g = F_X12_minute_48 20000 ((n : Int) - 1) 0 g' ∧ FE q f h' g' ∧ Ag OG g g' := by
  intro d
  induction d with
  | zero =>
    intro fu fu' A h e1 l1 l2 hn r s
    obtain ⟨fu, rfl⟩ : ∃ g, fu = g + 1 := ⟨fu - 1, by omega⟩
    obtain ⟨fu', rfl⟩ : ∃ g, fu' = g + 1 := ⟨fu' - 1, by omega⟩
    refine ⟨h, ?_, r.up (by omega) (by omega), s, Ag.rf, (MI.eq fun _ => rfl).up (by omega), fun g x => ⟨g, ?_, x, Ag.rf⟩⟩
    · rw [F_X1_goOn_42]
      unfold ck
      rw [if_pos (by omega), if_pos (by omega), nx_eq]
    · rw [F_X12_minute_30]
      unfold ck
      rw [if_pos (by omega), if_pos (by omega)]
  | succ d ih =>
    intro fu fu' A h e1 l1 l2 hn r s
    obtain ⟨fu, rfl⟩ : ∃ g, fu = g + 1 := ⟨fu - 1, by omega⟩
    obtain ⟨fu', rfl⟩ : ∃ g, fu' = g + 1 := ⟨fu' - 1, by omega⟩
    have r1 := r.1
    have ed : ((d + 1 : Nat) : Int) - 1 = (d : Int) := by omega
    have ed' : (d : Int) + (-1) = (d : Int) - 1 := by omega
    have et : ((d : Int)).toNat = d := by omega
    have sd := s d (by omega)
    rw [ed]
    have S' : ∀ (h1 : MH), h1 f 0 = h f 0 → (∀ k, k ≠ d → h1 (f + 6) k = h (f + 6) k) → (0 ≤ h1 (f + 6) d ∧ h1 (f + 6) d ≤ 3 ∧ (d = 0 → h1 (f + 6) d ≠ 1) ∧ (d + 1 = n → h1 (f + 6) d ≠ 2)) → FS f (SP n d) h1 := fun h1 a1 a2 a3 k hk => by
      by_cases e : k = d
      · subst e; exact ⟨a3.1, a3.2.1, a3.2.2.1, a3.2.2.2, fun x => absurd x (by omega)⟩
      · rw [a2 k e]
        obtain ⟨s1, s2, s3, s4, s5⟩ := s k (by omega)
        exact ⟨s1, s2, s3, s4, fun x => s5 (by omega)⟩
    by_cases c : h (f + 6) d = 3
    · obtain ⟨h', j1, j2, j3, j4, j7, j5⟩ := ih fu fu' A h (by omega) (by omega) (by omega) hn r (S' h rfl (fun _ _ => rfl) ⟨sd.1, sd.2.1, sd.2.2.1, sd.2.2.2.1⟩)
      refine ⟨h', ?_, j2.up (by omega) (by omega), j3, j4, j7.up (by omega), fun g x => ?_⟩
      · rw [← j1, F_X1_goOn_42]
        unfold ck F_X1_goOn_67
        rw [if_pos (by omega), if_neg (by omega), if_pos (by omega), et, if_pos (by omega), if_pos c, ed']
      · obtain ⟨g', z1, z2, z3⟩ := j5 g x
        obtain ⟨w0, w1, w2, w3, w4, w5, w6, w7⟩ := x.2.2.1 d (by omega) (by omega)
        have b := r.2.2.1 d (by omega)
        refine ⟨g', ?_, z2, z3⟩
        rw [← z1, F_X12_minute_30]
        unfold ck F_X12_moves F_X12_moves_0 F_X12_machineAt F_X12_machineAt_0 ck
        simp only [bind_eq, nx_eq]
        rw [if_pos (by omega), if_neg (by omega), if_pos (by omega), if_pos (by omega), show ((0 : Int) + 8 + 16 * (d : Int) + 5).toNat = 8 + 16 * d + 5 by omega, w4, if_pos (by omega), if_neg (by omega), bind_eq, ed']
    · have c0 : h (f + 6) d = 0 := by
        rcases sd.2.2.2.2 (by omega) with x | x
        · exact x
        · exact absurd x c
      obtain ⟨sx, h1, k1, k2, k3, k4, k5, k7, k6⟩ := mv_l hf (show d < n by omega) hn r c0
      have hn' : hup h1 (f + 6) d sx f 0 = (n : Int) := by rw [k3 f 0 CG_0]; exact hn
      obtain ⟨h', j1, j2, j3, j4, j7, j5⟩ := ih fu fu' (A + 99) _ (by omega) (by omega) (by omega) hn' k2 (S' _ (by omega) k4 (by rw [hup_s]; exact k5))
      refine ⟨h', ?_, j2.up (by omega) (by omega), j3, k3.tr j4, (k7.tr j7).up (by omega), fun g x => ?_⟩
      · rw [← j1, F_X1_goOn_42]
        unfold ck F_X1_goOn_67
        rw [if_pos (by omega), if_neg (by omega), if_pos (by omega), et, if_pos (by omega), if_neg c, k1, bind_eq]
        dsimp only
        rw [nx_eq, ed']
      · obtain ⟨g1, y1, y2, y3⟩ := k6 g x
        obtain ⟨g', z1, z2, z3⟩ := j5 g1 y2
        refine ⟨g', ?_, z2, y3.tr z3⟩
        rw [← z1, F_X12_minute_30]
        unfold ck
        rw [if_pos (by omega), if_neg (by omega), y1, bind_eq, ed']
