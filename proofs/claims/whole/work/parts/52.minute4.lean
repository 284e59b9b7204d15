/-! ===== a minute: what is counted ===== -/
theorem of5 {x m : Nat} {g : MH} (hx : x < 6) : F_X12_ofMachine (x : Int) 5 g = some (g 142 (8 + 16 * x + 5), g) := by
  unfold F_X12_ofMachine F_X12_ofMachine_0 F_X12_machineAt F_X12_machineAt_0 ck
  simp only [bind_eq]
  rw [if_pos (by omega), show ((0 : Int) + 8 + 16 * (x : Int) + 5).toNat = 8 + 16 * x + 5 by omega]
theorem m96 {k48 : Int → Int → MH → Option MH} {fu m : Nat} {X t : Int} {g : MH} (hm : m < 6) (e : g 142 (8 + 16 * m + 5) = t) (ht : 1 ≤ t ∧ t ≤ 2) : F_X12_minute_96 k48 (fu + 1) X (m : Int) t (m : Int) g = F_X12_minute_96 k48 fu X (m : Int) t ((m : Int) + if t = 1 then -1 else 1) g := by
  rw [F_X12_minute_96, of5 (m := 0) hm, bind_eq]
  unfold ck F_X12_minute_121
  dsimp only
  rw [e, if_pos (by omega), if_pos (by omega), if_neg (by omega)]
  by_cases c : t = 1
  · rw [if_neg (by omega), if_pos c, nx_eq]
  · rw [if_pos (by omega), if_neg c, nx_eq]
theorem sv_l {q : Prop} {f n m : Nat} {h : MH} {k48 : Int → Int → MH → Option MH} {X : Int} (hn6 : n ≤ 6) (hn : h f 0 = (n : Int)) (s : FS f (SP n 0) h) : ∀ (d fu fu' : Nat), d < m → m < n → d < fu → d < fu' →
    ∃ o : Nat, o < n ∧ F_X1_starverOf_4 fu f (d : Int) h = some ((o : Int), h) ∧ ∀ g, FE q f h g → F_X12_minute_96 k48 fu' X (m : Int) 1 (d : Int) g = k48 X ((m + 1 : Nat) : Int) (hup g 142 (104 + (6 * m + o)) (g 142 (104 + (6 * m + o)) + 1)) := by
  have O : ∀ (d fu : Nat) (g : MH), d < m → m < n → FE q f h g → h (f + 6) d ≠ 1 → F_X12_minute_96 k48 (fu + 1) X (m : Int) 1 (d : Int) g = k48 X ((m + 1 : Nat) : Int) (hup g 142 (104 + (6 * m + d)) (g 142 (104 + (6 * m + d)) + 1)) := by
    intro d fu g hd hm x c
    obtain ⟨w0, w1, w2, w3, w4, w5, w6, w7⟩ := x.2.2.1 d (by omega) (by omega)
    have sd := s d (by omega)
    rw [F_X12_minute_96, of5 (m := 0) (by omega), bind_eq]
    unfold ck F_X12_minute_146
    dsimp only
    have := sd.1
    have := sd.2.1
    rw [w4, if_pos (by omega), if_pos (by omega), if_pos (by omega), if_pos (by omega), nx_eq, show ((104 : Int) + 6 * (m : Int) + (d : Int)).toNat = 104 + (6 * m + d) by omega]
    rfl
  intro d
  induction d with
  | zero =>
    intro fu fu' hd hm l1 l2
    obtain ⟨fu, rfl⟩ : ∃ g, fu = g + 1 := ⟨fu - 1, by omega⟩
    obtain ⟨fu', rfl⟩ : ∃ g, fu' = g + 1 := ⟨fu' - 1, by omega⟩
    refine ⟨0, by omega, ?_, fun g x => O 0 fu' g hd hm x ((s 0 (by omega)).2.2.1 rfl)⟩
    rw [F_X1_starverOf_4]
    unfold ck
    rw [if_pos (by omega), if_pos (by omega)]
    rfl
  | succ d ih =>
    intro fu fu' hd hm l1 l2
    obtain ⟨fu, rfl⟩ : ∃ g, fu = g + 1 := ⟨fu - 1, by omega⟩
    obtain ⟨fu', rfl⟩ : ∃ g, fu' = g + 1 := ⟨fu' - 1, by omega⟩
    have sd := s (d + 1) (by omega)
    have s1 := sd.1
    have s2 := sd.2.1
    have et : (((d + 1 : Nat) : Int)).toNat = d + 1 := by omega
    have ed : ((d + 1 : Nat) : Int) + (-1) = (d : Int) := by omega
    by_cases c : h (f + 6) (d + 1) = 1
    · obtain ⟨o, o1, o2, o3⟩ := ih fu fu' (by omega) hm (by omega) (by omega)
      refine ⟨o, o1, ?_, fun g x => ?_⟩
      · rw [← o2, F_X1_starverOf_4]
        unfold ck
        rw [if_pos (by omega), if_neg (by omega), if_pos (by omega), et, if_pos (by omega), if_pos c, ed]
      · obtain ⟨w0, w1, w2, w3, w4, w5, w6, w7⟩ := x.2.2.1 (d + 1) (by omega) (by omega)
        rw [← o3 g x, F_X12_minute_96, of5 (m := 0) (by omega), bind_eq]
        unfold ck F_X12_minute_121
        dsimp only
        rw [w4, if_pos (by omega), if_pos (by omega), if_neg (by omega), if_neg (by omega), nx_eq, ed]
    · refine ⟨d + 1, by omega, ?_, fun g x => O (d + 1) fu' g hd hm x c⟩
      rw [F_X1_starverOf_4]
      unfold ck
      rw [if_pos (by omega), if_neg (by omega), if_pos (by omega), et, if_pos (by omega), if_neg c]
theorem bv_l {q : Prop} {f n m : Nat} {h : MH} {k48 : Int → Int → MH → Option MH} {X : Int} (hn6 : n ≤ 6) (hn : h f 0 = (n : Int)) (s : FS f (SP n 0) h) : ∀ (d fu fu' j : Nat), j + d + 1 = n → m < j → d < fu → d < fu' →
    ∃ o : Nat, o < n ∧ F_X1_blockerOf_4 fu f (j : Int) h = some ((o : Int), h) ∧ ∀ g, FE q f h g → F_X12_minute_96 k48 fu' X (m : Int) 2 (j : Int) g = k48 X ((m + 1 : Nat) : Int) (hup g 142 (104 + (6 * m + o)) (g 142 (104 + (6 * m + o)) + 1)) := by
  have O : ∀ (d fu : Nat) (g : MH), d < n → m < n → FE q f h g → h (f + 6) d ≠ 2 → F_X12_minute_96 k48 (fu + 1) X (m : Int) 2 (d : Int) g = k48 X ((m + 1 : Nat) : Int) (hup g 142 (104 + (6 * m + d)) (g 142 (104 + (6 * m + d)) + 1)) := by
    intro d fu g hd hm x c
    obtain ⟨w0, w1, w2, w3, w4, w5, w6, w7⟩ := x.2.2.1 d (by omega) (by omega)
    have sd := s d (by omega)
    rw [F_X12_minute_96, of5 (m := 0) (by omega), bind_eq]
    unfold ck F_X12_minute_146
    dsimp only
    have := sd.1
    have := sd.2.1
    rw [w4, if_pos (by omega), if_pos (by omega), if_pos (by omega), if_pos (by omega), nx_eq, show ((104 : Int) + 6 * (m : Int) + (d : Int)).toNat = 104 + (6 * m + d) by omega]
    rfl
  intro d
  induction d with
  | zero =>
    intro fu fu' j hj hm l1 l2
    obtain ⟨fu, rfl⟩ : ∃ g, fu = g + 1 := ⟨fu - 1, by omega⟩
    obtain ⟨fu', rfl⟩ : ∃ g, fu' = g + 1 := ⟨fu' - 1, by omega⟩
    refine ⟨j, by omega, ?_, fun g x => O j fu' g (by omega) (by omega) x ((s j (by omega)).2.2.2.1 (by omega))⟩
    rw [F_X1_blockerOf_4]
    unfold ck
    rw [if_pos (by omega), if_pos (by omega), if_pos (by omega), hn]
    congr 2
    omega
  | succ d ih =>
    intro fu fu' j hj hm l1 l2
    obtain ⟨fu, rfl⟩ : ∃ g, fu = g + 1 := ⟨fu - 1, by omega⟩
    obtain ⟨fu', rfl⟩ : ∃ g, fu' = g + 1 := ⟨fu' - 1, by omega⟩
    have sd := s j (by omega)
    have s1 := sd.1
    have s2 := sd.2.1
    have et : ((j : Int)).toNat = j := by omega
    have ed : (j : Int) + 1 = ((j + 1 : Nat) : Int) := by omega
    by_cases c : h (f + 6) j = 2
    · obtain ⟨o, o1, o2, o3⟩ := ih fu fu' (j + 1) (by omega) (by omega) (by omega) (by omega)
      refine ⟨o, o1, ?_, fun g x => ?_⟩
      · rw [← o2, F_X1_blockerOf_4]
        unfold ck
        rw [if_pos (by omega), if_pos (by omega), if_neg (by omega), if_pos (by omega), et, if_pos (by omega), if_pos c, ed]
      · obtain ⟨w0, w1, w2, w3, w4, w5, w6, w7⟩ := x.2.2.1 j (by omega) (by omega)
        rw [← o3 g x, F_X12_minute_96, of5 (m := 0) (by omega), bind_eq]
        unfold ck F_X12_minute_121
        dsimp only
        rw [w4, if_pos (by omega), if_pos (by omega), if_neg (by omega), if_pos (by omega), nx_eq, ed]
    · refine ⟨j, by omega, ?_, fun g x => O j fu' g (by omega) (by omega) x c⟩
      rw [F_X1_blockerOf_4]
      unfold ck
      rw [if_pos (by omega), if_pos (by omega), if_neg (by omega), if_pos (by omega), et, if_pos (by omega), if_neg c]
theorem sv_0 {f : Nat} {m : Int} {k : MH} : F_X1_starverOf f m k = F_X1_starverOf_4 20000 f (m - 1) k := by
  unfold F_X1_starverOf F_X1_starverOf_0
  rw [nx_eq]
theorem bv_0 {f : Nat} {m : Int} {k : MH} : F_X1_blockerOf f m k = F_X1_blockerOf_4 20000 f (m + 1) k := by
  unfold F_X1_blockerOf F_X1_blockerOf_0
  rw [nx_eq]
/-- the counts of a minute -/
def CN (f n m : Nat) (h g g' : MH) : Prop := ∀ m' s : Nat, m' < 6 → s < 4 → g' 142 (8 + 16 * m' + 7 + s) = g 142 (8 + 16 * m' + 7 + s) + if m ≤ m' ∧ m' < n ∧ h (f + 6) m' = (s : Int) then 1 else 0
def C9 (f c _k : Nat) : Prop := c ≠ f + 9 ∧ c ≠ f + 10
theorem FS_C9 {f : Nat} {P : Nat → Int → Prop} {h h' : MH} (s : FS f P h) (a : Ag (C9 f) h h') : FS f P h' := fun m hm => by
  rw [a f 0 (by unfold C9; omega)] at hm
  rw [a (f + 6) m (by unfold C9; omega)]
  exact s m hm
theorem mlp3 {q : Prop} {f n : Nat} {A : Int} (hf : f < 100) (hn6 : n ≤ 6) : ∀ (d fu fu' m : Nat) (C : Int) (h : MH), m + d = n → d < fu → d < fu' → h f 0 = (n : Int) → FI q f A C h → FS f (SP n 0) h →
    ∃ h', F_X1_countStates_2 fu f (m : Int) h = some h' ∧ FI q f A (C + d) h' ∧ Ag (C9 f) h h' ∧
      ∀ g, FE q f h g → ∃ g', F_X12_minute_48 fu' ((n : Int) - 1) (m : Int) g = some (hup g' 142 2 (g' 142 2 + 1)) ∧ FE q f h' g' ∧ Ag O3 g g' ∧ CN f n m h g g' := by
  intro d
  induction d with
  | zero =>
    intro fu fu' m C h e1 l1 l2 hn r s
    obtain ⟨fu, rfl⟩ : ∃ g, fu = g + 1 := ⟨fu - 1, by omega⟩
    obtain ⟨fu', rfl⟩ : ∃ g, fu' = g + 1 := ⟨fu' - 1, by omega⟩
    refine ⟨h, ?_, r.up (by omega) (by omega), Ag.rf, fun g x => ⟨g, ?_, x, Ag.rf, fun m' s a b => by rw [if_neg (by omega)]; omega⟩⟩
    · rw [F_X1_countStates_2]
      unfold ck
      rw [if_pos (by omega), if_pos (by omega), if_pos (by omega)]
    · rw [F_X12_minute_48]
      unfold ck
      rw [if_pos (by omega), if_pos (by omega), if_pos (by omega), nx_eq]
  | succ d ih =>
    intro fu fu' m C h e1 l1 l2 hn r s
    obtain ⟨fu, rfl⟩ : ∃ g, fu = g + 1 := ⟨fu - 1, by omega⟩
    obtain ⟨fu', rfl⟩ : ∃ g, fu' = g + 1 := ⟨fu' - 1, by omega⟩
    have r1 := r.1
    have sm := s m (by omega)
    obtain ⟨t, ht⟩ : ∃ t : Nat, h (f + 6) m = (t : Int) := ⟨(h (f + 6) m).toNat, by have := sm.1; omega⟩
    have t4 : t < 4 := by have := sm.2.1; omega
    have et : ((m : Int)).toNat = m := by omega
    have ei : ((m : Int) * 4 + (t : Int)).toNat = 4 * m + t := by omega
    have em : (m : Int) + 1 = ((m + 1 : Nat) : Int) := by omega
    generalize hk : hup h (f + 9) (4 * m + t) (h (f + 9) (4 * m + t) + 1) = k
    have a1 : Ag (C9 f) h k := by rw [← hk]; exact Ag.rf.up (by unfold C9; omega)
    have k0 : k f 0 = (n : Int) := by rw [a1 f 0 (by unfold C9; omega)]; exact hn
    have k6 : k (f + 6) m = (t : Int) := by rw [a1 (f + 6) m (by unfold C9; omega)]; exact ht
    have sk := FS_C9 s a1
    have rk : FI q f A (C + 1) k := by
      rw [← hk]
      exact FI_cnt (fun hq => by have := (r.2.2.2 hq).1 m (by omega) t t4; omega) (by omega) r
    have ek : ∀ g, FE q f h g → FE q f k (hup g 142 (8 + 16 * m + 7 + t) (g 142 (8 + 16 * m + 7 + t) + 1)) := fun g x => by
      rw [← hk]
      exact FE_cnt (fun hq => by rw [(x.2.2.2 hq).1 m (by omega) (by omega) t t4]) hf (by omega) t4 x
    have c1 : F_X1_countStates_2 (fu + 1) f (m : Int) h = (if (t : Int) ≠ 1 then if (t : Int) ≠ 2 then F_X1_countStates_2 fu f ((m + 1 : Nat) : Int) k else (F_X1_blockerOf f (m : Int) k).bind fun q10 => ck (0 ≤ (((m : Int) * 6) + q10.1) ∧ (((m : Int) * 6) + q10.1) < 36) <| F_X1_countStates_2 fu f ((m + 1 : Nat) : Int) (hup q10.2 (f + 10) (((m : Int) * 6) + q10.1).toNat ((q10.2 (f + 10) (((m : Int) * 6) + q10.1).toNat) + 1)) else (F_X1_starverOf f (m : Int) k).bind fun q13 => ck (0 ≤ (((m : Int) * 6) + q13.1) ∧ (((m : Int) * 6) + q13.1) < 36) <| F_X1_countStates_2 fu f ((m + 1 : Nat) : Int) (hup q13.2 (f + 10) (((m : Int) * 6) + q13.1).toNat ((q13.2 (f + 10) (((m : Int) * 6) + q13.1).toNat) + 1))) := by
      rw [F_X1_countStates_2]
      unfold F_X1_countStates_90 ck
      rw [if_pos (by omega), if_pos (by omega), if_neg (by omega), if_pos (by omega), et, ht, ei, if_pos (by omega), nx_eq, hk, k6, if_pos (by omega)]
      simp only [nx_eq, em]
    have o1 : ∀ g, FE q f h g → F_X12_minute_48 (fu' + 1) ((n : Int) - 1) (m : Int) g = (if (t : Int) = 1 then F_X12_minute_96 (F_X12_minute_48 fu') 20000 ((n : Int) - 1) (m : Int) (t : Int) (m : Int) (hup g 142 (8 + 16 * m + 7 + t) (g 142 (8 + 16 * m + 7 + t) + 1)) else if (t : Int) = 2 then F_X12_minute_96 (F_X12_minute_48 fu') 20000 ((n : Int) - 1) (m : Int) (t : Int) (m : Int) (hup g 142 (8 + 16 * m + 7 + t) (g 142 (8 + 16 * m + 7 + t) + 1)) else F_X12_minute_48 fu' ((n : Int) - 1) ((m + 1 : Nat) : Int) (hup g 142 (8 + 16 * m + 7 + t) (g 142 (8 + 16 * m + 7 + t) + 1))) := fun g x => by
      obtain ⟨w0, w1, w2, w3, w4, w5, w6, w7⟩ := x.2.2.1 m (by omega) (by omega)
      rw [F_X12_minute_48]
      unfold F_X12_minute_146 F_X12_minute_93 F_X12_machineAt F_X12_machineAt_0 ck
      rw [if_pos (by omega), if_pos (by omega), if_neg (by omega), of5 (m := 0) (by omega), bind_eq]
      simp only [bind_eq]
      rw [w4, ht, if_pos (by omega), nx_eq, show ((0 : Int) + 8 + 16 * (m : Int) + 7 + (t : Int)).toNat = 8 + 16 * m + 7 + t by omega, if_pos (by omega), em]
    have go : ∀ g, Ag O3 g (hup g 142 (8 + 16 * m + 7 + t) (g 142 (8 + 16 * m + 7 + t) + 1)) := fun g => Ag.rf.up (by unfold O3; omega)
    -- the blame: a place o, both sides go on
    have B : (∃ o : Nat, o < n ∧ F_X1_countStates_2 (fu + 1) f (m : Int) h = F_X1_countStates_2 fu f ((m + 1 : Nat) : Int) (hup k (f + 10) (6 * m + o) (k (f + 10) (6 * m + o) + 1)) ∧ ∀ g, FE q f h g → F_X12_minute_48 (fu' + 1) ((n : Int) - 1) (m : Int) g = F_X12_minute_48 fu' ((n : Int) - 1) ((m + 1 : Nat) : Int) (hup (hup g 142 (8 + 16 * m + 7 + t) (g 142 (8 + 16 * m + 7 + t) + 1)) 142 (104 + (6 * m + o)) (hup g 142 (8 + 16 * m + 7 + t) (g 142 (8 + 16 * m + 7 + t) + 1) 142 (104 + (6 * m + o)) + 1))) ∨
        (F_X1_countStates_2 (fu + 1) f (m : Int) h = F_X1_countStates_2 fu f ((m + 1 : Nat) : Int) k ∧ ∀ g, FE q f h g → F_X12_minute_48 (fu' + 1) ((n : Int) - 1) (m : Int) g = F_X12_minute_48 fu' ((n : Int) - 1) ((m + 1 : Nat) : Int) (hup g 142 (8 + 16 * m + 7 + t) (g 142 (8 + 16 * m + 7 + t) + 1))) := by
      have skm := sk m (by omega)
      by_cases x1 : t = 1
      · left
        have T : (t : Int) = 1 := by omega
        have m0 : 0 < m := by
          rcases Nat.eq_zero_or_pos m with e | e
          · exact absurd (k6.trans T) (skm.2.2.1 e)
          · exact e
        obtain ⟨o, p1, p2, p3⟩ := sv_l (q := q) (m := m) (k48 := F_X12_minute_48 fu') (X := (n : Int) - 1) hn6 k0 sk (m - 1) 20000 19999 (by omega) (by omega) (by omega) (by omega)
        refine ⟨o, p1, ?_, fun g x => ?_⟩
        · rw [c1, if_neg (by omega), sv_0, show (m : Int) - 1 = ((m - 1 : Nat) : Int) by omega, p2, bind_eq]
          unfold ck
          dsimp only
          rw [if_pos (by omega), show ((m : Int) * 6 + (o : Int)).toNat = 6 * m + o by omega]
        · obtain ⟨w0, w1, w2, w3, w4, w5, w6, w7⟩ := (ek g x).2.2.1 m (by omega) (by omega)
          rw [o1 g x, if_pos T, T, ← p3 _ (ek g x), show (20000 : Nat) = 19999 + 1 from rfl, m96 (by omega) (w4.trans (k6.trans T)) (by omega), if_pos rfl, show (m : Int) + (-1) = ((m - 1 : Nat) : Int) by omega]
      · by_cases x2 : t = 2
        · left
          have T : (t : Int) = 2 := by omega
          have m0 : m + 1 < n := by
            rcases Nat.lt_or_ge (m + 1) n with e | e
            · exact e
            · exact absurd (k6.trans T) (skm.2.2.2.1 (by omega))
          obtain ⟨o, p1, p2, p3⟩ := bv_l (q := q) (m := m) (k48 := F_X12_minute_48 fu') (X := (n : Int) - 1) hn6 k0 sk (n - 2 - m) 20000 19999 (m + 1) (by omega) (by omega) (by omega) (by omega)
          refine ⟨o, p1, ?_, fun g x => ?_⟩
          · rw [c1, if_pos (by omega), if_neg (by omega), bv_0, em, p2, bind_eq]
            unfold ck
            dsimp only
            rw [if_pos (by omega), show ((m : Int) * 6 + (o : Int)).toNat = 6 * m + o by omega]
          · obtain ⟨w0, w1, w2, w3, w4, w5, w6, w7⟩ := (ek g x).2.2.1 m (by omega) (by omega)
            rw [o1 g x, if_neg (by omega), if_pos T, T, ← p3 _ (ek g x), show (20000 : Nat) = 19999 + 1 from rfl, m96 (by omega) (w4.trans (k6.trans T)) (by omega), if_neg (by omega), em]
        · right
          exact ⟨by rw [c1, if_pos (by omega), if_pos (by omega)], fun g x => by rw [o1 g x, if_neg (by omega), if_neg (by omega)]⟩
    have cn : ∀ g g1 g' h1 : MH, (∀ c k, c ≠ 142 ∨ k < 104 → g1 c k = hup g 142 (8 + 16 * m + 7 + t) (g 142 (8 + 16 * m + 7 + t) + 1) c k) → Ag (C9 f) h h1 → CN f n (m + 1) h1 g1 g' → CN f n m h g g' := fun g g1 g' h1 e1 e2 z m' s a b => by
      have hs := e2 (f + 6) m' (by unfold C9; omega)
      rw [z m' s a b, e1 142 _ (by omega), hs]
      by_cases x : m' = m ∧ s = t
      · obtain ⟨rfl, rfl⟩ := x
        rw [hup_s, if_neg (by omega), if_pos (by omega)]
        omega
      · rw [hup_n _ _ _ _ _ _ (by omega)]
        by_cases y : m' = m
        · subst y
          rw [if_neg (by omega), if_neg (by omega)]
        · by_cases y2 : m + 1 ≤ m' ∧ m' < n ∧ h (f + 6) m' = (s : Int)
          · rw [if_pos y2, if_pos (by omega)]
          · rw [if_neg y2, if_neg (by omega)]
    rcases B with ⟨o, p1, p2, p3⟩ | ⟨p2, p3⟩
    · have r2 : FI q f A (C + 1) (hup k (f + 10) (6 * m + o) (k (f + 10) (6 * m + o) + 1)) := by
        rw [← hk, hup_n _ _ _ _ _ _ (show ¬ (f + 10 = f + 9 ∧ 6 * m + o = 4 * m + t) by omega), hup_comm _ _ _ _ _ _ _ (by omega)]
        refine FI_cnt (C := C + 1) (fun hq => ?_) (by omega) (FI_bl (C := C) (fun hq => ?_) (by omega) r)
        · have := (r.2.2.2 hq).1 m (by omega) t t4; omega
        · have := (r.2.2.2 hq).2 (6 * m + o) (by omega); omega
      have a2 : Ag (C9 f) h (hup k (f + 10) (6 * m + o) (k (f + 10) (6 * m + o) + 1)) := a1.up (by unfold C9; omega)
      obtain ⟨h', j1, j2, j3, j4⟩ := ih fu fu' (m + 1) (C + 1) _ (by omega) (by omega) (by omega) (by rw [a2 f 0 (by unfold C9; omega)]; exact hn) r2 (FS_C9 s a2)
      refine ⟨h', by rw [p2]; exact j1, j2.up (by omega) (by omega), a2.tr j3, fun g x => ?_⟩
      obtain ⟨g', z1, z2, z3, z4⟩ := j4 _ (FE_bl (k0 := 6 * m + o) (v := k (f + 10) (6 * m + o) + 1) (v' := hup g 142 (8 + 16 * m + 7 + t) (g 142 (8 + 16 * m + 7 + t) + 1) 142 (104 + (6 * m + o)) + 1) (fun hq => by rw [((ek g x).2.2.2 hq).2 (6 * m + o) (by omega)]) hf (by omega) (ek g x))
      refine ⟨g', by rw [p3 g x]; exact z1, z2, Ag.tr ((go g).up (by unfold O3; omega)) z3, cn g _ g' _ (fun c k e => hup_n _ _ _ _ _ _ (by omega)) a2 z4⟩
    · obtain ⟨h', j1, j2, j3, j4⟩ := ih fu fu' (m + 1) (C + 1) k (by omega) (by omega) (by omega) k0 rk sk
      refine ⟨h', by rw [p2]; exact j1, j2.up (by omega) (by omega), a1.tr j3, fun g x => ?_⟩
      obtain ⟨g', z1, z2, z3, z4⟩ := j4 _ (ek g x)
      exact ⟨g', by rw [p3 g x]; exact z1, z2, (go g).tr z3, cn g _ g' _ (fun _ _ _ => rfl) a1 z4⟩
