/-! ===== waits ===== -/
theorem wsp_l {n m M : Nat} {A C W : Int} (hm : m < n) (h6 : n ≤ 6) (hW : 0 ≤ W ∧ W ≤ 20) : ∀ (d fu fu' k : Nat) (h : MH), k + d = n → d < fu → d < fu' → h 35 0 = (n : Int) → h 57 0 = (n : Int) → FI False 57 A C h → (∀ j, k ≤ j → j < n → h 36 j = h 58 j) →
    ∃ h' : MH, F_X9_waitsWith_11 fu 35 (m : Int) W (M : Int) (k : Int) h = F_X9_waitsWith_69 20000 (m : Int) (M : Int) 0 0 h' ∧ FI False 57 A C h' ∧ h' 57 0 = (n : Int) ∧ K57 h h' ∧
      ∀ G, FE False 57 h G → ∃ (e : Nat) (G' : MH), F_X12_waitsFor_11 fu' (m : Int) W (M : Int) (k : Int) G = F_X12_waitsFor_11 (e + 1) (m : Int) W (M : Int) (n : Int) G' ∧ FE False 57 h' G' ∧ ∀ c k, ¬ (c = 142 ∧ k < 440) → G' c k = G c k := by
  intro d
  induction d with
  | zero =>
    intro fu fu' k h e1 l1 l2 hn hn7 r s
    obtain ⟨fu, rfl⟩ : ∃ g, fu = g + 1 := ⟨fu - 1, by omega⟩
    obtain ⟨fu', rfl⟩ : ∃ g, fu' = g + 1 := ⟨fu' - 1, by omega⟩
    have em : k = n := by omega
    subst em
    refine ⟨h, ?_, r, hn7, fun _ _ _ => rfl, fun G x => ⟨fu', G, rfl, x, fun _ _ _ => rfl⟩⟩
    rw [F_X9_waitsWith_11]
    unfold ck
    rw [if_pos (by omega), if_pos (by omega), if_pos (by omega)]
  | succ d ih =>
    intro fu fu' k h e1 l1 l2 hn hn7 r s
    obtain ⟨fu, rfl⟩ : ∃ g, fu = g + 1 := ⟨fu - 1, by omega⟩
    obtain ⟨fu', rfl⟩ : ∃ g, fu' = g + 1 := ⟨fu' - 1, by omega⟩
    have ek : (k : Int) + 1 = ((k + 1 : Nat) : Int) := by omega
    have et : ((k : Int)).toNat = k := by omega
    have b := r.2.2.1 k (by omega)
    have sk : h (35 + 1) k = h (57 + 1) k := s k (by omega) (by omega)
    have K1 : ∀ v, K57 h (hup h 58 k v) := fun v c i e => hup_n _ _ _ _ _ _ (by omega)
    have S1 : ∀ v j, k + 1 ≤ j → j < n → hup h 58 k v 36 j = hup h 58 k v 58 j := fun v j q1 q2 => by
      rw [hup_n _ _ _ _ _ _ (by omega), hup_n _ _ _ _ _ _ (by omega)]
      exact s j (by omega) q2
    have N1 : ∀ v, hup h 58 k v 35 0 = (n : Int) ∧ hup h 58 k v 57 0 = (n : Int) := fun v => by
      rw [hup_n _ _ _ _ _ _ (by omega), hup_n _ _ _ _ _ _ (by omega)]; exact ⟨hn, hn7⟩
    by_cases c : k = m
    · have hs : hup h 58 k (h (35 + 1) k) = h := hup_same _ _ _ _ (s k (by omega) (by omega)).symm
      obtain ⟨h', j1, j2, j3, j4, j5⟩ := ih fu fu' (k + 1) h (by omega) (by omega) (by omega) hn hn7 r (fun j q1 q2 => s j (by omega) q2)
      refine ⟨h', ?_, j2, j3, j4, fun G x => ?_⟩
      · rw [← j1, F_X9_waitsWith_11]
        unfold F_X9_waitsWith_56 ck
        rw [if_pos (by omega), if_pos (by omega), if_neg (by omega), if_pos (by omega), if_neg (by omega), if_pos (by omega), if_pos (by omega), nx_eq, et, hs, ek]
      · obtain ⟨e, G', z1, z2, z3⟩ := j5 G x
        have g0 := x.1
        refine ⟨e, G', ?_, z2, z3⟩
        rw [← z1, F_X12_waitsFor_11]
        unfold F_X12_waitsFor_59 ck
        rw [if_pos (by omega), if_pos (by omega), if_neg (by omega), if_pos (by omega), if_pos (by omega), ek]
    · obtain ⟨h', j1, j2, j3, j4, j5⟩ := ih fu fu' (k + 1) (hup h 58 k (min 99 (h (35 + 1) k + W))) (by omega) (by omega) (by omega) (N1 _).1 (N1 _).2 (FI_1 (f := 57) (by omega) r) (S1 _)
      refine ⟨h', ?_, j2, j3, (K1 _).tr j4, fun G x => ?_⟩
      · rw [← j1, F_X9_waitsWith_11]
        unfold F_X9_waitsWith_56 F_X9_faster F_X9_faster_0 ck
        rw [if_pos (by omega), if_pos (by omega), if_neg (by omega), if_pos (by omega), if_pos (by omega), if_pos (by omega), et, if_pos (by omega), bind_eq]
        dsimp only
        rw [if_pos (by omega), nx_eq, ek]
      · have X1 : FE False 57 (hup h 58 k (min 99 (h (35 + 1) k + W))) (hup G 142 (8 + 16 * k) (min 99 (h (35 + 1) k + W))) := FE_1 (f := 57) (by omega) (by omega) x
        obtain ⟨e, G', z1, z2, z3⟩ := j5 _ X1
        have g0 := x.1
        refine ⟨e, G', ?_, z2, fun c i q => by rw [z3 c i q, hup_n _ _ _ _ _ _ (by omega)]⟩
        rw [← z1, F_X12_waitsFor_11]
        unfold F_X12_waitsFor_59 F_X12_machineAt F_X12_machineAt_0 ck
        rw [if_pos (by omega), if_pos (by omega), if_neg (by omega), if_pos (by omega), if_neg (by omega), bind_eq]
        dsimp only
        rw [of0 (show k < n by omega) h6 hn7 x, bind_eq]
        dsimp only
        rw [if_pos (by omega), if_pos (by omega), if_pos (by omega), nx_eq, show ((0 : Int) + 8 + 16 * (k : Int) + 0).toNat = 8 + 16 * k by omega, ek, ← sk]
/-- how long machine m has waited, in the other's slot -/
def wt (m : Nat) (g : MH) : Int := g 142 (8 + 16 * m + 8) + g 142 (8 + 16 * m + 9)
theorem wrn_l {n m : Nat} {M : Int} (hm : m < n) (h6 : n ≤ 6) (hM : in32 M) : ∀ (d fu fu' j : Nat) (A C x5 : Int) (h : MH), ((j + d : Nat) : Int) = M → d < fu → d < fu' → h 57 0 = (n : Int) → FI False 57 A C h →
    ∃ (y : Int) (h' : MH), F_X9_waitsWith_69 fu (m : Int) M x5 (j : Int) h = some (x5 + y, h') ∧ (0 ≤ y ∧ y ≤ d) ∧ K57 h h' ∧
      ∀ x2 G, FE False 57 h G → ∃ (v : Int) (G' : MH), F_X12_runs_8 fu' M x2 (j : Int) G = some (v, G') ∧ (∀ c k, ¬ (c = 142 ∧ k < 440) → G' c k = G c k) ∧ wt m G' = wt m G + y := by
  intro d
  induction d with
  | zero =>
    intro fu fu' j A C x5 h e1 l1 l2 hn r
    obtain ⟨fu, rfl⟩ : ∃ g, fu = g + 1 := ⟨fu - 1, by omega⟩
    obtain ⟨fu', rfl⟩ : ∃ g, fu' = g + 1 := ⟨fu' - 1, by omega⟩
    have r1 := r.1
    refine ⟨0, h, ?_, by omega, fun _ _ _ => rfl, fun x2 g x => ⟨h (57 + 7) (n - 1) - x2, g, ?_, fun _ _ _ => rfl, by omega⟩⟩
    · rw [F_X9_waitsWith_69]
      unfold ck
      rw [if_pos (by omega), if_pos hM, if_pos (by omega), Int.add_zero]
    · rw [F_X12_runs_8]
      unfold ck
      rw [if_pos (by omega), if_pos hM, if_pos (by omega), made_o hn (by omega) (by omega) x, bind_eq]
  | succ d ih =>
    intro fu fu' j A C x5 h e1 l1 l2 hn r
    obtain ⟨fu, rfl⟩ : ∃ g, fu = g + 1 := ⟨fu - 1, by omega⟩
    obtain ⟨fu', rfl⟩ : ∃ g, fu' = g + 1 := ⟨fu' - 1, by omega⟩
    have r1 := r.1
    have ej : (j : Int) + 1 = ((j + 1 : Nat) : Int) := by omega
    have et : ((m : Int)).toNat = m := by omega
    obtain ⟨h1, a1, a2, a3, a4, a5, a6⟩ := tick0 (f := 57) (by omega) hn r
    have hn1 : h1 57 0 = (n : Int) := by rw [a4 57 0 (by unfold CM; omega)]; exact hn
    have s := a3 m (by omega)
    have s1 : 0 ≤ h1 63 m := s.1
    have s2 : h1 63 m ≤ 3 := s.2.1
    obtain ⟨z, ez⟩ : ∃ z : Int, z = if h1 63 m = 1 ∨ h1 63 m = 2 then 1 else 0 := ⟨_, rfl⟩
    have zb : 0 ≤ z ∧ z ≤ 1 := by rw [ez]; split <;> omega
    obtain ⟨y, h', b1, b2, b3, b4⟩ := ih fu fu' (j + 1) (A + 594) C (x5 + z) h1 (by omega) (by omega) (by omega) hn1 a2
    refine ⟨z + y, h', ?_, by omega, fun c k e => by rw [b3 c k e, a4 c k (by unfold CM; omega)], fun x2 g x => ?_⟩
    · rw [← Int.add_assoc, ← b1, F_X9_waitsWith_69]
      unfold F_X9_waitsWith_109 F_X9_waitsWith_112 ck
      rw [if_pos (by omega), if_pos hM, if_neg (by omega), a1, bind_eq, if_pos (by omega), et, if_pos (by omega), ej]
      by_cases c1 : h1 63 m = 1
      · rw [if_pos c1, ez, if_pos (Or.inl c1)]
      · by_cases c2 : h1 63 m = 2
        · rw [if_neg c1, if_neg (by omega), ez, if_pos (Or.inr c2)]
        · rw [if_neg c1, if_pos c2, ez, if_neg (by omega), Int.add_zero]
    · obtain ⟨g1, y1, y2, y3, y4⟩ := a6 g x
      obtain ⟨v, g', z1, z2, z3⟩ := b4 x2 g1 y2
      refine ⟨v, g', ?_, fun c k e => by rw [z2 c k e, OM_big y3 c k e], ?_⟩
      · rw [← z1, F_X12_runs_8]
        unfold ck
        rw [if_pos (by omega), if_pos hM, if_neg (by omega), y1, bind_eq, ej]
      · have q1 := y4 m 1 (by omega) (by omega)
        have q2 := y4 m 2 (by omega) (by omega)
        rw [show (57 + 6 : Nat) = 63 from rfl] at q1 q2
        have p1 : wt m g1 = wt m g + z := by
          unfold wt
          rw [show 8 + 16 * m + 8 = 8 + 16 * m + 7 + 1 from rfl, show 8 + 16 * m + 9 = 8 + 16 * m + 7 + 2 from rfl, q1, q2, ez]
          by_cases c1 : h1 63 m = 1
          · rw [if_pos ⟨by omega, hm, by omega⟩, if_neg (by omega), if_pos (Or.inl c1)]; omega
          · by_cases c2 : h1 63 m = 2
            · rw [if_neg (by omega), if_pos ⟨by omega, hm, by omega⟩, if_pos (Or.inr c2)]; omega
            · rw [if_neg (by omega), if_neg (by omega), if_neg (by omega)]; omega
        omega
theorem ofw {m : Nat} {d : Int} {g : MH} (hm : m < 6) (hd : 0 ≤ d ∧ d < 16) : F_X12_ofMachine (m : Int) d g = some (g 142 (8 + 16 * m + d.toNat), g) := by
  unfold F_X12_ofMachine F_X12_ofMachine_0 F_X12_machineAt F_X12_machineAt_0 ck
  simp only [bind_eq]
  rw [if_pos (by omega), show ((0 : Int) + 8 + 16 * (m : Int) + d).toNat = 8 + 16 * m + d.toNat by omega]
theorem waits_l {n m M : Nat} {A C W : Int} {h : MH} (hm : m < n) (hW : 0 ≤ W ∧ W ≤ 20) (hM : M ≤ 1000) (hn : h 35 0 = (n : Int)) (r : FI True 35 A C h) :
    ∃ (y : Int) (h' : MH), F_X9_waitsWith 35 (m : Int) W (M : Int) h = some (y, h') ∧ (0 ≤ y ∧ y ≤ M) ∧ K57 h h' ∧ ∀ G, FE True 35 h G → ∃ G', F_X12_waitsFor (m : Int) W (M : Int) G = some (y, G') ∧ K22 G G' := by
  have r1 := r.1
  obtain ⟨h1, a1, a2, a3, a4⟩ := floor_copy (h := h)
  have I1 := FI_copy a2 a3 r
  obtain ⟨h2, b1, b2, b3, b4, b5⟩ := wsp_l (M := M) (W := W) hm (by omega) hW n 20000 20000 0 h1 (by omega) (by omega) (by omega) (by rw [a4 _ _ (by omega)]; exact hn) (by rw [a2.1]; exact hn) I1 (fun j q1 q2 => by rw [a4 _ _ (by omega)]; exact (a3 1 j (by omega) (by omega) (by omega)).symm)
  obtain ⟨y, h3, c1, c2, c3, c4⟩ := wrn_l (M := (M : Int)) hm (by omega) (by omega) M 20000 20000 0 A C 0 h2 (by omega) (by omega) (by omega) b3 b2
  rw [show ((0 : Nat) : Int) = 0 from rfl] at b1 c1
  refine ⟨y, h3, ?_, c2, fun c k e => by rw [c3 c k e, b4 c k e, a4 c k e], fun G x => ?_⟩
  · unfold F_X9_waitsWith F_X9_waitsWith_0
    rw [a1, bind_eq, b1, c1, Int.zero_add]
  · obtain ⟨g1, y1, y2⟩ := keep_1 (g := G)
    obtain ⟨e, g2, z1, z2, z3⟩ := b5 g1 (FE_copy a2 a3 (FE_142 (fun k hk => y2 142 k (by omega)) x))
    have g0 := z2.1
    have hM2 : F_X12_made g2 = some (h2 (57 + 7) (n - 1), g2) := made_o b3 (by omega) (by omega) z2
    obtain ⟨v, g3, w1, w2, w3⟩ := c4 (h2 (57 + 7) (n - 1)) g2 z2
    obtain ⟨g4, u1⟩ := keep_3 (g := g3)
    refine ⟨g4, ?_, keep_back y1 (fun c k q => by rw [w2 c k q, z3 c k q]) u1⟩
    have ru : F_X12_runs (M : Int) g2 = some (v, g3) := by
      unfold F_X12_runs F_X12_runs_0
      rw [hM2, bind_eq]
      exact w1
    unfold F_X12_waitsFor F_X12_waitsFor_0
    rw [show ((0 : Nat) : Int) = 0 from rfl] at z1
    rw [y1, bind_eq, z1, F_X12_waitsFor_11]
    unfold ck
    rw [if_pos (by omega), if_pos (by omega), if_pos (by omega), ofw (by omega) (by omega), bind_eq]
    dsimp only
    rw [ofw (by omega) (by omega), bind_eq]
    dsimp only
    rw [nx_eq, ru, bind_eq]
    dsimp only
    rw [ofw (by omega) (by omega), bind_eq]
    dsimp only
    rw [ofw (by omega) (by omega), bind_eq]
    dsimp only
    rw [nx_eq, u1, bind_eq]
    unfold wt at w3
    rw [show (8 : Int).toNat = 8 from rfl, show (9 : Int).toNat = 9 from rfl, w3]
    exact congrArg some (Prod.ext (by dsimp only; omega) rfl)
theorem o_waits : Ob_waits RR := by
  intro n h a1 a2 a3 hn r i1 i2 i3
  refine ob_ev ?_
  obtain ⟨F, X⟩ := PR_FR.mp r.2.2.2.1
  have F1 := F.1
  simp only [Nat.zero_add, show 34 + 1 = 35 from rfl] at F1
  by_cases c : 0 ≤ a1 ∧ a1 < h 35 0 ∧ 0 ≤ a2 ∧ a2 ≤ 20 ∧ 1 ≤ a3 ∧ a3 ≤ 600
  · obtain ⟨m, em⟩ : ∃ m : Nat, a1 = (m : Int) := ⟨a1.toNat, by omega⟩
    obtain ⟨M, eM⟩ : ∃ M : Nat, a3 = (M : Int) := ⟨a3.toNat, by omega⟩
    obtain ⟨nm, en⟩ : ∃ nm : Nat, h 35 0 = (nm : Int) := ⟨(h 35 0).toNat, by omega⟩
    obtain ⟨x, h', b1, b2, b3, b4⟩ := waits_l (n := nm) (m := m) (M := M) (W := a2) (by omega) (by omega) (by omega) en (FI_of (f := 35) F (by omega))
    have e0 : ∀ k, hup h' 0 0 0 142 k = h 142 k := fun k => by rw [hup_n _ _ _ _ _ _ (by omega), b3 142 k (by omega)]
    obtain ⟨g', z1, z2⟩ := b4 (hup h' 0 0 0) (FE_of F e0)
    rw [← em, ← eM] at b1 z1
    have e1 : h' 142 0 = h 35 0 := by rw [b3 142 0 (by omega)]; exact F1.2.2
    simp only [F_X11_waits, F_X11_waits_0, F_X11_isMachine, F_X11_isMachine_0, F_X11_waits_32, F_X11_none, F_X11_none_0, F_X11_outside, F_X11_outside_0, F_X11_answer, F_X11_answer_0]
    ((try simp only [hup_s, hup_c, hup_k, ne_eq, Nat.reduceEqDiff, not_false_eq_true]); repeat' (first | (with_reducible refine ev_ck ?_ ?_; first | omega | trivial) | with_reducible refine ev_bind ?_ | (with_reducible refine ev_nx ?_; first | simp only [hup_s, hup_c, hup_k, ne_eq, Nat.reduceEqDiff, not_false_eq_true] | dsimp only | skip) | (with_reducible refine ev_some ?_; first | simp only [hup_s, hup_c, hup_k, ne_eq, Nat.reduceEqDiff, not_false_eq_true] | dsimp only | skip) | (with_reducible refine ev_it ?_ ?_; first | omega | trivial) | (with_reducible refine ev_ie ?_ ?_; first | omega | trivial) | with_reducible refine ev_if (fun _ => ?_) (fun _ => ?_) | rw [b1]))
    simp only [F_X12_waits, F_X12_waits_0, F_X12_isMachine, F_X12_isMachine_0, F_X12_waits_47, F_X12_refuse, F_X12_refuse_0, F_X12_isFrom, F_X12_isFrom_0, F_X12_gives, F_X12_gives_0]
    ((try simp only [hup_s, hup_c, hup_k, ne_eq, Nat.reduceEqDiff, not_false_eq_true]); repeat' (first | (with_reducible refine ev_ck ?_ ?_; first | omega | trivial) | with_reducible refine ev_bind ?_ | (with_reducible refine ev_nx ?_; first | simp only [hup_s, hup_c, hup_k, ne_eq, Nat.reduceEqDiff, not_false_eq_true] | dsimp only | skip) | (with_reducible refine ev_some ?_; first | simp only [hup_s, hup_c, hup_k, ne_eq, Nat.reduceEqDiff, not_false_eq_true] | dsimp only | skip) | (with_reducible refine ev_it ?_ ?_; first | omega | trivial) | (with_reducible refine ev_ie ?_ ?_; first | omega | trivial) | with_reducible refine ev_if (fun _ => ?_) (fun _ => ?_) | rw [z1]))
    exact ⟨by first | trivial | omega, by omega, RR_trial r b3 z2⟩
  · simp only [F_X11_waits, F_X11_waits_0, F_X11_isMachine, F_X11_isMachine_0, F_X11_waits_32, F_X11_none, F_X11_none_0, F_X11_outside, F_X11_outside_0, F_X11_answer, F_X11_answer_0]
    ((try simp only [hup_s, hup_c, hup_k, ne_eq, Nat.reduceEqDiff, not_false_eq_true]); repeat' (first | (with_reducible refine ev_ck ?_ ?_; first | omega | trivial) | with_reducible refine ev_bind ?_ | (with_reducible refine ev_nx ?_; first | simp only [hup_s, hup_c, hup_k, ne_eq, Nat.reduceEqDiff, not_false_eq_true] | dsimp only | skip) | (with_reducible refine ev_some ?_; first | simp only [hup_s, hup_c, hup_k, ne_eq, Nat.reduceEqDiff, not_false_eq_true] | dsimp only | skip) | (with_reducible refine ev_it ?_ ?_; first | omega | trivial) | (with_reducible refine ev_ie ?_ ?_; first | omega | trivial) | with_reducible refine ev_if (fun _ => ?_) (fun _ => ?_)))
    all_goals (try (exfalso; omega))
    all_goals simp only [F_X12_waits, F_X12_waits_0, F_X12_isMachine, F_X12_isMachine_0, F_X12_waits_47, F_X12_refuse, F_X12_refuse_0, F_X12_isFrom, F_X12_isFrom_0, F_X12_gives, F_X12_gives_0]
    all_goals ((try simp only [hup_s, hup_c, hup_k, ne_eq, Nat.reduceEqDiff, not_false_eq_true]); repeat' (first | (with_reducible refine ev_ck ?_ ?_; first | omega | trivial) | with_reducible refine ev_bind ?_ | (with_reducible refine ev_nx ?_; first | simp only [hup_s, hup_c, hup_k, ne_eq, Nat.reduceEqDiff, not_false_eq_true] | dsimp only | skip) | (with_reducible refine ev_some ?_; first | simp only [hup_s, hup_c, hup_k, ne_eq, Nat.reduceEqDiff, not_false_eq_true] | dsimp only | skip) | (with_reducible refine ev_it ?_ ?_; first | omega | trivial) | (with_reducible refine ev_ie ?_ ?_; first | omega | trivial) | with_reducible refine ev_if (fun _ => ?_) (fun _ => ?_)))
    all_goals (first | (exfalso; omega) | (refine ⟨?_, ?_, RR_st (by omega) r⟩ <;> first | trivial | omega))
/-! unwaited -/
theorem unw_l {n m M : Nat} {A C : Int} (hm : m < n) (hM : M ≤ 1000) : ∀ (d fu fu' w : Nat) (h : MH), w + d = 21 → d < fu → d < fu' → h 35 0 = (n : Int) → FI True 35 A C h →
    ∃ (x s : Int) (h' : MH), F_X11_unwaited_28 fu (m : Int) (M : Int) (w : Int) h = some (x, hup h' 0 0 s) ∧ (-1 ≤ x ∧ x ≤ 20) ∧ (0 ≤ s ∧ s ≤ 9) ∧ K57 h h' ∧ ∀ G, FE True 35 h G → ∃ G', F_X12_unwaited_29 fu' (m : Int) (M : Int) (w : Int) G = some (x, hup G' 141 1 s) ∧ K22 G G' := by
  intro d
  induction d with
  | zero =>
    intro fu fu' w h e1 l1 l2 hn r
    obtain ⟨fu, rfl⟩ : ∃ g, fu = g + 1 := ⟨fu - 1, by omega⟩
    obtain ⟨fu', rfl⟩ : ∃ g, fu' = g + 1 := ⟨fu' - 1, by omega⟩
    refine ⟨-1, 6, h, ?_, by omega, by omega, fun _ _ _ => rfl, fun G x => ⟨G, ?_, fun _ _ _ => rfl⟩⟩
    · rw [F_X11_unwaited_28]
      unfold ck F_X11_none F_X11_none_0
      rw [if_pos (by omega), if_pos (by omega), nx_eq, bind_eq]
    · rw [F_X12_unwaited_29]
      unfold ck F_X12_refuse F_X12_refuse_0
      rw [if_pos (by omega), if_pos (by omega), nx_eq, bind_eq]
  | succ d ih =>
    intro fu fu' w h e1 l1 l2 hn r
    obtain ⟨fu, rfl⟩ : ∃ g, fu = g + 1 := ⟨fu - 1, by omega⟩
    obtain ⟨fu', rfl⟩ : ∃ g, fu' = g + 1 := ⟨fu' - 1, by omega⟩
    have ew : (w : Int) + 1 = ((w + 1 : Nat) : Int) := by omega
    obtain ⟨y, h1, a1, a2, a3, a4⟩ := waits_l (n := n) (m := m) (M := M) (W := (w : Int)) hm (by omega) hM hn r
    have hn1 : h1 35 0 = (n : Int) := by rw [a3 _ _ (by omega)]; exact hn
    by_cases c : y = 0
    · refine ⟨(w : Int), 0, h1, ?_, by omega, by omega, a3, fun G x => ?_⟩
      · rw [F_X11_unwaited_28]
        unfold ck F_X11_answer F_X11_answer_0
        rw [if_pos (by omega), if_neg (by omega), a1, bind_eq]
        dsimp only
        rw [if_pos (by omega), if_neg (by omega), nx_eq, bind_eq]
      · obtain ⟨G1, y1, y2⟩ := a4 G x
        refine ⟨G1, ?_, y2⟩
        rw [F_X12_unwaited_29]
        unfold ck F_X12_gives F_X12_gives_0
        rw [if_pos (by omega), if_neg (by omega), y1, bind_eq]
        dsimp only
        rw [if_pos (by omega), if_neg (by omega), nx_eq, bind_eq]
    · obtain ⟨x, s, h', j1, j2, j3, j4, j5⟩ := ih fu fu' (w + 1) h1 (by omega) (by omega) (by omega) hn1 (FI_57 a3 r)
      refine ⟨x, s, h', ?_, j2, j3, a3.tr j4, fun G x => ?_⟩
      · rw [← j1, F_X11_unwaited_28]
        unfold ck
        rw [if_pos (by omega), if_neg (by omega), a1, bind_eq]
        dsimp only
        rw [if_pos (by omega), if_pos (by omega), ew]
      · obtain ⟨G1, y1, y2⟩ := a4 G x
        obtain ⟨G', z1, z2⟩ := j5 G1 (FE_142 (fun k hk => y2 142 k (by omega)) (FE_57 a3 x))
        refine ⟨G', ?_, y2.tr z2⟩
        rw [← z1, F_X12_unwaited_29]
        unfold ck
        rw [if_pos (by omega), if_neg (by omega), y1, bind_eq]
        dsimp only
        rw [if_pos (by omega), if_pos (by omega), ew]
theorem RR_trials {n : Nat} {s : Int} {h h1 g : MH} (hs : 0 ≤ s ∧ s ≤ 9) (r : RR n h) (a : K57 h h1) (b : K22 (hup h1 0 0 s) g) : RR (n + 1) (hup g 141 1 s) := by
  refine RR_mono _ _ (RR_rest (h := h) ?_ ?_ r)
  · intro c k q
    unfold Zall Z2 Z3 Zp Zs Z6 Z7 Z8 Z9 Z10 Z11 Z12 at q
    rw [hup_n _ _ _ _ _ _ (by omega), b _ _ (by omega), hup_n _ _ _ _ _ _ (by omega), a _ _ (by omega)]
  · obtain ⟨⟨-, s2, s3⟩, -⟩ := r
    unfold R1
    rw [hup_s, hup_n g _ _ _ 0 0 (by omega), b 0 0 (by omega), hup_s, hup_n _ _ _ _ _ _ (by omega), hup_n _ _ _ _ _ _ (by omega), hup_n _ _ _ _ _ _ (by omega), hup_n _ _ _ _ _ _ (by omega), b _ _ (by omega), b _ _ (by omega), b _ _ (by omega), b _ _ (by omega), hup_n _ _ _ _ _ _ (by omega), hup_n _ _ _ _ _ _ (by omega), hup_n _ _ _ _ _ _ (by omega), hup_n _ _ _ _ _ _ (by omega), a _ _ (by omega), a _ _ (by omega), a _ _ (by omega), a _ _ (by omega)]
    exact ⟨⟨by omega, by omega, rfl⟩, s2, s3⟩
theorem o_unwaited : Ob_unwaited RR := by
  intro n h a1 a2 hn r i1 i2
  refine ob_ev ?_
  obtain ⟨F, X⟩ := PR_FR.mp r.2.2.2.1
  have F1 := F.1
  simp only [Nat.zero_add, show 34 + 1 = 35 from rfl] at F1
  by_cases c : 0 ≤ a1 ∧ a1 < h 35 0 ∧ 1 ≤ a2 ∧ a2 ≤ 200
  · obtain ⟨m, em⟩ : ∃ m : Nat, a1 = (m : Int) := ⟨a1.toNat, by omega⟩
    obtain ⟨M, eM⟩ : ∃ M : Nat, a2 = (M : Int) := ⟨a2.toNat, by omega⟩
    obtain ⟨nm, en⟩ : ∃ nm : Nat, h 35 0 = (nm : Int) := ⟨(h 35 0).toNat, by omega⟩
    obtain ⟨x, s, h', b1, b2, b3, b4, b5⟩ := unw_l (n := nm) (m := m) (M := M) (by omega) (by omega) 21 20000 20000 0 h (by omega) (by omega) (by omega) en (FI_of (f := 35) F (by omega))
    have e0 : ∀ k, hup h' 0 0 s 142 k = h 142 k := fun k => by rw [hup_n _ _ _ _ _ _ (by omega), b4 142 k (by omega)]
    obtain ⟨g', z1, z2⟩ := b5 (hup h' 0 0 s) (FE_of F e0)
    rw [← em, ← eM, show ((0 : Nat) : Int) = 0 from rfl] at b1 z1
    have e1 : h' 142 0 = h 35 0 := by rw [b4 142 0 (by omega)]; exact F1.2.2
    simp only [F_X11_unwaited, F_X11_unwaited_0, F_X11_isMachine, F_X11_isMachine_0, F_X11_unwaited_20, F_X11_none, F_X11_none_0, F_X11_outside, F_X11_outside_0]
    ((try simp only [hup_s, hup_c, hup_k, ne_eq, Nat.reduceEqDiff, not_false_eq_true]); repeat' (first | (with_reducible refine ev_ck ?_ ?_; first | omega | trivial) | with_reducible refine ev_bind ?_ | (with_reducible refine ev_nx ?_; first | simp only [hup_s, hup_c, hup_k, ne_eq, Nat.reduceEqDiff, not_false_eq_true] | dsimp only | skip) | (with_reducible refine ev_some ?_; first | simp only [hup_s, hup_c, hup_k, ne_eq, Nat.reduceEqDiff, not_false_eq_true] | dsimp only | skip) | (with_reducible refine ev_it ?_ ?_; first | omega | trivial) | (with_reducible refine ev_ie ?_ ?_; first | omega | trivial) | with_reducible refine ev_if (fun _ => ?_) (fun _ => ?_) | rw [b1]))
    simp only [F_X12_unwaited, F_X12_unwaited_0, F_X12_isMachine, F_X12_isMachine_0, F_X12_unwaited_21, F_X12_refuse, F_X12_refuse_0, F_X12_isFrom, F_X12_isFrom_0]
    ((try simp only [hup_s, hup_c, hup_k, ne_eq, Nat.reduceEqDiff, not_false_eq_true]); repeat' (first | (with_reducible refine ev_ck ?_ ?_; first | omega | trivial) | with_reducible refine ev_bind ?_ | (with_reducible refine ev_nx ?_; first | simp only [hup_s, hup_c, hup_k, ne_eq, Nat.reduceEqDiff, not_false_eq_true] | dsimp only | skip) | (with_reducible refine ev_some ?_; first | simp only [hup_s, hup_c, hup_k, ne_eq, Nat.reduceEqDiff, not_false_eq_true] | dsimp only | skip) | (with_reducible refine ev_it ?_ ?_; first | omega | trivial) | (with_reducible refine ev_ie ?_ ?_; first | omega | trivial) | with_reducible refine ev_if (fun _ => ?_) (fun _ => ?_) | rw [z1]))
    exact ⟨by first | trivial | omega, by omega, RR_trials b3 r b4 z2⟩
  · simp only [F_X11_unwaited, F_X11_unwaited_0, F_X11_isMachine, F_X11_isMachine_0, F_X11_unwaited_20, F_X11_none, F_X11_none_0, F_X11_outside, F_X11_outside_0]
    ((try simp only [hup_s, hup_c, hup_k, ne_eq, Nat.reduceEqDiff, not_false_eq_true]); repeat' (first | (with_reducible refine ev_ck ?_ ?_; first | omega | trivial) | with_reducible refine ev_bind ?_ | (with_reducible refine ev_nx ?_; first | simp only [hup_s, hup_c, hup_k, ne_eq, Nat.reduceEqDiff, not_false_eq_true] | dsimp only | skip) | (with_reducible refine ev_some ?_; first | simp only [hup_s, hup_c, hup_k, ne_eq, Nat.reduceEqDiff, not_false_eq_true] | dsimp only | skip) | (with_reducible refine ev_it ?_ ?_; first | omega | trivial) | (with_reducible refine ev_ie ?_ ?_; first | omega | trivial) | with_reducible refine ev_if (fun _ => ?_) (fun _ => ?_)))
    all_goals (try (exfalso; omega))
    all_goals simp only [F_X12_unwaited, F_X12_unwaited_0, F_X12_isMachine, F_X12_isMachine_0, F_X12_unwaited_21, F_X12_refuse, F_X12_refuse_0, F_X12_isFrom, F_X12_isFrom_0]
    all_goals ((try simp only [hup_s, hup_c, hup_k, ne_eq, Nat.reduceEqDiff, not_false_eq_true]); repeat' (first | (with_reducible refine ev_ck ?_ ?_; first | omega | trivial) | with_reducible refine ev_bind ?_ | (with_reducible refine ev_nx ?_; first | simp only [hup_s, hup_c, hup_k, ne_eq, Nat.reduceEqDiff, not_false_eq_true] | dsimp only | skip) | (with_reducible refine ev_some ?_; first | simp only [hup_s, hup_c, hup_k, ne_eq, Nat.reduceEqDiff, not_false_eq_true] | dsimp only | skip) | (with_reducible refine ev_it ?_ ?_; first | omega | trivial) | (with_reducible refine ev_ie ?_ ?_; first | omega | trivial) | with_reducible refine ev_if (fun _ => ?_) (fun _ => ?_)))
    all_goals (first | (exfalso; omega) | (refine ⟨?_, ?_, RR_st (by omega) r⟩ <;> first | trivial | omega))
