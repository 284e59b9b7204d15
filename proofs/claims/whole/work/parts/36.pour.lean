/-! ===== pour ===== -/
theorem hcp_n (h : MH) (c1 p1 c2 p2 n c' k' : Nat) (e : ¬ (c' = c2 ∧ p2 ≤ k' ∧ k' < p2 + n)) : hcp h c1 p1 c2 p2 n c' k' = h c' k' := if_neg e
theorem hcp_y (h : MH) (c1 p1 c2 p2 n c' k' : Nat) (e : c' = c2 ∧ p2 ≤ k' ∧ k' < p2 + n) : hcp h c1 p1 c2 p2 n c' k' = h c1 (p1 + (k' - p2)) := if_pos e
theorem hcp_c (h : MH) (c1 p1 c2 p2 n c' k' : Nat) (e : c' ≠ c2) : hcp h c1 p1 c2 p2 n c' k' = h c' k' := if_neg (fun q => e q.1)
theorem hcp_0 (h : MH) (c1 p1 c2 p2 : Nat) : hcp h c1 p1 c2 p2 0 = h := by
  funext c' k'
  rw [hcp_n _ _ _ _ _ _ _ _ (by omega)]
theorem Ag.cp {P : Nat → Nat → Prop} {h h' : MH} {c1 p1 c2 p2 n : Nat} (a : Ag P h h') (w : ∀ k, p2 ≤ k → k < p2 + n → ¬ P c2 k) : Ag P h (hcp h' c1 p1 c2 p2 n) := fun c' k' q => by
  by_cases e : c' = c2 ∧ p2 ≤ k' ∧ k' < p2 + n
  · rw [e.1] at q; exact absurd q (w k' e.2.1 e.2.2)
  · rw [hcp_n _ _ _ _ _ _ _ _ e]; exact a c' k' q
theorem hcp_up {g : MH} {c A B i : Nat} (hq : ¬ (B ≤ A + i ∧ A + i < B + i)) : hup (hcp g c A c B i) c (B + i) (hcp g c A c B i c (A + i)) = hcp g c A c B (i + 1) := by
  funext c' k'
  rw [hcp_n g c A c B i c (A + i) (by omega)]
  by_cases e : c' = c ∧ k' = B + i
  · rw [e.1, e.2, hup_s, hcp_y _ _ _ _ _ _ _ _ (by omega)]
    congr 1
    omega
  · rw [hup_n _ _ _ _ _ _ e]
    by_cases e2 : c' = c ∧ B ≤ k' ∧ k' < B + i
    · rw [hcp_y _ _ _ _ _ _ _ _ e2, hcp_y _ _ _ _ _ _ _ _ (by omega)]
    · rw [hcp_n _ _ _ _ _ _ _ _ e2, hcp_n _ _ _ _ _ _ _ _ (by omega)]
theorem hcp_dn {g : MH} {c A B i : Nat} (hq : ¬ (B + 1 ≤ A ∧ A < B + 1 + i)) : hup (hcp g c (A + 1) c (B + 1) i) c B (hcp g c (A + 1) c (B + 1) i c A) = hcp g c A c B (i + 1) := by
  funext c' k'
  rw [hcp_n g c (A + 1) c (B + 1) i c A (by omega)]
  by_cases e : c' = c ∧ k' = B
  · rw [e.1, e.2, hup_s, hcp_y _ _ _ _ _ _ _ _ (by omega)]
    congr 1
    omega
  · rw [hup_n _ _ _ _ _ _ e]
    by_cases e2 : c' = c ∧ B + 1 ≤ k' ∧ k' < B + 1 + i
    · rw [hcp_y _ _ _ _ _ _ _ _ e2, hcp_y _ _ _ _ _ _ _ _ (by omega)]
      congr 1
      omega
    · rw [hcp_n _ _ _ _ _ _ _ _ e2, hcp_n _ _ _ _ _ _ _ _ (by omega)]
theorem pour_up {t u a b N : Nat} {g : MH} (ht : t < 4) (hu : u < 4) (ha : a + N ≤ 60) (hb : b + N ≤ 60) (hab : b ≤ a) : ∀ (d f i : Nat), i + d = N → d < f →
    F_X12_pour_118 f (t : Int) (a : Int) (u : Int) (b : Int) (N : Int) (i : Int) (hcp g 145 (60 * t + a) 145 (60 * u + b) i) = some (1, hup (hcp g 145 (60 * t + a) 145 (60 * u + b) N) 141 1 0) := by
  intro d
  induction d with
  | zero =>
    intro f j e hf
    obtain ⟨f, rfl⟩ : ∃ g, f = g + 1 := ⟨f - 1, by omega⟩
    have : j = N := by omega
    subst this
    unfold F_X12_pour_118 ck
    rw [if_pos (by omega), if_pos (by omega), if_pos (by omega), is_eq (by omega)]
    rfl
  | succ d ih =>
    intro f j e hf
    obtain ⟨f, rfl⟩ : ∃ g, f = g + 1 := ⟨f - 1, by omega⟩
    have hx : (60 * (t : Int) + (a : Int) + (j : Int)).toNat = 60 * t + a + j := by omega
    have hy : (60 * (u : Int) + (b : Int) + (j : Int)).toNat = 60 * u + b + j := by omega
    unfold F_X12_pour_118 F_X12_pour_143 ck
    rw [if_pos (by omega), if_pos (by omega), if_neg (by omega), if_pos (by omega), if_pos (by omega), if_pos (by omega), if_pos (by omega), if_pos (by omega), nx_eq, hx, hy, hcp_up (by omega)]
    exact ih f (j + 1) (by omega) (by omega)
theorem pour_dn {t u a b N : Nat} {g : MH} (ht : t < 4) (hu : u < 4) (ha : a + N ≤ 60) (hb : b + N ≤ 60) (hab : a < b) : ∀ (d f i : Nat), i + d = N → d < f →
    F_X12_pour_118 f (t : Int) (a : Int) (u : Int) (b : Int) (N : Int) (i : Int) (hcp g 145 (60 * t + a + d) 145 (60 * u + b + d) i) = some (1, hup (hcp g 145 (60 * t + a) 145 (60 * u + b) N) 141 1 0) := by
  intro d
  induction d with
  | zero =>
    intro f j e hf
    obtain ⟨f, rfl⟩ : ∃ g, f = g + 1 := ⟨f - 1, by omega⟩
    have : j = N := by omega
    subst this
    unfold F_X12_pour_118 ck
    rw [if_pos (by omega), if_pos (by omega), if_pos (by omega), is_eq (by omega)]
    rfl
  | succ d ih =>
    intro f j e hf
    obtain ⟨f, rfl⟩ : ∃ g, f = g + 1 := ⟨f - 1, by omega⟩
    have hx : (60 * (t : Int) + (a : Int) + ((N : Int) - 1 - (j : Int))).toNat = 60 * t + a + d := by omega
    have hy : (60 * (u : Int) + (b : Int) + ((N : Int) - 1 - (j : Int))).toNat = 60 * u + b + d := by omega
    unfold F_X12_pour_118 F_X12_pour_143 ck
    rw [if_pos (by omega), if_pos (by omega), if_neg (by omega), if_pos (by omega), if_pos (by omega), if_neg (by omega), if_pos (by omega), if_pos (by omega), nx_eq, hx, hy, ← Nat.add_assoc, ← Nat.add_assoc, hcp_dn (by omega)]
    exact ih f (j + 1) (by omega) (by omega)
theorem pour_all {t u a b N : Nat} {g : MH} (ht : t < 4) (hu : u < 4) (ha : a + N ≤ 60) (hb : b + N ≤ 60) :
    F_X12_pour_118 20000 (t : Int) (a : Int) (u : Int) (b : Int) (N : Int) 0 g = some (1, hup (hcp g 145 (60 * t + a) 145 (60 * u + b) N) 141 1 0) := by
  by_cases hab : b ≤ a
  · have q := pour_up (g := g) ht hu ha hb hab N 20000 0 (by omega) (by omega)
    rw [hcp_0, show ((0 : Nat) : Int) = 0 from rfl] at q
    exact q
  · have q := pour_dn (g := g) ht hu ha hb (by omega) N 20000 0 (by omega) (by omega)
    rw [hcp_0, show ((0 : Nat) : Int) = 0 from rfl] at q
    exact q
theorem RR_pour {n : Nat} {h : MH} {t u a b N : Nat} (r : RR n h) (ht : t < 4) (hu : u < 4) (ha : (a + N : Int) ≤ h 7 t) (hb : (b + N : Int) ≤ h 7 u) :
    RR (n + 1) (hup (hcp (hup (hcp h (2 + t) a (2 + u) b N) 0 0 0) 145 (60 * t + a) 145 (60 * u + b) N) 141 1 0) := by
  have r2 := r.2.1
  obtain ⟨t1, t2, t3⟩ := r2 t ht
  obtain ⟨u1, u2, u3⟩ := r2 u hu
  refine RR_mono _ _ (RR_2 (h := h) ?_ ?_ ?_ r)
  · refine Ag.up (Ag.cp (Ag.up (Ag.cp Ag.rf ?_) ?_) ?_) ?_
    all_goals first | (intro k hk hk'; unfold Zall Z2 Z3 Zp Zs Z6 Z7 Z8 Z9 Z10 Z11 Z12; omega) | (unfold Zall Z2 Z3 Zp Zs Z6 Z7 Z8 Z9 Z10 Z11 Z12; omega)
  · obtain ⟨⟨-, r2, r3⟩, -⟩ := r
    unfold R1
    simp (disch := omega) only [hup_s, hup_n, hcp_n]
    exact ⟨⟨by omega, by omega, trivial⟩, r2, r3⟩
  · refine R2_one (t := u) r2 ?_ ?_
    · intro t' ht' hne
      simp (disch := omega) only [hup_n, hcp_n]
      refine ⟨⟨trivial, trivial, trivial, trivial⟩, fun k' hk' => ?_⟩
      simp (disch := omega) only [hup_n, hcp_n]
      exact ⟨trivial, trivial⟩
    · simp (disch := omega) only [hup_n, hcp_n]
      refine ⟨u1, u2, fun k' hk' => ?_⟩
      by_cases e : b ≤ k' ∧ k' < b + N
      · simp (disch := omega) only [hup_n, hcp_n, hcp_y]
        rw [show 60 * t + a + (60 * u + k' - (60 * u + b)) = 60 * t + (a + (k' - b)) by omega]
        exact t3 (a + (k' - b)) (by omega)
      · simp (disch := omega) only [hup_n, hcp_n]
        exact u3 k' hk'
theorem o_pour : Ob_pour RR := by
  intro n h a1 a2 a3 a4 a5 hn r i1 i2 i3 i4 i5
  refine ob_ev ?_
  have r2 := r.2.1
  by_cases c1 : 0 ≤ a1 ∧ a1 < 4
  rotate_left
  · simp only [F_X11_pour, F_X11_pour_0, F_X11_isTray, F_X11_isTray_0, F_X11_pour_28, F_X11_refused, F_X11_refused_0, F_X11_pour_54, F_X11_pour_109, F_X11_granted, F_X11_granted_0]
    ((try simp only [hup_s, hup_c, hup_k, ne_eq, Nat.reduceEqDiff, not_false_eq_true]); repeat' (first | (with_reducible refine ev_ck ?_ ?_; first | omega | trivial) | with_reducible refine ev_bind ?_ | (with_reducible refine ev_nx ?_; first | simp only [hup_s, hup_c, hup_k, ne_eq, Nat.reduceEqDiff, not_false_eq_true] | dsimp only | skip) | (with_reducible refine ev_some ?_; first | simp only [hup_s, hup_c, hup_k, ne_eq, Nat.reduceEqDiff, not_false_eq_true] | dsimp only | skip) | (with_reducible refine ev_it ?_ ?_; first | omega | trivial) | (with_reducible refine ev_ie ?_ ?_; first | omega | trivial) | with_reducible refine ev_if (fun _ => ?_) (fun _ => ?_)))
    all_goals simp only [F_X12_pour, F_X12_pour_0, F_X12_isTray, F_X12_isTray_0, F_X12_pour_28, F_X12_is, F_X12_is_0, F_X12_pour_54, F_X12_pour_109]
    all_goals (((try simp only [hup_s, hup_c, hup_k, ne_eq, Nat.reduceEqDiff, not_false_eq_true]); repeat' (first | (with_reducible refine ev_ck ?_ ?_; first | omega | trivial) | with_reducible refine ev_bind ?_ | (with_reducible refine ev_nx ?_; first | simp only [hup_s, hup_c, hup_k, ne_eq, Nat.reduceEqDiff, not_false_eq_true] | dsimp only | skip) | (with_reducible refine ev_some ?_; first | simp only [hup_s, hup_c, hup_k, ne_eq, Nat.reduceEqDiff, not_false_eq_true] | dsimp only | skip) | (with_reducible refine ev_it ?_ ?_; first | omega | trivial) | (with_reducible refine ev_ie ?_ ?_; first | omega | trivial) | with_reducible refine ev_if (fun _ => ?_) (fun _ => ?_))))
    all_goals (first | (exfalso; omega) | (refine ⟨?_, ?_, RR_st (by omega) r⟩ <;> first | trivial | omega))
  by_cases c2 : 0 ≤ a3 ∧ a3 < 4
  rotate_left
  · simp only [F_X11_pour, F_X11_pour_0, F_X11_isTray, F_X11_isTray_0, F_X11_pour_28, F_X11_refused, F_X11_refused_0, F_X11_pour_54, F_X11_pour_109, F_X11_granted, F_X11_granted_0]
    ((try simp only [hup_s, hup_c, hup_k, ne_eq, Nat.reduceEqDiff, not_false_eq_true]); repeat' (first | (with_reducible refine ev_ck ?_ ?_; first | omega | trivial) | with_reducible refine ev_bind ?_ | (with_reducible refine ev_nx ?_; first | simp only [hup_s, hup_c, hup_k, ne_eq, Nat.reduceEqDiff, not_false_eq_true] | dsimp only | skip) | (with_reducible refine ev_some ?_; first | simp only [hup_s, hup_c, hup_k, ne_eq, Nat.reduceEqDiff, not_false_eq_true] | dsimp only | skip) | (with_reducible refine ev_it ?_ ?_; first | omega | trivial) | (with_reducible refine ev_ie ?_ ?_; first | omega | trivial) | with_reducible refine ev_if (fun _ => ?_) (fun _ => ?_)))
    all_goals simp only [F_X12_pour, F_X12_pour_0, F_X12_isTray, F_X12_isTray_0, F_X12_pour_28, F_X12_is, F_X12_is_0, F_X12_pour_54, F_X12_pour_109]
    all_goals (((try simp only [hup_s, hup_c, hup_k, ne_eq, Nat.reduceEqDiff, not_false_eq_true]); repeat' (first | (with_reducible refine ev_ck ?_ ?_; first | omega | trivial) | with_reducible refine ev_bind ?_ | (with_reducible refine ev_nx ?_; first | simp only [hup_s, hup_c, hup_k, ne_eq, Nat.reduceEqDiff, not_false_eq_true] | dsimp only | skip) | (with_reducible refine ev_some ?_; first | simp only [hup_s, hup_c, hup_k, ne_eq, Nat.reduceEqDiff, not_false_eq_true] | dsimp only | skip) | (with_reducible refine ev_it ?_ ?_; first | omega | trivial) | (with_reducible refine ev_ie ?_ ?_; first | omega | trivial) | with_reducible refine ev_if (fun _ => ?_) (fun _ => ?_))))
    all_goals (first | (exfalso; omega) | (refine ⟨?_, ?_, RR_st (by omega) r⟩ <;> first | trivial | omega))
  obtain ⟨t, e⟩ : ∃ t : Nat, a1 = t := ⟨a1.toNat, by omega⟩
  obtain ⟨u, e'⟩ : ∃ t : Nat, a3 = t := ⟨a3.toNat, by omega⟩
  subst e e'
  obtain ⟨t1, t2, -⟩ := r2 t (by omega)
  obtain ⟨u1, u2, -⟩ := r2 u (by omega)
  by_cases c3 : 0 ≤ a2 ∧ 0 ≤ a4 ∧ 0 ≤ a5 ∧ a2 ≤ h 7 t - a5 ∧ a4 ≤ h 7 u - a5 ∧ h 6 t = h 6 u
  · obtain ⟨a, e⟩ : ∃ t : Nat, a2 = t := ⟨a2.toNat, by omega⟩
    obtain ⟨b, e'⟩ : ∃ t : Nat, a4 = t := ⟨a4.toNat, by omega⟩
    obtain ⟨N, e''⟩ : ∃ t : Nat, a5 = t := ⟨a5.toNat, by omega⟩
    subst e e' e''
    by_cases c4 : h 7 t = -1
    · exfalso; omega
    simp only [F_X11_pour, F_X11_pour_0, F_X11_isTray, F_X11_isTray_0, F_X11_pour_28, F_X11_refused, F_X11_refused_0, F_X11_pour_54, F_X11_pour_109, F_X11_granted, F_X11_granted_0]
    simp only [Int.toNat_natCast]
    ((try simp only [hup_s, hup_c, hup_k, ne_eq, Nat.reduceEqDiff, not_false_eq_true]); repeat' (first | (with_reducible refine ev_ck ?_ ?_; first | omega | trivial) | with_reducible refine ev_bind ?_ | (with_reducible refine ev_nx ?_; first | simp only [hup_s, hup_c, hup_k, ne_eq, Nat.reduceEqDiff, not_false_eq_true] | dsimp only | skip) | (with_reducible refine ev_some ?_; first | simp only [hup_s, hup_c, hup_k, ne_eq, Nat.reduceEqDiff, not_false_eq_true] | dsimp only | skip) | (with_reducible refine ev_it ?_ ?_; first | omega | trivial) | (with_reducible refine ev_ie ?_ ?_; first | omega | trivial) | with_reducible refine ev_if (fun _ => ?_) (fun _ => ?_)))
    have q := pour_all (t := t) (u := u) (a := a) (b := b) (N := N) (g := hup (hcp h (2 + t) a (2 + u) b N) 0 0 0) (by omega) (by omega) (by omega) (by omega)
    simp only [F_X12_pour, F_X12_pour_0, F_X12_isTray, F_X12_isTray_0, F_X12_pour_28, F_X12_is, F_X12_is_0, F_X12_pour_54, F_X12_pour_109]
    simp only [Int.toNat_natCast]
    have z1 : ¬ 143 = 2 + u := by omega
    have z2 : ¬ 144 = 2 + u := by omega
    ((try simp only [hup_s, hup_c, hup_k, ne_eq, Nat.reduceEqDiff, not_false_eq_true, hcp_c, z1, z2]); repeat' (first | (with_reducible refine ev_ck ?_ ?_; first | omega | trivial) | with_reducible refine ev_bind ?_ | (with_reducible refine ev_nx ?_; first | simp only [hup_s, hup_c, hup_k, ne_eq, Nat.reduceEqDiff, not_false_eq_true, hcp_c, z1, z2] | dsimp only | skip) | (with_reducible refine ev_some ?_; first | simp only [hup_s, hup_c, hup_k, ne_eq, Nat.reduceEqDiff, not_false_eq_true, hcp_c, z1, z2] | dsimp only | skip) | (with_reducible refine ev_it ?_ ?_; first | omega | trivial) | (with_reducible refine ev_ie ?_ ?_; first | omega | trivial) | with_reducible refine ev_if (fun _ => ?_) (fun _ => ?_) | rw [q]))
    exact ⟨trivial, by omega, RR_pour r (by omega) (by omega) (by omega) (by omega)⟩
  · simp only [F_X11_pour, F_X11_pour_0, F_X11_isTray, F_X11_isTray_0, F_X11_pour_28, F_X11_refused, F_X11_refused_0, F_X11_pour_54, F_X11_pour_109, F_X11_granted, F_X11_granted_0]
    simp only [Int.toNat_natCast]
    ((try simp only [hup_s, hup_c, hup_k, ne_eq, Nat.reduceEqDiff, not_false_eq_true]); repeat' (first | (with_reducible refine ev_ck ?_ ?_; first | omega | trivial) | with_reducible refine ev_bind ?_ | (with_reducible refine ev_nx ?_; first | simp only [hup_s, hup_c, hup_k, ne_eq, Nat.reduceEqDiff, not_false_eq_true] | dsimp only | skip) | (with_reducible refine ev_some ?_; first | simp only [hup_s, hup_c, hup_k, ne_eq, Nat.reduceEqDiff, not_false_eq_true] | dsimp only | skip) | (with_reducible refine ev_it ?_ ?_; first | omega | trivial) | (with_reducible refine ev_ie ?_ ?_; first | omega | trivial) | with_reducible refine ev_if (fun _ => ?_) (fun _ => ?_)))
    all_goals try (exfalso; omega)
    all_goals simp only [F_X12_pour, F_X12_pour_0, F_X12_isTray, F_X12_isTray_0, F_X12_pour_28, F_X12_is, F_X12_is_0, F_X12_pour_54, F_X12_pour_109]
    all_goals simp only [Int.toNat_natCast]
    all_goals (((try simp only [hup_s, hup_c, hup_k, ne_eq, Nat.reduceEqDiff, not_false_eq_true]); repeat' (first | (with_reducible refine ev_ck ?_ ?_; first | omega | trivial) | with_reducible refine ev_bind ?_ | (with_reducible refine ev_nx ?_; first | simp only [hup_s, hup_c, hup_k, ne_eq, Nat.reduceEqDiff, not_false_eq_true] | dsimp only | skip) | (with_reducible refine ev_some ?_; first | simp only [hup_s, hup_c, hup_k, ne_eq, Nat.reduceEqDiff, not_false_eq_true] | dsimp only | skip) | (with_reducible refine ev_it ?_ ?_; first | omega | trivial) | (with_reducible refine ev_ie ?_ ?_; first | omega | trivial) | with_reducible refine ev_if (fun _ => ?_) (fun _ => ?_))))
    all_goals (first | (exfalso; omega) | (refine ⟨?_, ?_, RR_st (by omega) r⟩ <;> first | trivial | omega))
