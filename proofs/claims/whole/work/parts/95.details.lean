/-! ===== the details of a step, on both sides ===== -/
def wk : List Nat := [9, 10, 11, 12, 13, 14]
def ws : List Nat := [15, 16, 17, 18]
theorem ix_app (w : List Int) : ∀ (l m : List Nat) (j : Int), 0 ≤ j → ix (l ++ m) j w = if ix l j w = -1 then ix m (j + l.length) w else ix l j w
  | [], m, j, _ => by
    show ix m j w = if (-1 : Int) = -1 then ix m (j + ((0 : Nat) : Int)) w else -1
    rw [if_pos rfl, show j + ((0 : Nat) : Int) = j by omega]
  | s :: l, m, j, hj => by
    rw [List.cons_append, ix, ix]
    by_cases e : w = zsB.getD s []
    · rw [if_pos e, if_pos e, if_neg (by omega)]
    · rw [if_neg e, if_neg e, ix_app w l m (j + 1) (by omega), List.length_cons, show j + 1 + (l.length : Int) = j + ((l.length + 1 : Nat) : Int) by omega]
theorem ix_sh (w : List Int) (d : Int) : ∀ (l : List Nat) (j : Int), 0 ≤ j → ix l (j + d) w = if ix l j w = -1 then -1 else ix l j w + d
  | [], _, _ => rfl
  | s :: l, j, hj => by
    rw [ix, ix]
    by_cases e : w = zsB.getD s []
    · rw [if_pos e, if_pos e, if_neg (by omega)]
    · rw [if_neg e, if_neg e, show j + d + 1 = j + 1 + d by omega, ix_sh w d l (j + 1) (by omega)]
theorem w20_e (w : List Int) : ix w20 0 w = if ix wk 0 w = -1 then (if w = zsB.getD 8 [] then 6 else if ix ws 0 w = -1 then -1 else ix ws 0 w + 7) else ix wk 0 w := by
  have e := ix_app w wk [8, 15, 16, 17, 18] 0 (by omega)
  have e2 : ix [8, 15, 16, 17, 18] 6 w = if w = zsB.getD 8 [] then 6 else ix ws (0 + 7) w := rfl
  rw [show wk ++ [8, 15, 16, 17, 18] = w20 from rfl, show (0 : Int) + (wk.length : Int) = 6 from rfl, e2, ix_sh w 7 ws 0 (by omega)] at e
  exact e
theorem end_k : ix wk 0 (zsB.getD 8 []) = -1 := by decide
theorem kind_l {L : Nat} {h g : MH} (s : S0 L h g) : F_X7_kindHere h = some (ix wk 0 (tWd h), h) := by
  unfold F_X7_kindHere F_X7_kindHere_0 ck wk
  by_cases e0 : tWd h = zsB.getD 9 []
  · rw [is_t s (by omega) e0, bind_eq, ix, if_pos e0]
    dsimp only
    rw [if_pos (by omega), if_neg (by omega)]
  rw [is_f s (by omega) e0, bind_eq, ix, if_neg e0]
  dsimp only
  rw [if_pos (by omega), if_pos rfl]
  by_cases e1 : tWd h = zsB.getD 10 []
  · rw [is_t s (by omega) e1, bind_eq, ix, if_pos e1]
    dsimp only
    rw [if_pos (by omega), if_neg (by omega)]
    rfl
  rw [is_f s (by omega) e1, bind_eq, ix, if_neg e1]
  dsimp only
  rw [if_pos (by omega), if_pos rfl]
  by_cases e2 : tWd h = zsB.getD 11 []
  · rw [is_t s (by omega) e2, bind_eq, ix, if_pos e2]
    dsimp only
    rw [if_pos (by omega), if_neg (by omega)]
    rfl
  rw [is_f s (by omega) e2, bind_eq, ix, if_neg e2]
  dsimp only
  rw [if_pos (by omega), if_pos rfl]
  by_cases e3 : tWd h = zsB.getD 12 []
  · rw [is_t s (by omega) e3, bind_eq, ix, if_pos e3]
    dsimp only
    rw [if_pos (by omega), if_neg (by omega)]
    rfl
  rw [is_f s (by omega) e3, bind_eq, ix, if_neg e3]
  dsimp only
  rw [if_pos (by omega), if_pos rfl]
  by_cases e4 : tWd h = zsB.getD 13 []
  · rw [is_t s (by omega) e4, bind_eq, ix, if_pos e4]
    dsimp only
    rw [if_pos (by omega), if_neg (by omega)]
    rfl
  rw [is_f s (by omega) e4, bind_eq, ix, if_neg e4]
  dsimp only
  rw [if_pos (by omega), if_pos rfl]
  by_cases e5 : tWd h = zsB.getD 14 []
  · rw [is_t s (by omega) e5, bind_eq, ix, if_pos e5]
    dsimp only
    rw [if_pos (by omega), if_neg (by omega)]
    rfl
  rw [is_f s (by omega) e5, bind_eq, ix, if_neg e5]
  dsimp only
  rw [if_pos (by omega), if_pos rfl]
  rfl
theorem state_l {L : Nat} {h g : MH} (s : S0 L h g) : F_X7_stateHere h = some (ix ws 0 (tWd h), h) := by
  unfold F_X7_stateHere F_X7_stateHere_0 ck ws
  by_cases e0 : tWd h = zsB.getD 15 []
  · rw [is_t s (by omega) e0, bind_eq, ix, if_pos e0]
    dsimp only
    rw [if_pos (by omega), if_neg (by omega)]
  rw [is_f s (by omega) e0, bind_eq, ix, if_neg e0]
  dsimp only
  rw [if_pos (by omega), if_pos rfl]
  by_cases e1 : tWd h = zsB.getD 16 []
  · rw [is_t s (by omega) e1, bind_eq, ix, if_pos e1]
    dsimp only
    rw [if_pos (by omega), if_neg (by omega)]
    rfl
  rw [is_f s (by omega) e1, bind_eq, ix, if_neg e1]
  dsimp only
  rw [if_pos (by omega), if_pos rfl]
  by_cases e2 : tWd h = zsB.getD 17 []
  · rw [is_t s (by omega) e2, bind_eq, ix, if_pos e2]
    dsimp only
    rw [if_pos (by omega), if_neg (by omega)]
    rfl
  rw [is_f s (by omega) e2, bind_eq, ix, if_neg e2]
  dsimp only
  rw [if_pos (by omega), if_pos rfl]
  by_cases e3 : tWd h = zsB.getD 18 []
  · rw [is_t s (by omega) e3, bind_eq, ix, if_pos e3]
    dsimp only
    rw [if_pos (by omega), if_neg (by omega)]
    rfl
  rw [is_f s (by omega) e3, bind_eq, ix, if_neg e3]
  dsimp only
  rw [if_pos (by omega), if_pos rfl]
  rfl
theorem wkb (w : List Int) : -1 ≤ ix wk 0 w ∧ ix wk 0 w ≤ 5 := by
  have := ix_b w wk 0 (by omega)
  have l : wk.length = 6 := rfl
  rw [l] at this
  omega
theorem wsb (w : List Int) : -1 ≤ ix ws 0 w ∧ ix ws 0 w ≤ 3 := by
  have := ix_b w ws 0 (by omega)
  have l : ws.length = 4 := rfl
  rw [l] at this
  omega
/-- a name of the shift -/
theorem nm_l {L n x : Nat} {h g : MH} (s : S0 L h g) (hn : n < 30) (hx : x + 1 < 2640) : ∃ b h' g', F_X7_takeName (n : Int) h = some (b, h') ∧
    ((b = 1 ∧ S0 L h' g' ∧ h 8 3 ≤ h' 8 5 ∧ (∀ x1 x2, F_X12_step_190 x1 x2 (x : Int) g = F_X12_step_221 x1 x2 (x : Int) g') ∧ nmR (h' 30 n) (g' 142 (x + 1))) ∨ (b = 0 ∧ FT h' g' ∧ ∀ x1 x2, F_X12_step_190 x1 x2 (x : Int) g = some (0, g'))) ∧
    (∀ c k, ¬ (c = 8 ∧ 3 ≤ k ∧ k ≤ 10) → ¬ (c = 30 ∧ k = n) → h' c k = h c k) ∧ ∀ c k, ¬ (c = 141 ∧ 11 ≤ k ∧ k ≤ 17) → ¬ (c = 142 ∧ k = x + 1) → g' c k = g c k := by
  obtain ⟨b, n1, n2⟩ := nameg (l := w20) s (by decide) (iw20 s)
  have kb := wkb (tWd h)
  have sb := wsb (tWd h)
  rcases n2 with ⟨n2, n3⟩ | ⟨n2, n3⟩
  · obtain ⟨v, v1, v2⟩ := nh_g s n3
    obtain ⟨m1, m2, m3⟩ := n3
    rw [w20_e] at m3
    have k0 : ix wk 0 (tWd h) = -1 := by
      by_cases e : ix wk 0 (tWd h) = -1
      · exact e
      · rw [if_neg e] at m3; exact m3
    rw [if_pos k0] at m3
    have k8 : ¬ tWd h = zsB.getD 8 [] := fun e => by rw [if_pos e] at m3; exact absurd m3 (by decide)
    rw [if_neg k8] at m3
    have ks : ix ws 0 (tWd h) = -1 := by
      by_cases e : ix ws 0 (tWd h) = -1
      · exact e
      · rw [if_neg e] at m3; omega
    obtain ⟨h', g', a1, a2, a3, a4, a5, a6, a7⟩ := adv (h := hup h 30 n (h 8 6)) (g := hup g 142 (x + 1) v) (s.f (fun c k z => hup_n _ _ _ _ _ _ (by omega)) (fun c k z => hup_n _ _ _ _ _ _ (by omega)))
    rw [hup_n _ _ _ _ _ _ (by omega)] at a4
    refine ⟨1, h', g', ?_, Or.inl ⟨rfl, a3, a4, fun x1 x2 => ?_, ?_⟩, fun c k z z2 => by rw [a6 c k z, hup_n _ _ _ _ _ _ z2], fun c k z z2 => by rw [a7 c k z, hup_n _ _ _ _ _ _ z2]⟩
    · unfold F_X7_takeName F_X7_takeName_0 ck
      rw [tshort_l s, if_pos ⟨m1, m2⟩, bind_eq]
      dsimp only
      rw [if_pos (by omega), if_neg (by omega), kind_l s, bind_eq]
      dsimp only
      rw [k0, if_pos (by omega), if_neg (by omega), is_f s (by omega) k8, bind_eq]
      dsimp only
      rw [if_pos (by omega), if_neg (by omega), state_l s, bind_eq]
      dsimp only
      rw [ks, if_pos (by omega), if_pos rfl, if_pos (by omega), nx_eq, show ((n : Int)).toNat = n by omega, a1, bind_eq]
    · unfold F_X12_step_190 ck
      rw [n1, n2, bind_eq]
      dsimp only
      rw [if_pos (by omega), if_pos (by omega), v1, bind_eq]
      dsimp only
      rw [if_pos (by omega), nx_eq, show ((x : Int) + 1).toNat = x + 1 by omega, a2, bind_eq]
    · rw [a6 _ _ (by omega), hup_s, a7 _ _ (by omega), hup_s]; exact v2
  · obtain ⟨h', g', a1, a2, a3, a6, a7⟩ := fl_m s
    have c38 : F_X7_takeName_38 h = some (0, h') := by
      unfold F_X7_takeName_38 ck
      rw [a1, bind_eq]
      dsimp only
      rw [if_pos (by omega)]
    refine ⟨0, h', g', ?_, Or.inr ⟨rfl, a3, fun x1 x2 => ?_⟩, fun c k z z2 => a6 c k z, fun c k z z2 => a7 c k z⟩
    · unfold F_X7_takeName F_X7_takeName_0 ck
      rw [tshort_l s]
      by_cases m : h 8 4 = 1 ∧ h 8 3 - h 8 5 ≤ 8
      · rw [if_pos m, bind_eq]
        dsimp only
        rw [if_pos (by omega), if_neg (by omega), kind_l s, bind_eq]
        dsimp only
        rw [if_pos (by omega)]
        by_cases k0 : ix wk 0 (tWd h) = -1
        · rw [if_neg (fun z => z k0)]
          by_cases k8 : tWd h = zsB.getD 8 []
          · rw [is_t s (by omega) k8, bind_eq]
            dsimp only
            rw [if_pos (by omega), if_pos (by omega), c38]
          · rw [is_f s (by omega) k8, bind_eq]
            dsimp only
            rw [if_pos (by omega), if_neg (by omega), state_l s, bind_eq]
            dsimp only
            have ks : ¬ ix ws 0 (tWd h) = -1 := fun e => n3 ⟨m.1, m.2, by rw [w20_e, if_pos k0, if_neg k8, if_pos e]⟩
            rw [if_pos (by omega), if_neg ks, c38]
        · rw [if_pos k0, c38]
      · rw [if_neg m, bind_eq]
        dsimp only
        rw [if_pos (by omega), if_pos rfl, c38]
    · unfold F_X12_step_190 ck
      rw [n1, n2, bind_eq]
      dsimp only
      rw [if_pos (by omega), if_neg (by omega), a2, bind_eq]
      dsimp only
      rw [if_pos (by omega)]
/-- a number of the shift -/
theorem am_l {L n x : Nat} {h g : MH} {lo hi : Int} (s : S0 L h g) (hn : n < 30) (hx : x + 2 < 2640) (hl : 0 ≤ lo ∧ lo ≤ 9999) (hh : 0 ≤ hi ∧ hi ≤ 9999) : ∃ b h' g', F_X7_takeAmount (n : Int) lo hi h = some (b, h') ∧ F_X12_number ((x : Int) + 2) lo hi g = some (b, g') ∧
    ((b = 1 ∧ S0 L h' g' ∧ h 8 3 ≤ h' 8 5 ∧ (lo ≤ h' 31 n ∧ h' 31 n ≤ hi) ∧ g' 142 (x + 2) = h' 31 n) ∨ (b = 0 ∧ FT h' g')) ∧
    (∀ c k, ¬ (c = 8 ∧ 3 ≤ k ∧ k ≤ 10) → ¬ (c = 31 ∧ k = n) → h' c k = h c k) ∧ ∀ c k, ¬ (c = 141 ∧ 11 ≤ k ∧ k ≤ 17) → ¬ (c = 142 ∧ k = x + 2) → g' c k = g c k := by
  obtain ⟨b, h', g', a1, a2, a3, a4, a5⟩ := num_l (x := x + 2) s (by omega) hl hh
  rw [show ((x + 2 : Nat) : Int) = (x : Int) + 2 by omega] at a2
  rcases a3 with ⟨b1, b2, b3, b4, b5⟩ | ⟨b1, b2⟩
  · refine ⟨1, hup h' 31 n (h' 8 8), g', ?_, by rw [a2, b1], Or.inl ⟨rfl, b2.f (fun c k z => hup_n _ _ _ _ _ _ (by omega)) (fun _ _ _ => rfl), by rw [hup_n _ _ _ _ _ _ (by omega)]; exact b3, by rw [hup_s]; exact b4, by rw [hup_s]; exact b5⟩, fun c k z z2 => by rw [hup_n _ _ _ _ _ _ z2, a4 c k z], a5⟩
    unfold F_X7_takeAmount F_X7_takeAmount_0 ck
    rw [a1, b1, bind_eq]
    dsimp only
    rw [if_pos (by omega), if_pos (by omega), if_pos (by omega), nx_eq, show ((n : Int)).toNat = n by omega]
  · refine ⟨0, h', g', ?_, by rw [a2, b1], Or.inr ⟨rfl, b2⟩, fun c k z z2 => a4 c k z, a5⟩
    unfold F_X7_takeAmount F_X7_takeAmount_0 ck
    rw [a1, b1, bind_eq]
    dsimp only
    rw [if_pos (by omega), if_neg (by omega)]
/-- a state of the shift -/
theorem tstate_l {L n x : Nat} {h g : MH} (s : S0 L h g) (hn : n < 30) (hx : x + 2 < 2640) : ∃ b h' g', F_X7_takeState (n : Int) h = some (b, h') ∧
    ((b = 1 ∧ S0 L h' g' ∧ h 8 3 ≤ h' 8 5 ∧ (∀ x2 x4, F_X12_step_291 5 x2 (x : Int) x4 g = F_X12_step_333 5 x2 (x : Int) x4 g') ∧ (0 ≤ h' 31 n ∧ h' 31 n ≤ 3) ∧ g' 142 (x + 2) = h' 31 n) ∨ (b = 0 ∧ FT h' g' ∧ ∀ x2 x4, F_X12_step_291 5 x2 (x : Int) x4 g = some (0, g'))) ∧
    (∀ c k, ¬ (c = 8 ∧ 3 ≤ k ∧ k ≤ 10) → ¬ (c = 31 ∧ k = n) → h' c k = h c k) ∧ ∀ c k, ¬ (c = 141 ∧ 11 ≤ k ∧ k ≤ 17) → ¬ (c = 142 ∧ k = x + 2) → g' c k = g c k := by
  have kb := wkb (tWd h)
  have sb := wsb (tWd h)
  have wi := iw20 s
  by_cases ks : ix ws 0 (tWd h) = -1
  · obtain ⟨h', g', a1, a2, a3, a6, a7⟩ := fl_m s
    refine ⟨0, h', g', ?_, Or.inr ⟨rfl, a3, fun x1 x2 => ?_⟩, fun c k z z2 => a6 c k z, fun c k z z2 => a7 c k z⟩
    · unfold F_X7_takeState F_X7_takeState_0 ck
      rw [state_l s, ks, bind_eq]
      dsimp only
      rw [if_pos (by omega), if_neg (by omega), a1, bind_eq]
      dsimp only
      rw [if_pos (by omega)]
    · have lo : -1 ≤ ix w20 0 (tWd h) ∧ ix w20 0 (tWd h) ≤ 6 := by
        rw [w20_e]
        by_cases k0 : ix wk 0 (tWd h) = -1
        · rw [if_pos k0]
          by_cases k8 : tWd h = zsB.getD 8 []
          · rw [if_pos k8]; omega
          · rw [if_neg k8, if_pos ks]; omega
        · rw [if_neg k0]; omega
      unfold F_X12_step_291 ck
      rw [if_pos (by omega), if_neg (by omega), wi, bind_eq, nx_eq]
      dsimp only
      rw [if_pos (by omega), if_neg (by omega), a2, bind_eq]
      dsimp only
      rw [if_pos (by omega)]
  · have hi : ix w20 0 (tWd h) = ix ws 0 (tWd h) + 7 := by
      have no : ∀ s' ∈ (9 :: 10 :: 11 :: 12 :: 13 :: 14 :: 8 :: []), tWd h ≠ zsB.getD s' [] := by
        intro s' hs' e
        apply ks
        rw [e]
        revert s'
        intro s' hs' e
        clear e
        have : ∀ s' ∈ (9 :: 10 :: 11 :: 12 :: 13 :: 14 :: 8 :: []), ix ws 0 (zsB.getD s' []) = -1 := by decide
        exact this s' hs'
      rw [w20_e, if_pos (ix_no wk 0 (fun s' h' => no s' (by
        unfold wk at h'
        revert s'
        decide))), if_neg (no 8 (by decide)), if_neg ks]
    obtain ⟨h', g', a1, a2, a3, a4, a5, a6, a7⟩ := adv (h := hup h 31 n (ix ws 0 (tWd h))) (g := hup g 142 (x + 2) (ix ws 0 (tWd h))) (s.f (fun c k z => hup_n _ _ _ _ _ _ (by omega)) (fun c k z => hup_n _ _ _ _ _ _ (by omega)))
    rw [hup_n _ _ _ _ _ _ (by omega)] at a4
    refine ⟨1, h', g', ?_, Or.inl ⟨rfl, a3, a4, fun x2 x4 => ?_, ?_, ?_⟩, fun c k z z2 => by rw [a6 c k z, hup_n _ _ _ _ _ _ z2], fun c k z z2 => by rw [a7 c k z, hup_n _ _ _ _ _ _ z2]⟩
    · unfold F_X7_takeState F_X7_takeState_0 ck
      rw [state_l s, bind_eq]
      dsimp only
      rw [if_pos (by omega), if_pos ks, if_pos (by omega), nx_eq, show ((n : Int)).toNat = n by omega, a1, bind_eq]
    · unfold F_X12_step_291 ck
      rw [if_pos (by omega), if_neg (by omega), wi, bind_eq, nx_eq]
      dsimp only
      rw [hi, show ix ws 0 (tWd h) + 7 - 7 = ix ws 0 (tWd h) by omega, if_pos (by omega), if_pos (by omega), if_pos (by omega), nx_eq, show ((x : Int) + 2).toNat = x + 2 by omega, a2, bind_eq]
    · rw [a6 _ _ (by omega), hup_s]; omega
    · rw [a6 _ _ (by omega), hup_s, a7 _ _ (by omega), hup_s]
