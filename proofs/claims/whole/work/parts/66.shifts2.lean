theorem pp_l {c t N lim : Nat} {L : Int} {W : Nat → Int} (hc : c < 79) (ht : t < 4) (hN : N ≤ 8) (hl : lim ≤ N) (hL : 1 ≤ L ∧ L ≤ 999) (hW : ∀ k, k < N → 1 ≤ W k ∧ W k ≤ L) : ∀ r, PP c t N lim L W r := by
  intro r
  induction r with
  | zero =>
    intro x u nd h hx hr hu S
    obtain ⟨nd, rfl⟩ : ∃ g, nd = g + 1 := ⟨nd - 1, by omega⟩
    obtain ⟨s1, s2, s3, s4, s5, s6, s7⟩ := S
    refine ⟨1, h, ?_, ⟨Or.inr rfl, fun _ => rfl, fun _ _ _ _ => rfl, fun q => absurd q (by omega), fun _ k hk => s7 k (by omega)⟩, fun _ => ⟨rfl, rfl⟩, 0, by omega, fun F G q => absurd q (by omega)⟩
    rw [F_X4_fits]
    unfold F_X4_fits_0 ck
    rw [if_pos (by omega), if_pos (by omega), if_neg (by omega)]
  | succ r ih =>
    intro x u nd h hx hr hu S
    obtain ⟨nd, rfl⟩ : ∃ g, nd = g + 1 := ⟨nd - 1, by omega⟩
    have S' := S
    obtain ⟨s1, s2, s3, s4, s5, s6, s7⟩ := S
    obtain ⟨b, h', a1, a2, a3, a4, a5, a6, e, a7, a8⟩ := scan_l (x := x) (u := u) (r := r) (nd := nd) hc ht hN hl hL hW (by omega) (by omega) hu ih (u + 1) 0 20000 h (by omega) (by omega) S'
    refine ⟨b, h', ?_, ⟨a2, fun q => a3 q (by omega), a4, a5, a6⟩, fun q => absurd q (by omega), e + 1, ?_, fun F G _ o g => ?_⟩
    · rw [F_X4_fits]
      unfold F_X4_fits_0 ck
      rw [if_pos (by omega), if_pos (by omega), if_pos (by omega)]
      exact a1
    · unfold csb at a7
      rw [if_pos (by omega), Nat.sub_zero] at a7
      rw [cst]
      omega
    · have z := (h34 (t := t) (N := N) (x := x) (F := F + e) (L := L) (lim := (lim : Int)) (W := W) (G := G) ht hN (by omega) o.1 (fun k hk => by rw [o.2.1 k hk]; exact s7 k hk)).1 g
      rw [← Nat.add_assoc, z, mxp_e x (fun k hk => o.2.1 k hk), s4]
      exact a8 F 20000 G (by omega) o
theorem hold_6 {t N lim : Nat} {L : Int} {G : MH} : ∀ (d f j : Nat), j + d = 8 → d < f → F_X12_holds_6 f (t : Int) (N : Int) L (lim : Int) 0 (j : Int) (hfl G 165 j 0) = F_X12_holds_34 20000 (t : Int) (N : Int) L (lim : Int) 0 (hup (hfl G 165 8 0) 163 0 (-1)) := by
  intro d
  induction d with
  | zero =>
    intro f j e hf
    obtain ⟨f, rfl⟩ : ∃ g, f = g + 1 := ⟨f - 1, by omega⟩
    have : j = 8 := by omega
    subst this
    rw [F_X12_holds_6]
    unfold ck
    rw [if_pos (by omega), if_pos (by omega), nx_eq]
  | succ d ih =>
    intro f j e hf
    obtain ⟨f, rfl⟩ : ∃ g, f = g + 1 := ⟨f - 1, by omega⟩
    rw [← ih f (j + 1) (by omega) (by omega), F_X12_holds_6]
    unfold ck
    rw [if_pos (by omega), if_neg (by omega), if_pos (by omega), nx_eq, show ((j : Int)).toNat = j by omega, hfl_s, show (j : Int) + 1 = ((j + 1 : Nat) : Int) by omega]
theorem cst_b {N : Nat} (hN : N ≤ 8) : cst N 0 ≤ 6451 := by
  have : N = 0 ∨ N = 1 ∨ N = 2 ∨ N = 3 ∨ N = 4 ∨ N = 5 ∨ N = 6 ∨ N = 7 ∨ N = 8 := by omega
  rcases this with rfl | rfl | rfl | rfl | rfl | rfl | rfl | rfl | rfl <;> decide
/-- one limit on both sides -/
theorem try_lim {c t N lim : Nat} {L : Int} {W : Nat → Int} {h : MH} (hc : c < 79) (ht : t < 4) (hN : 1 ≤ N ∧ N ≤ 8) (hl : lim ≤ N) (hL : 1 ≤ L ∧ L ≤ 999) (hW : ∀ k, k < N → 1 ≤ W k ∧ W k ≤ L) (S : SC c N L W 0 0 h) :
    ∃ (b : Int) (h' : MH), F_X4_fits 10 c 0 0 (lim : Int) L h = some (b, h') ∧ (b = 0 ∨ b = 1) ∧ (lim = N → b = 1) ∧ F79 h h' ∧ (b = 0 → SC c N L W 0 0 h') ∧ (b = 1 → ∀ k, k < N → 0 ≤ h' 79 k ∧ h' 79 k < 8) ∧
      ∀ G : MH, (∀ k, k < N → G 145 (60 * t + k) = W k) → ∃ G', F_X12_holds (t : Int) (N : Int) L (lim : Int) G = some (b, G') ∧ F163 G G' ∧ (b = 1 → ∀ k, k < N → G' 163 k = h' 79 k) := by
  obtain ⟨b, h', a1, ⟨a2, a3, a4, a5, a6⟩, a7, e, a8, a9⟩ := pp_l hc ht hN.2 hl hL hW N 0 0 10 h (by omega) (by omega) (by omega) S
  rw [show ((0 : Nat) : Int) = 0 from rfl] at a1
  refine ⟨b, h', a1, a2, a3, a4, fun q => SC_n hc a4 (a5 q).1 (fun k hk => absurd hk (by omega)) S, a6, fun G hG => ?_⟩
  have cb := cst_b hN.2
  obtain ⟨F, eF⟩ : ∃ F : Nat, F + 1 + e = 20000 := ⟨19999 - e, by omega⟩
  have z := hold_6 (t := t) (N := N) (lim := lim) (L := L) (G := G) 8 20000 0 (by omega) (by omega)
  rw [hfl_0, show ((0 : Nat) : Int) = 0 from rfl] at z
  obtain ⟨G', g1, g2, g3⟩ := a9 (F + 1) (hup (hfl G 165 8 0) 163 0 (-1)) hN.1 ⟨fun k hk => by rw [hup_n _ _ _ _ _ _ (by omega), hfl_n _ _ _ _ _ _ (by omega)]; exact hG k hk, fun k hk => absurd hk (by omega), fun j hj => by rw [hup_n _ _ _ _ _ _ (by omega), hfl_y _ _ _ _ _ _ (by omega)]; exact (S.2.2.2.2.1 j (by omega) hj).symm⟩ (hup_s _ _ _ _)
  rw [eF, show ((0 : Nat) : Int) = 0 from rfl] at g2 g3
  have fr : F163 G G' := fun i k x1 x2 => by rw [g1 i k x1 x2, hup_n _ _ _ _ _ _ (by omega), hfl_n _ _ _ _ _ _ (by omega)]
  have ho : F_X12_holds (t : Int) (N : Int) L (lim : Int) G = F_X12_holds_34 20000 (t : Int) (N : Int) L (lim : Int) 0 (hup (hfl G 165 8 0) 163 0 (-1)) := by
    unfold F_X12_holds F_X12_holds_0
    exact z
  rcases a2 with q | q
  · refine ⟨G', ?_, fr, fun q' => absurd q' (by omega)⟩
    rw [ho, (g3 q).1, F_X12_holds_34]
    unfold ck
    rw [if_pos (by omega), if_pos (by omega), q]
  · exact ⟨G', by rw [ho, (g2 q).1, q], fr, fun _ => (g2 q).2⟩
theorem sh76 {N : Nat} {x5 : Int} (hx : in32 x5) (hN : N ≤ 8) : ∀ (d f j : Nat) (g : MH), j + d = N → d < f → ∃ g', F_X12_shifts_76 f (N : Int) x5 (j : Int) g = some (x5, hup (hup g' 141 49 (N : Int)) 141 1 0) ∧ (∀ k, j ≤ k → k < N → g' 164 k = g 163 k) ∧ ∀ i u, ¬ (i = 164 ∧ j ≤ u) → g' i u = g i u := by
  intro d
  induction d with
  | zero =>
    intro f j g e hf
    obtain ⟨f, rfl⟩ : ∃ g, f = g + 1 := ⟨f - 1, by omega⟩
    refine ⟨g, ?_, fun k q1 q2 => absurd q1 (by omega), fun _ _ _ => rfl⟩
    rw [F_X12_shifts_76]
    unfold F_X12_gives F_X12_gives_0 ck
    rw [if_pos (by omega), if_pos (by omega), if_pos (by omega), nx_eq, if_pos hx, nx_eq, bind_eq]
  | succ d ih =>
    intro f j g e hf
    obtain ⟨f, rfl⟩ : ∃ g, f = g + 1 := ⟨f - 1, by omega⟩
    obtain ⟨g', a1, a2, a3⟩ := ih f (j + 1) (hup g 164 j (g 163 j)) (by omega) (by omega)
    refine ⟨g', ?_, fun k q1 q2 => ?_, fun i u q => by rw [a3 i u (by omega), hup_n _ _ _ _ _ _ (by omega)]⟩
    · rw [← a1, F_X12_shifts_76]
      unfold ck
      rw [if_pos (by omega), if_pos (by omega), if_neg (by omega), if_pos (by omega), nx_eq, show ((j : Int)).toNat = j by omega, show (j : Int) + 1 = ((j + 1 : Nat) : Int) by omega]
    · by_cases q : k = j
      · subst q; rw [a3 _ _ (by omega), hup_s]
      · rw [a2 k (by omega) q2, hup_n _ _ _ _ _ _ (by omega)]
theorem pack_l {c t N : Nat} {L : Int} {W : Nat → Int} (hc : c < 79) (ht : t < 4) (hN : 1 ≤ N ∧ N ≤ 8) (hL : 1 ≤ L ∧ L ≤ 999) (hW : ∀ k, k < N → 1 ≤ W k ∧ W k ≤ L) : ∀ (d f f' l : Nat) (h : MH), l + d = N → 1 ≤ l → d < f → d < f' → SC c N L W 0 0 h →
    ∃ (y : Nat) (h' : MH), F_X4_pack_16 f c (N : Int) L (l : Int) h = some ((y : Int), h') ∧ y ≤ N ∧ F79 h h' ∧ (∀ k, k < N → 0 ≤ h' 79 k ∧ h' 79 k < 8) ∧
      ∀ G : MH, (∀ k, k < N → G 145 (60 * t + k) = W k) → ∃ G', F_X12_shifts_55 f' (t : Int) (N : Int) L (l : Int) G = some ((y : Int), hup (hup G' 141 49 (N : Int)) 141 1 0) ∧ (∀ k, k < N → G' 164 k = h' 79 k) ∧ ∀ i u, i ≠ 163 → i ≠ 164 → i ≠ 165 → G' i u = G i u := by
  intro d
  induction d with
  | zero =>
    intro f f' l h e h1 hf hf' S
    obtain ⟨f, rfl⟩ : ∃ g, f = g + 1 := ⟨f - 1, by omega⟩
    obtain ⟨f', rfl⟩ : ∃ g, f' = g + 1 := ⟨f' - 1, by omega⟩
    have : l = N := by omega
    subst this
    obtain ⟨b, h', a1, a2, a3, a4, a5, a6, a7⟩ := try_lim (lim := l) hc ht hN (by omega) hL hW S
    have b1 := a3 rfl
    refine ⟨l, h', ?_, by omega, a4, a6 b1, fun G hG => ?_⟩
    · rw [F_X4_pack_16]
      unfold ck
      rw [if_pos (by omega), if_pos (by omega), if_pos (by omega), a1, bind_eq]
    · obtain ⟨G1, g1, g2, g3⟩ := a7 G hG
      obtain ⟨G2, k1, k2, k3⟩ := sh76 (N := l) (x5 := (l : Int)) (by omega) hN.2 l 20000 0 G1 (by omega) (by omega)
      rw [show ((0 : Nat) : Int) = 0 from rfl] at k1
      refine ⟨G2, ?_, fun k hk => by rw [k2 k (by omega) hk, g3 b1 k hk], fun i u x1 x2 x3 => by rw [k3 i u (by omega), g2 i u x1 x3]⟩
      rw [F_X12_shifts_55, g1, bind_eq]
      unfold ck
      dsimp only
      rw [if_pos (by omega), if_pos (by omega)]
      exact k1
  | succ d ih =>
    intro f f' l h e h1 hf hf' S
    obtain ⟨f, rfl⟩ : ∃ g, f = g + 1 := ⟨f - 1, by omega⟩
    obtain ⟨f', rfl⟩ : ∃ g, f' = g + 1 := ⟨f' - 1, by omega⟩
    obtain ⟨b, h', a1, a2, a3, a4, a5, a6, a7⟩ := try_lim (lim := l) hc ht hN (by omega) hL hW S
    rcases a2 with b0 | b1
    · obtain ⟨y, h2, j1, j2, j3, j4, j5⟩ := ih f f' (l + 1) h' (by omega) (by omega) (by omega) (by omega) (a5 b0)
      refine ⟨y, h2, ?_, j2, a4.tr j3, j4, fun G hG => ?_⟩
      · rw [← j1, F_X4_pack_16]
        unfold ck
        rw [if_pos (by omega), if_pos (by omega), if_neg (by omega), a1, bind_eq]
        dsimp only
        rw [if_pos (by omega), if_pos b0, show (l : Int) + 1 = ((l + 1 : Nat) : Int) by omega]
      · obtain ⟨G1, g1, g2, g3⟩ := a7 G hG
        obtain ⟨G2, k1, k2, k3⟩ := j5 G1 (fun k hk => by rw [g2 _ _ (by omega) (by omega)]; exact hG k hk)
        refine ⟨G2, ?_, k2, fun i u x1 x2 x3 => by rw [k3 i u x1 x2 x3, g2 i u x1 x3]⟩
        rw [← k1, F_X12_shifts_55, g1, bind_eq]
        unfold ck
        dsimp only
        rw [if_pos (by omega), if_neg (by omega), show (l : Int) + 1 = ((l + 1 : Nat) : Int) by omega]
    · refine ⟨l, h', ?_, by omega, a4, a6 b1, fun G hG => ?_⟩
      · rw [F_X4_pack_16]
        unfold ck
        rw [if_pos (by omega), if_pos (by omega), if_neg (by omega), a1, bind_eq]
        dsimp only
        rw [if_pos (by omega), if_neg (by omega)]
      · obtain ⟨G1, g1, g2, g3⟩ := a7 G hG
        obtain ⟨G2, k1, k2, k3⟩ := sh76 (N := N) (x5 := (l : Int)) (by omega) hN.2 N 20000 0 G1 (by omega) (by omega)
        rw [show ((0 : Nat) : Int) = 0 from rfl] at k1
        refine ⟨G2, ?_, fun k hk => by rw [k2 k (by omega) hk, g3 b1 k hk], fun i u x1 x2 x3 => by rw [k3 i u (by omega), g2 i u x1 x3]⟩
        rw [F_X12_shifts_55, g1, bind_eq]
        unfold ck
        dsimp only
        rw [if_pos (by omega), if_pos (by omega)]
        exact k1
