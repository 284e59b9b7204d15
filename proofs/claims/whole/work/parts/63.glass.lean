/-! ===== glass ===== -/
theorem mct_e {m m' : Nat → Int} : ∀ L, (∀ u, u < L → m' u = m u) → mct m' L = mct m L
  | 0, _ => rfl
  | L + 1, h => by rw [mct, mct, mct_e L (fun u hu => h u (by omega)), h L (by omega)]
theorem mct_up {g : MH} {v : Nat} : ∀ L, v < L → mct (hup g 160 v 1 160) L = mct (g 160) L + (1 - g 160 v)
  | 0, h => absurd h (by omega)
  | L + 1, h => by
    by_cases q : v = L
    · subst q
      rw [mct, mct, mct_e v (m := g 160) (fun u hu => hup_n _ _ _ _ _ _ (by omega)), hup_s]
      omega
    · rw [mct, mct, mct_up L (by omega), hup_n _ _ _ _ _ _ (by omega)]
      omega
/-- couple k of the row: bottle and reach -/
def glB (c : Nat) (h : MH) (k : Nat) : Int := h c (2 * k + 1)
def glR (c : Nat) (h : MH) (k : Nat) : Int := h 47 (h c (2 * k)).toNat
def inr (c : Nat) (h : MH) (k : Nat) (v : Int) : Prop := glB c h k - glR c h k ≤ v ∧ v ≤ glB c h k + glR c h k
def glV (c N : Nat) (h : MH) : Prop := ∀ k, k < N → (0 ≤ h c (2 * k) ∧ h c (2 * k) < 6) ∧ (0 ≤ glB c h k ∧ glB c h k ≤ 9999) ∧ (1 ≤ glR c h k ∧ glR c h k ≤ 24)
theorem al_l {c N k : Nat} {v : Int} {h : MH} (hN : N ≤ 20) (hk : k ≤ N) (hv : 0 ≤ v ∧ v ≤ 20000) (V : glV c N h) : ∀ (d f j : Nat), j + d = k → d < f → ∃ b : Int, (b = 0 ∨ b = 1) ∧ F_X11_thrownAlready_3 f c (k : Int) v (j : Int) h = some (b, h) ∧ (b = 1 ↔ ∃ i, j ≤ i ∧ i < k ∧ inr c h i v) := by
  intro d
  induction d with
  | zero =>
    intro f j e hf
    obtain ⟨f, rfl⟩ : ∃ g, f = g + 1 := ⟨f - 1, by omega⟩
    refine ⟨0, Or.inl rfl, ?_, ⟨fun q => absurd q (by omega), fun ⟨i, q1, q2, _⟩ => absurd q1 (by omega)⟩⟩
    rw [F_X11_thrownAlready_3]
    unfold ck
    rw [if_pos (by omega), if_pos (by omega), if_pos (by omega)]
  | succ d ih =>
    intro f j e hf
    obtain ⟨f, rfl⟩ : ∃ g, f = g + 1 := ⟨f - 1, by omega⟩
    obtain ⟨w1, w2, w3⟩ := V j (by omega)
    unfold glB at w2
    unfold glR at w3
    have t1 : (2 * (j : Int) + 1).toNat = 2 * j + 1 := by omega
    have t2 : (2 * (j : Int)).toNat = 2 * j := by omega
    have ab : (0 ≤ (if 0 < h c (2 * j + 1) - v then h c (2 * j + 1) - v else -(h c (2 * j + 1) - v))) ∧ (if 0 < h c (2 * j + 1) - v then h c (2 * j + 1) - v else -(h c (2 * j + 1) - v)) ≤ 40000 ∧ (inr c h j v ↔ (if 0 < h c (2 * j + 1) - v then h c (2 * j + 1) - v else -(h c (2 * j + 1) - v)) ≤ h 47 (h c (2 * j)).toNat) := by
      unfold inr glB glR
      split <;> omega
    generalize hz : (if 0 < h c (2 * j + 1) - v then h c (2 * j + 1) - v else -(h c (2 * j + 1) - v)) = z at ab
    have st : F_X11_thrownAlready_3 (f + 1) c (k : Int) v (j : Int) h = if h 47 (h c (2 * j)).toNat < z then F_X11_thrownAlready_3 f c (k : Int) v ((j + 1 : Nat) : Int) h else some (1, h) := by
      rw [F_X11_thrownAlready_3]
      unfold ck
      rw [if_pos (by omega), if_pos (by omega), if_neg (by omega), if_pos (by omega), t1, t2, hz, if_pos (by omega), if_pos (by omega), if_pos (by omega), if_pos (by omega), if_pos (by omega), show (j : Int) + 1 = ((j + 1 : Nat) : Int) by omega]
    by_cases q : inr c h j v
    · have := ab.2.2.mp q
      refine ⟨1, Or.inr rfl, by rw [st, if_neg (by omega)], ⟨fun _ => ⟨j, by omega, by omega, q⟩, fun _ => rfl⟩⟩
    · have q' : ¬ (z ≤ h 47 (h c (2 * j)).toNat) := fun x => q (ab.2.2.mpr x)
      obtain ⟨b, b1, b2, b3⟩ := ih f (j + 1) (by omega) (by omega)
      refine ⟨b, b1, by rw [st, if_pos (by omega)]; exact b2, b3.trans ⟨fun ⟨i, p1, p2, p3⟩ => ⟨i, by omega, p2, p3⟩, fun ⟨i, p1, p2, p3⟩ => ⟨i, ?_, p2, p3⟩⟩⟩
      by_cases e : i = j
      · subst e; exact absurd p3 q
      · omega
def gI (c : Nat) (h : MH) (k : Nat) (lo v : Int) (g : MH) : Prop := ∀ u : Nat, u < 10200 → (g 160 u = 0 ∨ g 160 u = 1) ∧ (g 160 u = 1 ↔ (∃ i, i < k ∧ inr c h i u) ∨ (lo ≤ (u : Int) ∧ (u : Int) < v))
theorem gin_l {c t N k E : Nat} {lo : Int} {h : MH} {k5 : Nat → Int → Int → Int → MH → Option (Int × MH)} (hN : N ≤ 20) (hk : k < N) (V : glV c N h) (hE : (E : Int) = glB c h k + glR c h k + 1) (hlo : lo = max 0 (glB c h k - glR c h k)) : ∀ (d f f' v : Nat) (x3 : Int), v + d = E → lo ≤ v → d < f → d < f' →
    ∃ x3' : Int, F_X11_thrownForGlass_46 k5 f c (N : Int) x3 (k : Int) (glR c h k) (v : Int) h = k5 c (N : Int) x3' ((k + 1 : Nat) : Int) h ∧
      ∀ (k103 : Int → Int → Int → MH → Option (Int × MH)) (g : MH), gI c h k lo v g → x3 = mct (g 160) 10200 → ∃ g', F_X12_glass_162 k103 f' (t : Int) (N : Int) (k : Int) (glR c h k) (glB c h k) (v : Int) g = k103 (t : Int) (N : Int) ((k + 1 : Nat) : Int) g' ∧ gI c h k lo E g' ∧ x3' = mct (g' 160) 10200 ∧ ∀ i u, ¬ (i = 160 ∧ u < 10200) → g' i u = g i u := by
  obtain ⟨w1, w2, w3⟩ := V k hk
  intro d
  induction d with
  | zero =>
    intro f f' v x3 e hl hf hf'
    obtain ⟨f, rfl⟩ : ∃ g, f = g + 1 := ⟨f - 1, by omega⟩
    obtain ⟨f', rfl⟩ : ∃ g, f' = g + 1 := ⟨f' - 1, by omega⟩
    have : v = E := by omega
    subst this
    refine ⟨x3, ?_, fun k103 g hg hx => ⟨g, ?_, hg, hx, fun _ _ _ => rfl⟩⟩
    · rw [F_X11_thrownForGlass_46]
      unfold ck
      rw [if_pos (by omega), show (2 * (k : Int) + 1).toNat = 2 * k + 1 by omega, show h c (2 * k + 1) = glB c h k from rfl, if_pos (by omega), if_pos (by omega), if_pos (by omega), if_pos (by omega), show (k : Int) + 1 = ((k + 1 : Nat) : Int) by omega]
    · rw [F_X12_glass_162]
      unfold ck
      rw [if_pos (by omega), if_pos (by omega), if_pos (by omega), show (k : Int) + 1 = ((k + 1 : Nat) : Int) by omega]
  | succ d ih =>
    intro f f' v x3 e hl hf hf'
    obtain ⟨f, rfl⟩ : ∃ g, f = g + 1 := ⟨f - 1, by omega⟩
    obtain ⟨f', rfl⟩ : ∃ g, f' = g + 1 := ⟨f' - 1, by omega⟩
    obtain ⟨b, b1, b2, b3⟩ := al_l (k := k) (v := (v : Int)) hN (by omega) (by omega) V k 20000 0 (by omega) (by omega)
    have b2' : F_X11_thrownAlready c (k : Int) (v : Int) h = some (b, h) := b2
    obtain ⟨x3', a1, a2⟩ := ih f f' (v + 1) (x3 + (1 - b)) (by omega) (by omega) (by omega) (by omega)
    refine ⟨x3', ?_, fun k103 g hg hx => ?_⟩
    · rw [← a1, F_X11_thrownForGlass_46]
      unfold F_X11_thrownForGlass_79 ck
      rw [if_pos (by omega), show (2 * (k : Int) + 1).toNat = 2 * k + 1 by omega, show h c (2 * k + 1) = glB c h k from rfl, if_pos (by omega), if_pos (by omega), if_pos (by omega), if_neg (by omega), b2', bind_eq]
      dsimp only
      rw [if_pos (by omega), nx_eq, show (v : Int) + 1 = ((v + 1 : Nat) : Int) by omega]
      rcases b1 with q | q
      · rw [if_neg (by omega), q]; rfl
      · rw [if_pos (by omega), q, show x3 + (1 - 1) = x3 by omega]
    · have gv := hg v (by omega)
      have gb : g 160 v = b := by
        rcases b1 with q | q
        · rcases gv.1 with p | p
          · omega
          · exfalso
            rcases gv.2.mp p with ⟨i, i1, i2⟩ | i1
            · have := b3.mpr ⟨i, by omega, i1, i2⟩; omega
            · omega
        · obtain ⟨i, i1, i2, i3⟩ := b3.mp q
          rw [q]; exact gv.2.mpr (Or.inl ⟨i, i2, i3⟩)
      obtain ⟨g', c1, c2, c3, c4⟩ := a2 k103 (hup g 160 v 1) (fun u hu => by
        by_cases q : u = v
        · subst q
          rw [hup_s]
          exact ⟨Or.inr rfl, ⟨fun _ => Or.inr (by omega), fun _ => rfl⟩⟩
        · rw [hup_n _ _ _ _ _ _ (by omega)]
          refine ⟨(hg u hu).1, (hg u hu).2.trans ⟨fun x => ?_, fun x => ?_⟩⟩
          · rcases x with x | x
            · exact Or.inl x
            · exact Or.inr (by omega)
          · rcases x with x | x
            · exact Or.inl x
            · exact Or.inr (by omega)) (by rw [mct_up 10200 (by omega), gb, hx])
      refine ⟨g', ?_, c2, c3, fun i u q => by rw [c4 i u q, hup_n _ _ _ _ _ _ (by omega)]⟩
      rw [← c1, F_X12_glass_162]
      unfold ck
      rw [if_pos (by omega), if_pos (by omega), if_neg (by omega), if_pos (by omega), nx_eq, show ((v : Int)).toNat = v by omega, show (v : Int) + 1 = ((v + 1 : Nat) : Int) by omega]
theorem gout_l {c t N : Nat} {h : MH} (ht : t < 4) (hN : N ≤ 20) (V : glV c N h) : ∀ (d f f' k : Nat) (x3 : Int), k + d = N → d < f → d < f' →
    ∃ x : Int, F_X11_thrownForGlass_5 f c (N : Int) x3 (k : Int) h = some (x, h) ∧
      ∀ g : MH, (∀ k, k < 2 * N → g 145 (60 * t + k) = h c k) → (∀ k, k < N → g 142 (8 + 16 * (h c (2 * k)).toNat + 1) = glR c h k) → (∀ u : Nat, u < 10200 → (g 160 u = 0 ∨ g 160 u = 1) ∧ (g 160 u = 1 ↔ ∃ i, i < k ∧ inr c h i u)) → x3 = mct (g 160) 10200 →
        ∃ g', F_X12_glass_103 f' (t : Int) (N : Int) (k : Int) g = some (x, hup (hfl g' 160 10200 0) 141 1 0) ∧ (0 ≤ x ∧ x ≤ 10200) ∧ ∀ i u, ¬ (i = 160 ∧ u < 10200) → g' i u = g i u := by
  intro d
  induction d with
  | zero =>
    intro f f' k x3 e hf hf'
    obtain ⟨f, rfl⟩ : ∃ g, f = g + 1 := ⟨f - 1, by omega⟩
    obtain ⟨f', rfl⟩ : ∃ g, f' = g + 1 := ⟨f' - 1, by omega⟩
    refine ⟨x3, ?_, fun g _ _ hg hx => ⟨g, ?_, ?_, fun _ _ _ => rfl⟩⟩
    · rw [F_X11_thrownForGlass_5]
      unfold ck
      rw [if_pos (by omega), if_pos (by omega), if_pos (by omega)]
    · have th := thr (X := 10199) (g := g) (by omega) (fun v hv => (hg v hv).1)
      have mb := mct_b (m := g 160) 10200 (fun v hv => by have := (hg v hv).1; omega)
      rw [F_X12_glass_103]
      unfold F_X12_gives F_X12_gives_0 ck
      rw [if_pos (by omega), if_pos (by omega), if_pos (by omega), show (10199 : Int) = ((10199 : Nat) : Int) from rfl, th, bind_eq, ← hx]
      dsimp only
      rw [if_pos (by omega), nx_eq, bind_eq]
    · have mb := mct_b (m := g 160) 10200 (fun v hv => by have := (hg v hv).1; omega)
      omega
  | succ d ih =>
    intro f f' k x3 e hf hf'
    obtain ⟨f, rfl⟩ : ∃ g, f = g + 1 := ⟨f - 1, by omega⟩
    obtain ⟨f', rfl⟩ : ∃ g, f' = g + 1 := ⟨f' - 1, by omega⟩
    obtain ⟨w1, w2, w3⟩ := V k (by omega)
    obtain ⟨lo, elo⟩ : ∃ lo : Nat, (lo : Int) = max 0 (glB c h k - glR c h k) := ⟨(max 0 (glB c h k - glR c h k)).toNat, by omega⟩
    obtain ⟨E, eE⟩ : ∃ E : Nat, (E : Int) = glB c h k + glR c h k + 1 := ⟨(glB c h k + glR c h k + 1).toNat, by omega⟩
    obtain ⟨x3', a1, a2⟩ := gin_l (c := c) (t := t) (N := N) (k := k) (E := E) (lo := (lo : Int)) (h := h) (k5 := F_X11_thrownForGlass_5 f) hN (by omega) V eE elo (E - lo) 20000 20000 lo x3 (by omega) (by omega) (by omega) (by omega)
    obtain ⟨x, b1, b2⟩ := ih f f' (k + 1) x3' (by omega) (by omega) (by omega)
    refine ⟨x, ?_, fun g g1 g2 hg hx => ?_⟩
    · rw [← b1, ← a1, F_X11_thrownForGlass_5]
      unfold ck
      rw [if_pos (by omega), if_pos (by omega), if_neg (by omega), if_pos (by omega), show (2 * (k : Int)).toNat = 2 * k by omega, show (2 * (k : Int) + 1).toNat = 2 * k + 1 by omega, show h c (2 * k + 1) = glB c h k from rfl, if_pos (by omega), nx_eq, show h 47 (h c (2 * k)).toNat = glR c h k from rfl, if_pos (by omega), if_pos (by omega), if_pos (by omega), nx_eq, elo]
    · obtain ⟨g', c1, c2, c3, c4⟩ := a2 (F_X12_glass_103 f') g (fun u hu => ⟨(hg u hu).1, (hg u hu).2.trans ⟨fun q => Or.inl q, fun q => by
        rcases q with q | q
        · exact q
        · omega⟩⟩) hx
      obtain ⟨g'', d1, d2, d3⟩ := b2 g' (fun k hk => by rw [c4 _ _ (by omega)]; exact g1 k hk) (fun k hk => by rw [c4 _ _ (by omega)]; exact g2 k hk) (fun u hu => ⟨(c2 u hu).1, (c2 u hu).2.trans ⟨fun q => by
        rcases q with ⟨i, q1, q2⟩ | q
        · exact ⟨i, by omega, q2⟩
        · exact ⟨k, by omega, by unfold inr; omega⟩, fun ⟨i, q1, q2⟩ => by
        by_cases q : i = k
        · subst q
          unfold inr at q2
          exact Or.inr (by omega)
        · exact Or.inl ⟨i, by omega, q2⟩⟩⟩) c3
      refine ⟨g'', ?_, d2, fun i u q => by rw [d3 i u q, c4 i u q]⟩
      have e0 := g1 (2 * k) (by omega)
      have e1 := g1 (2 * k + 1) (by omega)
      have e2 := g2 k (by omega)
      obtain ⟨mm, em⟩ : ∃ mm : Nat, h c (2 * k) = (mm : Int) := ⟨(h c (2 * k)).toNat, by omega⟩
      rw [em, Int.toNat_natCast] at e2
      rw [← d1, ← c1, F_X12_glass_103]
      unfold F_X12_ofMachine F_X12_ofMachine_0 F_X12_machineAt F_X12_machineAt_0 ck
      simp only [bind_eq]
      rw [if_pos (by omega), if_pos (by omega), if_neg (by omega), if_pos (by omega), show (60 * (t : Int) + 2 * (k : Int)).toNat = 60 * t + 2 * k by omega, show (60 * (t : Int) + 2 * (k : Int) + 1).toNat = 60 * t + (2 * k + 1) by omega, e0, em, if_pos (by omega), bind_eq]
      dsimp only
      rw [show ((0 : Int) + 8 + 16 * (mm : Int) + 1).toNat = 8 + 16 * mm + 1 by omega, e2, if_pos (by omega), nx_eq, e1, show h c (2 * k + 1) = glB c h k from rfl, if_pos (by omega), nx_eq, ← elo]
