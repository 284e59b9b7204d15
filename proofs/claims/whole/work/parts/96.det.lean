/-! ===== all details of a step, on both sides ===== -/
def DT (K : Int) (n x : Nat) (h g : MH) : Prop := (K = 1 ∨ K = 2 ∨ K = 3 ∨ K = 5 → nmR (h 30 n) (g 142 (x + 1))) ∧ (K ≠ 3 → h 31 n = g 142 (x + 2)) ∧ (K = 3 → g 142 (x + 2) = 0) ∧ (K = 0 → 1 ≤ g 142 (x + 2) ∧ g 142 (x + 2) ≤ 60) ∧ (K = 1 → 1 ≤ g 142 (x + 2) ∧ g 142 (x + 2) ≤ 99) ∧ (K = 2 → 0 ≤ g 142 (x + 2) ∧ g 142 (x + 2) ≤ 99) ∧ (K = 4 → 1 ≤ g 142 (x + 2) ∧ g 142 (x + 2) ≤ 9) ∧ (K = 5 → 0 ≤ g 142 (x + 2) ∧ g 142 (x + 2) ≤ 3)
/-- the other's road through the details -/
def mdet (K E x : Int) (g : MH) : Option (Int × MH) :=
  if K = 1 then F_X12_step_190 K E x g
  else
    if K = 2 then F_X12_step_190 K E x g
    else
      if K = 3 then F_X12_step_190 K E x g
      else
        if K ≠ 5 then F_X12_step_221 K E x g
        else F_X12_step_190 K E x g
def HD (n : Nat) (h h' : MH) : Prop := ∀ c k, ¬ (c = 8 ∧ 3 ≤ k ∧ k ≤ 10) → ¬ ((c = 30 ∨ c = 31) ∧ k = n) → h' c k = h c k
def GD (x : Nat) (g g' : MH) : Prop := ∀ c k, ¬ (c = 141 ∧ 11 ≤ k ∧ k ≤ 17) → ¬ (c = 142 ∧ (k = x + 1 ∨ k = x + 2)) → g' c k = g c k
def GEx (x : Nat) (g g' : MH) : Prop := ∀ c k, ¬ (c = 141 ∧ 11 ≤ k ∧ k ≤ 21) → c ≠ 150 → ¬ (c = 142 ∧ (k = x + 1 ∨ k = x + 2)) → g' c k = g c k
theorem t3z {K E x : Int} {g : MH} (hK : 0 ≤ K ∧ K ≤ 3) : F_X12_step_333 K E x 0 g = some (0, g) := by
  unfold F_X12_step_333 F_X12_step_363 F_X12_step_421 ck
  rw [if_pos (by omega), if_neg (by omega), if_pos (by omega), if_pos (by omega), if_pos (by omega), if_pos (by omega), if_pos rfl]
theorem t240 {K E x v : Int} {g : MH} (hK : 0 ≤ K ∧ K ≤ 6) (h1 : K ≠ 1) (h2 : K ≠ 2) : F_X12_step_240 K E x v g = F_X12_step_274 K E x v g := by
  unfold F_X12_step_240 F_X12_step_257 ck
  rw [if_pos (by omega), if_pos h1, if_pos (by omega), if_pos h2]
theorem t274 {K E x v : Int} {g : MH} (hK : 0 ≤ K ∧ K ≤ 6) (h1 : K ≠ 4) (h2 : K ≠ 5) : F_X12_step_274 K E x v g = F_X12_step_333 K E x v g := by
  unfold F_X12_step_274 F_X12_step_291 ck
  rw [if_pos (by omega), if_pos h1, if_pos (by omega), if_pos h2]
theorem det_0 {L n x : Nat} {E : Int} {h g : MH} (s : S0 L h g) (hn : n < 30) (hx : x + 3 < 2640) :
    ∃ b h' g', F_X7_takeDetails 0 (n : Int) h = some (b, h') ∧ HD n h h' ∧ ((b = 1 ∧ S0 L h' g' ∧ h 8 5 ≤ h' 8 5 ∧ mdet 0 E (x : Int) g = F_X12_step_333 0 E (x : Int) 1 g' ∧ DT 0 n x h' g' ∧ GD x g g') ∨ (b = 0 ∧ FT h' g' ∧ mdet 0 E (x : Int) g = some (0, g') ∧ GEx x g g')) := by
  obtain ⟨-, -, k3, -⟩ := s.k
  obtain ⟨b, h', g', a1, a2, a3, a4, a5⟩ := am_l (x := x) (lo := 1) (hi := 60) s hn (by omega) (by omega) (by omega)
  have m : mdet 0 E (x : Int) g = F_X12_step_333 0 E (x : Int) b g' := by
    unfold mdet F_X12_step_221 ck
    rw [if_neg (by omega), if_neg (by omega), if_neg (by omega), if_pos (by omega), if_pos (by omega), if_neg (by omega), a2, bind_eq]
    dsimp only
    rw [t240 (by omega) (by omega) (by omega), t274 (by omega) (by omega) (by omega)]
  have hb : b = 0 ∨ b = 1 := by rcases a3 with ⟨z, _⟩ | ⟨z, _⟩ <;> omega
  have c : F_X7_takeDetails 0 (n : Int) h = some (b, h') := by
    unfold F_X7_takeDetails F_X7_takeDetails_0 ck
    rw [if_pos (by omega), if_pos rfl, a1, bind_eq]
    dsimp only
    rw [if_pos hb]
  refine ⟨b, h', g', c, fun c k z1 z2 => a4 c k z1 (by omega), ?_⟩
  rcases a3 with ⟨b1, b2, b3, b4, b5⟩ | ⟨b1, b2⟩
  · rw [b1] at m
    exact Or.inl ⟨b1, b2, by omega, m, ⟨fun z => absurd z (by omega), by omega, by omega, by omega, by omega, by omega, by omega, by omega⟩, fun c k z1 z2 => a5 c k z1 (by omega)⟩
  · rw [b1] at m
    exact Or.inr ⟨b1, b2, by rw [m, t3z (by omega)], fun c k z1 z2 z3 => a5 c k (by omega) (by omega)⟩
theorem det_4 {L n x : Nat} {E : Int} {h g : MH} (s : S0 L h g) (hn : n < 30) (hx : x + 3 < 2640) (hd : 0 ≤ g 141 21 ∧ g 141 21 < 3) :
    ∃ b h' g', F_X7_takeDetails 4 (n : Int) h = some (b, h') ∧ HD n h h' ∧ ((b = 1 ∧ S0 L h' g' ∧ h 8 5 ≤ h' 8 5 ∧ mdet 4 E (x : Int) g = F_X12_step_333 4 E (x : Int) 1 g' ∧ DT 4 n x h' g' ∧ GD x g g') ∨ (b = 0 ∧ FT h' g' ∧ mdet 4 E (x : Int) g = some (0, g') ∧ GEx x g g')) := by
  obtain ⟨-, -, k3, -⟩ := s.k
  obtain ⟨b, h', g', a1, a2, a3, a4, a5⟩ := am_l (x := x) (lo := 1) (hi := 9) s hn (by omega) (by omega) (by omega)
  have m : mdet 4 E (x : Int) g = F_X12_step_333 4 E (x : Int) b g' := by
    unfold mdet F_X12_step_221 ck
    rw [if_neg (by omega), if_neg (by omega), if_neg (by omega), if_pos (by omega), if_pos (by omega), if_pos (by omega), t240 (by omega) (by omega) (by omega)]
    unfold F_X12_step_274 F_X12_step_291 ck
    rw [if_pos (by omega), if_neg (by omega), a2, bind_eq]
    dsimp only
    rw [if_pos (by omega), if_pos (by omega)]
  have hb : b = 0 ∨ b = 1 := by rcases a3 with ⟨z, _⟩ | ⟨z, _⟩ <;> omega
  have c : F_X7_takeDetails 4 (n : Int) h = some (b, h') := by
    unfold F_X7_takeDetails F_X7_takeDetails_0 ck
    rw [if_pos (by omega), if_neg (by omega), if_neg (by omega), if_neg (by omega), if_neg (by omega), if_pos rfl, a1, bind_eq]
    dsimp only
    rw [if_pos hb]
  rcases a3 with ⟨b1, b2, b3, b4, b5⟩ | ⟨b1, b2⟩
  · rw [b1] at m
    exact ⟨b, h', g', c, fun c k z1 z2 => a4 c k z1 (by omega), Or.inl ⟨b1, b2, by omega, m, ⟨fun z => absurd z (by omega), by omega, by omega, by omega, by omega, by omega, by omega, by omega⟩, fun c k z1 z2 => a5 c k z1 (by omega)⟩⟩
  · rw [b1] at m
    have g21 : g' 141 21 = g 141 21 := a5 _ _ (by omega) (by omega)
    refine ⟨b, h', hup (hup g' 150 (g' 141 21).toNat E) 141 21 (g' 141 21 + 1), c, fun c k z1 z2 => a4 c k z1 (by omega), Or.inr ⟨b1, ?_, ?_, fun c k z1 z2 z3 => ?_⟩⟩
    · obtain ⟨f1, f2, f3, f4⟩ := b2
      refine ⟨⟨f1.1, f1.2.1, ?_⟩, f2, f3, ?_⟩
      · rw [hup_n _ _ _ _ _ _ (by omega), hup_n _ _ _ _ _ _ (by omega)]; exact f1.2.2
      · rw [hup_n _ _ _ _ _ _ (by omega), hup_n _ _ _ _ _ _ (by omega)]; exact f4
    · rw [m]
      unfold F_X12_step_333 F_X12_step_343 F_X12_step_363 F_X12_step_421 ck
      rw [if_pos (by omega), if_pos rfl, if_pos (by omega), nx_eq, nx_eq, hup_n _ _ _ _ 141 21 (by omega), if_pos (by omega), if_pos (by omega), if_pos (by omega), if_pos rfl]
    · rw [hup_n _ _ _ _ _ _ (by omega), hup_n _ _ _ _ _ _ (by omega)]; exact a5 c k (by omega) (by omega)
theorem det_1 {L n x : Nat} {E : Int} {h g : MH} (s : S0 L h g) (hn : n < 30) (hx : x + 3 < 2640) :
    ∃ b h' g', F_X7_takeDetails 1 (n : Int) h = some (b, h') ∧ HD n h h' ∧ ((b = 1 ∧ S0 L h' g' ∧ h 8 5 ≤ h' 8 5 ∧ mdet 1 E (x : Int) g = F_X12_step_333 1 E (x : Int) 1 g' ∧ DT 1 n x h' g' ∧ GD x g g') ∨ (b = 0 ∧ FT h' g' ∧ mdet 1 E (x : Int) g = some (0, g') ∧ GEx x g g')) := by
  obtain ⟨-, -, k3, -⟩ := s.k
  obtain ⟨b, h1, g1, a1, a2, a3, a4⟩ := nm_l (x := x) s hn (by omega)
  rcases a2 with ⟨b1, b2, b3, b4, b5⟩ | ⟨b1, b2, b3⟩
  · obtain ⟨b', h2, g2, c1, c2, c3, c4, c5⟩ := am_l (x := x) (lo := 1) (hi := 99) b2 hn (by omega) (by omega) (by omega)
    obtain ⟨-, -, k3', -⟩ := b2.k
    have m : mdet 1 E (x : Int) g = F_X12_step_333 1 E (x : Int) b' g2 := by
      unfold mdet
      rw [if_pos rfl, b4]
      unfold F_X12_step_221 F_X12_step_240 ck
      rw [if_pos (by omega), if_pos (by omega), if_pos (by omega), if_neg (by omega), c2, bind_eq]
      dsimp only
      unfold F_X12_step_257 ck
      rw [if_pos (by omega), if_pos (by omega), t274 (by omega) (by omega) (by omega)]
    have c : F_X7_takeDetails 1 (n : Int) h = if b' = 0 then some (0, h2) else some (1, h2) := by
      have hb : b' = 0 ∨ b' = 1 := by rcases c3 with ⟨z, _⟩ | ⟨z, _⟩ <;> omega
      unfold F_X7_takeDetails F_X7_takeDetails_0 ck
      rw [if_pos (by omega), if_neg (by omega), if_pos rfl, a1, b1, bind_eq]
      dsimp only
      rw [if_pos (by omega), if_neg (by omega), c1, bind_eq]
      dsimp only
      rw [if_pos (by omega)]
    rcases c3 with ⟨d1, d2, d3, d4, d5⟩ | ⟨d1, d2⟩
    · rw [d1] at m c
      rw [if_neg (by omega)] at c
      exact ⟨1, h2, g2, c, fun c k z1 z2 => by rw [c4 c k z1 (by omega), a3 c k z1 (by omega)], Or.inl ⟨rfl, d2, by omega, m, ⟨fun z => by rw [c4 _ _ (by omega) (by omega), c5 _ _ (by omega) (by omega)]; exact b5, by omega, by omega, by omega, by omega, by omega, by omega, by omega⟩, fun c k z1 z2 => by rw [c5 c k z1 (by omega), a4 c k z1 (by omega)]⟩⟩
    · rw [d1] at m c
      rw [if_pos rfl] at c
      exact ⟨0, h2, g2, c, fun c k z1 z2 => by rw [c4 c k z1 (by omega), a3 c k z1 (by omega)], Or.inr ⟨rfl, d2, by rw [m, t3z (by omega)], fun c k z1 z2 z3 => by rw [c5 c k (by omega) (by omega), a4 c k (by omega) (by omega)]⟩⟩
  · refine ⟨0, h1, g1, ?_, fun c k z1 z2 => a3 c k z1 (by omega), Or.inr ⟨rfl, b2, ?_, fun c k z1 z2 z3 => a4 c k (by omega) (by omega)⟩⟩
    · unfold F_X7_takeDetails F_X7_takeDetails_0 ck
      rw [if_pos (by omega), if_neg (by omega), if_pos rfl, a1, b1, bind_eq]
      dsimp only
      rw [if_pos (by omega), if_pos rfl]
    · unfold mdet
      rw [if_pos rfl, b3]
theorem det_2 {L n x : Nat} {E : Int} {h g : MH} (s : S0 L h g) (hn : n < 30) (hx : x + 3 < 2640) :
    ∃ b h' g', F_X7_takeDetails 2 (n : Int) h = some (b, h') ∧ HD n h h' ∧ ((b = 1 ∧ S0 L h' g' ∧ h 8 5 ≤ h' 8 5 ∧ mdet 2 E (x : Int) g = F_X12_step_333 2 E (x : Int) 1 g' ∧ DT 2 n x h' g' ∧ GD x g g') ∨ (b = 0 ∧ FT h' g' ∧ mdet 2 E (x : Int) g = some (0, g') ∧ GEx x g g')) := by
  obtain ⟨-, -, k3, -⟩ := s.k
  obtain ⟨b, h1, g1, a1, a2, a3, a4⟩ := nm_l (x := x) s hn (by omega)
  rcases a2 with ⟨b1, b2, b3, b4, b5⟩ | ⟨b1, b2, b3⟩
  · obtain ⟨b', h2, g2, c1, c2, c3, c4, c5⟩ := am_l (x := x) (lo := 0) (hi := 99) b2 hn (by omega) (by omega) (by omega)
    obtain ⟨-, -, k3', -⟩ := b2.k
    have m : mdet 2 E (x : Int) g = F_X12_step_333 2 E (x : Int) b' g2 := by
      unfold mdet
      rw [if_neg (by omega), if_pos rfl, b4]
      unfold F_X12_step_221 F_X12_step_240 F_X12_step_257 ck
      rw [if_pos (by omega), if_pos (by omega), if_pos (by omega), if_pos (by omega), if_pos (by omega), if_neg (by omega), c2, bind_eq]
      dsimp only
      rw [t274 (by omega) (by omega) (by omega)]
    have c : F_X7_takeDetails 2 (n : Int) h = if b' = 0 then some (0, h2) else some (1, h2) := by
      have hb : b' = 0 ∨ b' = 1 := by rcases c3 with ⟨z, _⟩ | ⟨z, _⟩ <;> omega
      unfold F_X7_takeDetails F_X7_takeDetails_0 ck
      rw [if_pos (by omega), if_neg (by omega), if_neg (by omega), if_pos rfl, a1, b1, bind_eq]
      dsimp only
      rw [if_pos (by omega), if_neg (by omega), c1, bind_eq]
      dsimp only
      rw [if_pos (by omega)]
    rcases c3 with ⟨d1, d2, d3, d4, d5⟩ | ⟨d1, d2⟩
    · rw [d1] at m c
      rw [if_neg (by omega)] at c
      exact ⟨1, h2, g2, c, fun c k z1 z2 => by rw [c4 c k z1 (by omega), a3 c k z1 (by omega)], Or.inl ⟨rfl, d2, by omega, m, ⟨fun z => by rw [c4 _ _ (by omega) (by omega), c5 _ _ (by omega) (by omega)]; exact b5, by omega, by omega, by omega, by omega, by omega, by omega, by omega⟩, fun c k z1 z2 => by rw [c5 c k z1 (by omega), a4 c k z1 (by omega)]⟩⟩
    · rw [d1] at m c
      rw [if_pos rfl] at c
      exact ⟨0, h2, g2, c, fun c k z1 z2 => by rw [c4 c k z1 (by omega), a3 c k z1 (by omega)], Or.inr ⟨rfl, d2, by rw [m, t3z (by omega)], fun c k z1 z2 z3 => by rw [c5 c k (by omega) (by omega), a4 c k (by omega) (by omega)]⟩⟩
  · refine ⟨0, h1, g1, ?_, fun c k z1 z2 => a3 c k z1 (by omega), Or.inr ⟨rfl, b2, ?_, fun c k z1 z2 z3 => a4 c k (by omega) (by omega)⟩⟩
    · unfold F_X7_takeDetails F_X7_takeDetails_0 ck
      rw [if_pos (by omega), if_neg (by omega), if_neg (by omega), if_pos rfl, a1, b1, bind_eq]
      dsimp only
      rw [if_pos (by omega), if_pos rfl]
    · unfold mdet
      rw [if_neg (by omega), if_pos rfl, b3]
theorem det_3 {L n x : Nat} {E : Int} {h g : MH} (s : S0 L h g) (hn : n < 30) (hx : x + 3 < 2640) (h0 : g 142 (x + 2) = 0) :
    ∃ b h' g', F_X7_takeDetails 3 (n : Int) h = some (b, h') ∧ HD n h h' ∧ ((b = 1 ∧ S0 L h' g' ∧ h 8 5 ≤ h' 8 5 ∧ mdet 3 E (x : Int) g = F_X12_step_333 3 E (x : Int) 1 g' ∧ DT 3 n x h' g' ∧ GD x g g') ∨ (b = 0 ∧ FT h' g' ∧ mdet 3 E (x : Int) g = some (0, g') ∧ GEx x g g')) := by
  obtain ⟨-, -, k3, -⟩ := s.k
  obtain ⟨b, h1, g1, a1, a2, a3, a4⟩ := nm_l (x := x) s hn (by omega)
  have hb : b = 0 ∨ b = 1 := by rcases a2 with ⟨z, _⟩ | ⟨z, _⟩ <;> omega
  have c : F_X7_takeDetails 3 (n : Int) h = some (b, h1) := by
    unfold F_X7_takeDetails F_X7_takeDetails_0 F_X7_takeDetails_130 ck
    rw [if_pos (by omega), if_neg (by omega), if_neg (by omega), if_neg (by omega), if_pos rfl, a1, bind_eq]
    dsimp only
    rw [if_pos hb]
  refine ⟨b, h1, g1, c, fun c k z1 z2 => a3 c k z1 (by omega), ?_⟩
  rcases a2 with ⟨b1, b2, b3, b4, b5⟩ | ⟨b1, b2, b3⟩
  · refine Or.inl ⟨b1, b2, by omega, ?_, ⟨fun _ => b5, by omega, fun _ => ?_, by omega, by omega, by omega, by omega, by omega⟩, fun c k z1 z2 => a4 c k z1 (by omega)⟩
    · unfold mdet
      rw [if_neg (by omega), if_neg (by omega), if_pos rfl, b4]
      unfold F_X12_step_221 ck
      rw [if_pos (by omega), if_pos (by omega), t240 (by omega) (by omega) (by omega), t274 (by omega) (by omega) (by omega)]
    · rw [a4 _ _ (by omega) (by omega)]; exact h0
  · refine Or.inr ⟨b1, b2, ?_, fun c k z1 z2 z3 => a4 c k (by omega) (by omega)⟩
    unfold mdet
    rw [if_neg (by omega), if_neg (by omega), if_pos rfl, b3]
theorem det_5 {L n x : Nat} {E : Int} {h g : MH} (s : S0 L h g) (hn : n < 30) (hx : x + 3 < 2640) :
    ∃ b h' g', F_X7_takeDetails 5 (n : Int) h = some (b, h') ∧ HD n h h' ∧ ((b = 1 ∧ S0 L h' g' ∧ h 8 5 ≤ h' 8 5 ∧ mdet 5 E (x : Int) g = F_X12_step_333 5 E (x : Int) 1 g' ∧ DT 5 n x h' g' ∧ GD x g g') ∨ (b = 0 ∧ FT h' g' ∧ mdet 5 E (x : Int) g = some (0, g') ∧ GEx x g g')) := by
  obtain ⟨-, -, k3, -⟩ := s.k
  obtain ⟨b, h1, g1, a1, a2, a3, a4⟩ := nm_l (x := x) s hn (by omega)
  rcases a2 with ⟨b1, b2, b3, b4, b5⟩ | ⟨b1, b2, b3⟩
  · obtain ⟨b', h2, g2, c1, c3, c4, c5⟩ := tstate_l (x := x) b2 hn (by omega)
    obtain ⟨-, -, k3', -⟩ := b2.k
    have m : mdet 5 E (x : Int) g = F_X12_step_291 5 E (x : Int) 1 g1 := by
      unfold mdet
      rw [if_neg (by omega), if_neg (by omega), if_neg (by omega), if_neg (by omega), b4]
      unfold F_X12_step_221 ck
      rw [if_pos (by omega), if_pos (by omega), t240 (by omega) (by omega) (by omega)]
      unfold F_X12_step_274 ck
      rw [if_pos (by omega), if_pos (by omega)]
    have c : F_X7_takeDetails 5 (n : Int) h = if b' = 0 then some (0, h2) else some (1, h2) := by
      have hb : b' = 0 ∨ b' = 1 := by rcases c3 with ⟨z, _⟩ | ⟨z, _⟩ <;> omega
      unfold F_X7_takeDetails F_X7_takeDetails_0 ck
      rw [if_pos (by omega), if_neg (by omega), if_neg (by omega), if_neg (by omega), if_neg (by omega), if_neg (by omega), if_pos rfl, a1, b1, bind_eq]
      dsimp only
      rw [if_pos (by omega), if_neg (by omega), c1, bind_eq]
      dsimp only
      rw [if_pos (by omega)]
    rcases c3 with ⟨d1, d2, d3, d4, d5, d6⟩ | ⟨d1, d2, d3⟩
    · rw [d1, if_neg (by omega)] at c
      exact ⟨1, h2, g2, c, fun c k z1 z2 => by rw [c4 c k z1 (by omega), a3 c k z1 (by omega)], Or.inl ⟨rfl, d2, by omega, by rw [m, d4], ⟨fun z => by rw [c4 _ _ (by omega) (by omega), c5 _ _ (by omega) (by omega)]; exact b5, by omega, by omega, by omega, by omega, by omega, by omega, by omega⟩, fun c k z1 z2 => by rw [c5 c k z1 (by omega), a4 c k z1 (by omega)]⟩⟩
    · rw [d1, if_pos rfl] at c
      exact ⟨0, h2, g2, c, fun c k z1 z2 => by rw [c4 c k z1 (by omega), a3 c k z1 (by omega)], Or.inr ⟨rfl, d2, by rw [m, d3], fun c k z1 z2 z3 => by rw [c5 c k (by omega) (by omega), a4 c k (by omega) (by omega)]⟩⟩
  · refine ⟨0, h1, g1, ?_, fun c k z1 z2 => a3 c k z1 (by omega), Or.inr ⟨rfl, b2, ?_, fun c k z1 z2 z3 => a4 c k (by omega) (by omega)⟩⟩
    · unfold F_X7_takeDetails F_X7_takeDetails_0 ck
      rw [if_pos (by omega), if_neg (by omega), if_neg (by omega), if_neg (by omega), if_neg (by omega), if_neg (by omega), if_pos rfl, a1, b1, bind_eq]
      dsimp only
      rw [if_pos (by omega), if_pos rfl]
    · unfold mdet
      rw [if_neg (by omega), if_neg (by omega), if_neg (by omega), if_neg (by omega), b3]
theorem det_l {L n x : Nat} {K E : Int} {h g : MH} (s : S0 L h g) (hK : 0 ≤ K ∧ K ≤ 5) (hn : n < 30) (hx : x + 3 < 2640) (hd : K = 4 → 0 ≤ g 141 21 ∧ g 141 21 < 3) (h0 : g 142 (x + 2) = 0) :
    ∃ b h' g', F_X7_takeDetails K (n : Int) h = some (b, h') ∧ HD n h h' ∧ ((b = 1 ∧ S0 L h' g' ∧ h 8 5 ≤ h' 8 5 ∧ mdet K E (x : Int) g = F_X12_step_333 K E (x : Int) 1 g' ∧ DT K n x h' g' ∧ GD x g g') ∨ (b = 0 ∧ FT h' g' ∧ mdet K E (x : Int) g = some (0, g') ∧ GEx x g g')) := by
  have cs : K = 0 ∨ K = 1 ∨ K = 2 ∨ K = 3 ∨ K = 4 ∨ K = 5 := by omega
  rcases cs with e | e | e | e | e | e
  · subst e; exact det_0 s hn hx
  · subst e; exact det_1 s hn hx
  · subst e; exact det_2 s hn hx
  · subst e; exact det_3 s hn hx h0
  · subst e; exact det_4 s hn hx (hd rfl)
  · subst e; exact det_5 s hn hx
