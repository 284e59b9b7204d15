/-! ===== rows of a tray ===== -/
theorem out_eq {x lo hi : Int} {h : MH} (hx : in64 x) (hl : in64 lo) (hh : in64 hi) : F_X11_outside x lo hi h = some (if lo ≤ x ∧ x ≤ hi then 0 else 1, h) := by
  unfold F_X11_outside F_X11_outside_0 ck
  rw [if_pos hx, if_pos hl]
  by_cases e : x < lo
  · rw [if_pos e, if_neg (by omega)]
  · rw [if_neg e, if_pos hh]
    by_cases e2 : x ≤ hi
    · rw [if_pos e2, if_pos (by omega)]
    · rw [if_neg e2, if_neg (by omega)]
theorem from_eq {x lo hi : Int} {h : MH} (hx : in64 x) (hl : in64 lo) (hh : in64 hi) : F_X12_isFrom x lo hi h = some (if lo ≤ x ∧ x ≤ hi then 1 else 0, h) := by
  unfold F_X12_isFrom F_X12_isFrom_0 ck
  rw [if_pos hx, if_pos hl]
  by_cases e : x < lo
  · rw [if_pos e, if_neg (by omega)]
  · rw [if_neg e, if_pos hh]
    by_cases e2 : hi < x
    · rw [if_pos e2, if_neg (by omega)]
    · rw [if_neg e2, if_pos (by omega)]
theorem allW_l {c N : Nat} {lo hi : Int} {h : MH} (hN : N ≤ 60) (hl : in64 lo) (hh : in64 hi) (hv : ∀ k, k < N → in64 (h c k)) : ∀ (d f j : Nat), j + d = N → d < f →
    ∃ b : Int, (b = 0 ∨ b = 1) ∧ F_X11_allWithin_3 f c (N : Int) lo hi (j : Int) h = some (b, h) ∧ (b = 1 ↔ ∀ k, j ≤ k → k < N → lo ≤ h c k ∧ h c k ≤ hi) := by
  intro d
  induction d with
  | zero =>
    intro f j e hf
    obtain ⟨f, rfl⟩ : ∃ g, f = g + 1 := ⟨f - 1, by omega⟩
    refine ⟨1, Or.inr rfl, ?_, ⟨fun _ k h1 h2 => by omega, fun _ => rfl⟩⟩
    unfold F_X11_allWithin_3 ck
    rw [if_pos (by omega), if_pos (by omega), if_pos (by omega)]
  | succ d ih =>
    intro f j e hf
    obtain ⟨f, rfl⟩ : ∃ g, f = g + 1 := ⟨f - 1, by omega⟩
    have hj := hv j (by omega)
    unfold F_X11_allWithin_3 ck
    rw [if_pos (by omega), if_pos (by omega), if_neg (by omega), if_pos (by omega), Int.toNat_natCast, out_eq hj hl hh, bind_eq]
    dsimp only
    by_cases q : lo ≤ h c j ∧ h c j ≤ hi
    · rw [if_pos q, if_pos (by omega), if_pos rfl]
      obtain ⟨b, b1, b2, b3⟩ := ih f (j + 1) (by omega) (by omega)
      refine ⟨b, b1, b2, b3.trans ⟨fun w k h1 h2 => ?_, fun w k h1 h2 => w k (by omega) h2⟩⟩
      by_cases ek : k = j
      · subst ek; exact q
      · exact w k (by omega) h2
    · rw [if_neg q, if_pos (by omega), if_neg (by omega)]
      exact ⟨0, Or.inl rfl, rfl, ⟨fun w => by omega, fun w => absurd (w j (by omega) (by omega)) q⟩⟩
theorem allW {c N : Nat} {lo hi : Int} {h : MH} (hN : N ≤ 60) (hl : in64 lo) (hh : in64 hi) (hv : ∀ k, k < N → in64 (h c k)) :
    ∃ b : Int, (b = 0 ∨ b = 1) ∧ F_X11_allWithin c (N : Int) lo hi h = some (b, h) ∧ (b = 1 ↔ ∀ k, k < N → lo ≤ h c k ∧ h c k ≤ hi) := by
  obtain ⟨b, b1, b2, b3⟩ := allW_l hN hl hh hv N 20000 0 (by omega) (by omega)
  rw [show ((0 : Nat) : Int) = 0 from rfl] at b2
  exact ⟨b, b1, b2, b3.trans ⟨fun w k h2 => w k (by omega) h2, fun w k _ h2 => w k h2⟩⟩
theorem wrR_l {t N : Nat} {lo hi : Int} {h : MH} (ht : t < 4) (hN : N ≤ 60) (hl : in64 lo) (hh : in64 hi) (hv : ∀ k, k < N → in64 (h 145 (60 * t + k))) : ∀ (d f j : Nat) (fl : Int), (fl = 0 ∨ fl = 1) → j + d = N → d < f →
    ∃ b : Int, (b = 0 ∨ b = 5) ∧ F_X12_wrongRow_43 f (t : Int) (N : Int) lo hi fl (j : Int) h = some (b, h) ∧ (b = 0 ↔ fl = 1 ∧ ∀ k, j ≤ k → k < N → lo ≤ h 145 (60 * t + k) ∧ h 145 (60 * t + k) ≤ hi) := by
  intro d
  induction d with
  | zero =>
    intro f j fl hfl e hf
    obtain ⟨f, rfl⟩ : ∃ g, f = g + 1 := ⟨f - 1, by omega⟩
    unfold F_X12_wrongRow_43 ck
    rw [if_pos (by omega), if_pos (by omega), if_pos (by omega), if_pos (by omega)]
    rcases hfl with q | q <;> subst q
    · exact ⟨5, Or.inr rfl, rfl, ⟨fun w => by omega, fun w => by omega⟩⟩
    · exact ⟨0, Or.inl rfl, rfl, ⟨fun _ => ⟨rfl, fun k h1 h2 => by omega⟩, fun _ => rfl⟩⟩
  | succ d ih =>
    intro f j fl hfl e hf
    obtain ⟨f, rfl⟩ : ∃ g, f = g + 1 := ⟨f - 1, by omega⟩
    have hj := hv j (by omega)
    have hx : (60 * (t : Int) + (j : Int)).toNat = 60 * t + j := by omega
    unfold F_X12_wrongRow_43 F_X12_wrongRow_80 F_X12_wrongRow_81 ck
    rw [if_pos (by omega), if_pos (by omega), if_neg (by omega), if_pos (by omega)]
    rcases hfl with q | q <;> subst q
    · rw [if_pos rfl]
      obtain ⟨b, b1, b2, b3⟩ := ih f (j + 1) 0 (Or.inl rfl) (by omega) (by omega)
      exact ⟨b, b1, b2, b3.trans ⟨fun w => by omega, fun w => by omega⟩⟩
    · rw [if_neg (by omega), if_pos (by omega), hx, from_eq hj hl hh, bind_eq]
      dsimp only
      by_cases q : lo ≤ h 145 (60 * t + j) ∧ h 145 (60 * t + j) ≤ hi
      · rw [if_pos q, if_pos (by omega), if_neg (by omega)]
        obtain ⟨b, b1, b2, b3⟩ := ih f (j + 1) 1 (Or.inr rfl) (by omega) (by omega)
        refine ⟨b, b1, b2, b3.trans ⟨fun w => ⟨rfl, fun k h1 h2 => ?_⟩, fun w => ⟨rfl, fun k h1 h2 => w.2 k (by omega) h2⟩⟩⟩
        by_cases ek : k = j
        · subst ek; exact q
        · exact w.2 k (by omega) h2
      · rw [if_neg q, if_pos (by omega), if_pos rfl]
        obtain ⟨b, b1, b2, b3⟩ := ih f (j + 1) 0 (Or.inl rfl) (by omega) (by omega)
        exact ⟨b, b1, b2, b3.trans ⟨fun w => by omega, fun w => absurd (w.2 j (by omega) (by omega)) q⟩⟩
/-- the other's test of a row: what it says -/
theorem wrR {x1 N lo hi : Int} {h : MH} (i1 : in32 x1) (iN : in32 N) (hN0 : 0 ≤ N) (hl : in64 lo) (hh : in64 hi) (hs : ∀ t : Nat, t < 4 → -1 ≤ h 144 t ∧ h 144 t ≤ 60) (hv : ∀ t k : Nat, t < 4 → (k : Int) < h 144 t → in64 (h 145 (60 * t + k))) :
    ∃ b : Int, F_X12_wrongRow 1 x1 N lo hi h = some (b, h) ∧ (b = 1 ↔ ¬ (0 ≤ x1 ∧ x1 < 4)) ∧ (b = 2 ↔ (0 ≤ x1 ∧ x1 < 4) ∧ h 144 x1.toNat = -1) ∧ (b = 3 ↔ (0 ≤ x1 ∧ x1 < 4) ∧ h 144 x1.toNat ≠ -1 ∧ h 144 x1.toNat < N) ∧
      (b = 0 ↔ (0 ≤ x1 ∧ x1 < 4) ∧ h 144 x1.toNat ≠ -1 ∧ N ≤ h 144 x1.toNat ∧ ∀ k : Nat, (k : Int) < N → lo ≤ h 145 (60 * x1.toNat + k) ∧ h 145 (60 * x1.toNat + k) ≤ hi) ∧ (b = 0 ∨ b = 1 ∨ b = 2 ∨ b = 3 ∨ b = 5) := by
  unfold F_X12_wrongRow F_X12_wrongRow_0 F_X12_isTray F_X12_isTray_0 ck
  rw [if_pos (by omega), if_neg (by omega), if_pos i1]
  by_cases c1 : 0 ≤ x1 ∧ x1 < 4
  · obtain ⟨t, e⟩ : ∃ t : Nat, x1 = t := ⟨x1.toNat, by omega⟩
    subst e
    have s := hs t (by omega)
    rw [if_neg (by omega), if_neg (by omega), bind_eq]
    dsimp only
    rw [if_pos (by omega), if_pos (by omega), if_pos c1, Int.toNat_natCast, if_pos (by omega)]
    by_cases c2 : h 144 t = -1
    · rw [if_neg (by omega)]
      exact ⟨2, rfl, by omega, by omega, by omega, ⟨fun w => by omega, fun w => absurd c2 w.2.1⟩, by omega⟩
    · rw [if_pos c2, if_pos iN]
      by_cases c3 : N ≤ h 144 t
      · rw [if_pos c3]
        obtain ⟨M, e⟩ : ∃ t : Nat, N = t := ⟨N.toNat, by omega⟩
        subst e
        obtain ⟨b, b1, b2, b3⟩ := wrR_l (t := t) (N := M) (h := h) (by omega) (by omega) hl hh (fun k hk => hv t k (by omega) (by omega)) M 20000 0 1 (Or.inr rfl) (by omega) (by omega)
        rw [show ((0 : Nat) : Int) = 0 from rfl] at b2
        refine ⟨b, b2, by omega, by omega, by omega, b3.trans ⟨fun w => ⟨c1, c2, c3, fun k hk => w.2 k (by omega) (by omega)⟩, fun w => ⟨rfl, fun k _ hk => w.2.2.2 k (by omega)⟩⟩, by omega⟩
      · rw [if_neg c3]
        exact ⟨3, rfl, by omega, by omega, by omega, ⟨fun w => by omega, fun w => absurd w.2.2.1 c3⟩, by omega⟩
  · refine ⟨1, ?_, by omega, ⟨fun w => by omega, fun w => absurd w.1 c1⟩, ⟨fun w => by omega, fun w => absurd w.1 c1⟩, ⟨fun w => by omega, fun w => absurd w.1 c1⟩, by omega⟩
    by_cases c2 : x1 < 0
    · rw [if_pos c2]; rfl
    · rw [if_neg c2, if_pos (by omega)]; rfl
