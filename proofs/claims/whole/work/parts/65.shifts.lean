/-! ===== shifts: a search by calls beside one by steps ===== -/
def mxp (m : Nat → Int) : Nat → Int
  | 0 => -1
  | k + 1 => max (mxp m k) (m k)
theorem mxp_e {m m' : Nat → Int} : ∀ x, (∀ k, k < x → m' k = m k) → mxp m' x = mxp m x
  | 0, _ => rfl
  | x + 1, h => by rw [mxp, mxp, mxp_e x (fun k hk => h k (by omega)), h x (by omega)]
/-- steps that a subtree may take -/
def cst : Nat → Nat → Nat
  | 0, _ => 0
  | r + 1, u => 1 + (u * (1 + cst r u) + (1 + cst r (u + 1)))
def csb (r u s : Nat) : Nat := if s ≤ u then (u - s) * (1 + cst r u) + (1 + cst r (u + 1)) else 0
/-- the class's side -/
def SC (c N : Nat) (L : Int) (W : Nat → Int) (x u : Nat) (h : MH) : Prop := h 78 1 = (N : Int) ∧ (∀ k, k < N → h c k = W k) ∧ (∀ j, j < 8 → 0 ≤ h 80 j ∧ h 80 j ≤ L) ∧ mxp (h 79) x = (u : Int) - 1 ∧ (∀ j, u ≤ j → j < 8 → h 80 j = 0) ∧ u ≤ x ∧ ∀ k, k < x → 0 ≤ h 79 k ∧ h 79 k < 8
/-- both sides -/
def SO (t N : Nat) (W : Nat → Int) (x : Nat) (h G : MH) : Prop := (∀ k, k < N → G 145 (60 * t + k) = W k) ∧ (∀ k, k < x → G 163 k = h 79 k) ∧ ∀ j, j < 8 → G 165 j = h 80 j
def F79 (h h' : MH) : Prop := ∀ c k, c ≠ 79 → c ≠ 80 → h' c k = h c k
def F163 (g g' : MH) : Prop := ∀ c k, c ≠ 163 → c ≠ 165 → g' c k = g c k
theorem F79.tr {a b c : MH} (x : F79 a b) (y : F79 b c) : F79 a c := fun i k e e2 => (y i k e e2).trans (x i k e e2)
theorem F163.tr {a b c : MH} (x : F163 a b) (y : F163 b c) : F163 a c := fun i k e e2 => (y i k e e2).trans (x i k e e2)
/-- the other looks for the highest shift used -/
theorem h88 {t N x : Nat} {L lim w : Int} {k34 : Int → Int → Int → Int → Int → MH → Option (Int × MH)} {G : MH} (hx : x < 8) (hb : ∀ k, k < x → 0 ≤ G 163 k ∧ G 163 k < 8) : ∀ (d f j : Nat), j + d = x → d < f →
    F_X12_holds_88 k34 f (t : Int) (N : Int) L lim (x : Int) w (mxp (G 163) j) (j : Int) G = F_X12_holds_126 k34 20000 (t : Int) (N : Int) L lim (x : Int) w (mxp (G 163) x) (G 163 x + 1) G := by
  have mb : ∀ j, j ≤ x → -1 ≤ mxp (G 163) j ∧ mxp (G 163) j < 8 := by
    intro j
    induction j with
    | zero => intro _; rw [mxp]; omega
    | succ j ih => intro q; have := ih (by omega); have := hb j (by omega); rw [mxp]; omega
  intro d
  induction d with
  | zero =>
    intro f j e hf
    obtain ⟨f, rfl⟩ : ∃ g, f = g + 1 := ⟨f - 1, by omega⟩
    have : j = x := by omega
    subst this
    rw [F_X12_holds_88]
    unfold ck
    rw [if_pos (by omega), if_pos (by omega), if_pos (by omega), if_pos (by omega), nx_eq, show ((j : Int)).toNat = j by omega]
  | succ d ih =>
    intro f j e hf
    obtain ⟨f, rfl⟩ : ∃ g, f = g + 1 := ⟨f - 1, by omega⟩
    have := mb j (by omega)
    have := hb j (by omega)
    have z := ih f (j + 1) (by omega) (by omega)
    rw [← z, F_X12_holds_88]
    unfold ck
    rw [if_pos (by omega), if_pos (by omega), if_neg (by omega), if_pos (by omega), if_pos (by omega), show ((j : Int)).toNat = j by omega, if_pos (by omega), nx_eq, show (j : Int) + 1 = ((j + 1 : Nat) : Int) by omega]
    rfl
/-- a place in the other's search: fresh, or come back to -/
theorem h34 {t N x F : Nat} {L lim : Int} {W : Nat → Int} {G : MH} (ht : t < 4) (hN : N ≤ 8) (hx : x < N) (hW : ∀ k, k < N → G 145 (60 * t + k) = W k) (hb : ∀ k, k < x → 0 ≤ G 163 k ∧ G 163 k < 8) :
    (G 163 x = -1 → F_X12_holds_34 (F + 1) (t : Int) (N : Int) L lim (x : Int) G = F_X12_holds_126 (F_X12_holds_34 F) 20000 (t : Int) (N : Int) L lim (x : Int) (W x) (mxp (G 163) x) 0 G) ∧
    (∀ s : Nat, s < 8 → G 163 x = (s : Int) → F_X12_holds_34 (F + 1) (t : Int) (N : Int) L lim (x : Int) G = F_X12_holds_126 (F_X12_holds_34 F) 20000 (t : Int) (N : Int) L lim (x : Int) (W x) (mxp (G 163) x) ((s + 1 : Nat) : Int) (hup G 165 s (G 165 s - W x))) := by
  have st : F_X12_holds_34 (F + 1) (t : Int) (N : Int) L lim (x : Int) G = if in32 (G 163 x) then (if G 163 x = -1 then F_X12_holds_82 (F_X12_holds_34 F) (t : Int) (N : Int) L lim (x : Int) (W x) G else ck (0 ≤ G 163 x ∧ G 163 x < 8) (F_X12_holds_82 (F_X12_holds_34 F) (t : Int) (N : Int) L lim (x : Int) (W x) (hup G 165 (G 163 x).toNat (G 165 (G 163 x).toNat - W x)))) else none := by
    rw [F_X12_holds_34]
    unfold ck
    rw [if_pos (by omega), if_neg (by omega), if_pos (by omega), nx_eq, if_pos (by omega), show ((x : Int)).toNat = x by omega, show (60 * (t : Int) + (x : Int)).toNat = 60 * t + x by omega, hW x hx]
    simp only [nx_eq]
  refine ⟨fun e => ?_, fun s hs e => ?_⟩
  · have z := h88 (t := t) (N := N) (L := L) (lim := lim) (w := W x) (k34 := F_X12_holds_34 F) (by omega) hb x 20000 0 (by omega) (by omega)
    rw [e, show mxp (G 163) 0 = -1 from rfl, show ((0 : Nat) : Int) = 0 from rfl, show (-1 : Int) + 1 = 0 from rfl] at z
    rw [st, if_pos (by omega), if_pos e]
    exact z
  · have z := h88 (t := t) (N := N) (x := x) (L := L) (lim := lim) (w := W x) (k34 := F_X12_holds_34 F) (G := hup G 165 s (G 165 s - W x)) (by omega) (fun k hk => by rw [hup_n _ _ _ _ _ _ (by omega)]; exact hb k hk) x 20000 0 (by omega) (by omega)
    have e1 : mxp (hup G 165 s (G 165 s - W x) 163) x = mxp (G 163) x := mxp_e x (fun k _ => hup_n _ _ _ _ _ _ (by omega))
    rw [e1, hup_n _ _ _ _ _ _ (show ¬ (163 = 165 ∧ x = s) by omega), e, show mxp (hup G 165 s (G 165 s - W x) 163) 0 = -1 from rfl, show ((0 : Nat) : Int) = 0 from rfl, show (s : Int) + 1 = ((s + 1 : Nat) : Int) by omega] at z
    rw [st, if_pos (by omega), if_neg (by omega)]
    unfold ck
    rw [if_pos (by omega), e, show ((s : Int)).toNat = s by omega]
    exact z
/-- one step of the other's scan -/
theorem h126 {t N x u s fu : Nat} {L w : Int} {lim : Nat} {k34 : Int → Int → Int → Int → Int → MH → Option (Int × MH)} {G : MH} (hN : N ≤ 8) (hx : x < N) (hl : lim ≤ N) (hs : s ≤ u + 1) (hu : u ≤ 8) (hL : 1 ≤ L ∧ L ≤ 999) (hw : 1 ≤ w ∧ w ≤ L) (hG : s < 8 → 0 ≤ G 165 s ∧ G 165 s ≤ L) :
    F_X12_holds_126 k34 (fu + 1) (t : Int) (N : Int) L (lim : Int) (x : Int) w ((u : Int) - 1) (s : Int) G =
      (if u < s ∨ lim ≤ s then k34 (t : Int) (N : Int) L (lim : Int) ((x : Int) - 1) G else if G 165 s + w ≤ L then (if x + 1 = N then some (1, hup (hup G 163 x (s : Int)) 165 s (G 165 s + w)) else k34 (t : Int) (N : Int) L (lim : Int) ((x + 1 : Nat) : Int) (hup (hup (hup G 163 x (s : Int)) 165 s (G 165 s + w)) 163 (x + 1) (-1))) else F_X12_holds_126 k34 fu (t : Int) (N : Int) L (lim : Int) (x : Int) w ((u : Int) - 1) ((s + 1 : Nat) : Int) G) := by
  have e1 : F_X12_holds_162 k34 (t : Int) (N : Int) L (lim : Int) (x : Int) w ((u : Int) - 1) (s : Int) G = (if u < s ∨ lim ≤ s then k34 (t : Int) (N : Int) L (lim : Int) ((x : Int) - 1) G else (if x + 1 = N then some (1, hup (hup G 163 x (s : Int)) 165 s (G 165 s + w)) else k34 (t : Int) (N : Int) L (lim : Int) ((x + 1 : Nat) : Int) (hup (hup (hup G 163 x (s : Int)) 165 s (G 165 s + w)) 163 (x + 1) (-1)))) := by
    unfold F_X12_holds_162 F_X12_holds_178 ck
    rw [if_pos (by omega), if_pos (by omega)]
    by_cases q1 : u < s
    · rw [if_pos (by omega), if_pos (Or.inl q1), show (x : Int) + (-1) = (x : Int) - 1 by omega]
    · rw [if_neg (by omega), if_pos (by omega)]
      by_cases q2 : lim ≤ s
      · rw [if_neg (by omega), if_pos (Or.inr q2), show (x : Int) + (-1) = (x : Int) - 1 by omega]
      · rw [if_pos (by omega), if_neg (show ¬ (u < s ∨ lim ≤ s) by omega), if_pos (by omega), nx_eq, if_pos (by omega), nx_eq, show ((x : Int)).toNat = x by omega, show ((s : Int)).toNat = s by omega, hup_n _ _ _ _ _ _ (show ¬ (165 = 163 ∧ s = x) by omega), if_pos (by omega)]
        by_cases q3 : x + 1 = N
        · rw [if_neg (by omega), if_pos q3]
        · rw [if_pos (by omega), if_neg q3, if_pos (by omega), nx_eq, show ((x : Int) + 1).toNat = x + 1 by omega, show (x : Int) + 1 = ((x + 1 : Nat) : Int) by omega]
  rw [F_X12_holds_126]
  unfold ck
  rw [if_pos (by omega), if_pos (by omega)]
  by_cases q1 : u < s
  · rw [if_pos (by omega), e1, if_pos (Or.inl q1), if_pos (Or.inl q1)]
  · rw [if_neg (by omega), if_pos (by omega)]
    by_cases q2 : lim ≤ s
    · rw [if_pos (by omega), e1, if_pos (Or.inr q2), if_pos (Or.inr q2)]
    · have := hG (by omega)
      rw [if_neg (by omega), if_pos (by omega), show ((s : Int)).toNat = s by omega, if_pos (by omega), if_pos (by omega), e1, if_neg (show ¬ (u < s ∨ lim ≤ s) by omega), if_neg (show ¬ (u < s ∨ lim ≤ s) by omega)]
      by_cases q3 : G 165 s + w ≤ L
      · rw [if_pos q3, if_pos q3]
      · rw [if_neg q3, if_neg q3, show (s : Int) + 1 = ((s + 1 : Nat) : Int) by omega]
theorem SC_n {c N x u : Nat} {L : Int} {W : Nat → Int} {h h' : MH} (hc : c < 79) (f : F79 h h') (a : ∀ j, j < 8 → h' 80 j = h 80 j) (b : ∀ k, k < x → h' 79 k = h 79 k) (s : SC c N L W x u h) : SC c N L W x u h' := by
  obtain ⟨s1, s2, s3, s4, s5, s6, s7⟩ := s
  refine ⟨by rw [f _ _ (by omega) (by omega)]; exact s1, fun k hk => by rw [f _ _ (by omega) (by omega)]; exact s2 k hk, fun j hj => by rw [a j hj]; exact s3 j hj, by rw [mxp_e x b]; exact s4, fun j q1 q2 => by rw [a j q2]; exact s5 j q1 q2, s6, fun k hk => by rw [b k hk]; exact s7 k hk⟩
/-- what a search from repair x says, and what the other's does beside it -/
def PA (c t N lim : Nat) (L : Int) (W : Nat → Int) (x : Nat) (h : MH) (b : Int) (h' : MH) : Prop :=
  (b = 0 ∨ b = 1) ∧ (lim = N → b = 1) ∧ F79 h h' ∧ (b = 0 → (∀ j, j < 8 → h' 80 j = h 80 j) ∧ ∀ k, k < x → h' 79 k = h 79 k) ∧ (b = 1 → ∀ k, k < N → 0 ≤ h' 79 k ∧ h' 79 k < 8)
def PB (t N lim : Nat) (L : Int) (W : Nat → Int) (x : Nat) (b : Int) (h' : MH) (F : Nat) (G : MH) (v : Option (Int × MH)) : Prop :=
  ∃ G', F163 G G' ∧ (b = 1 → v = some (1, G') ∧ ∀ k, k < N → G' 163 k = h' 79 k) ∧ (b = 0 → v = F_X12_holds_34 F (t : Int) (N : Int) L (lim : Int) ((x : Int) - 1) G' ∧ (∀ k, k < x → G' 163 k = G 163 k) ∧ ∀ j, j < 8 → G' 165 j = h' 80 j)
def PP (c t N lim : Nat) (L : Int) (W : Nat → Int) (r : Nat) : Prop := ∀ (x u nd : Nat) (h : MH), x + r = N → r < nd → u ≤ lim → SC c N L W x u h →
  ∃ (b : Int) (h' : MH), F_X4_fits nd c (x : Int) (u : Int) (lim : Int) L h = some (b, h') ∧ PA c t N lim L W x h b h' ∧ (r = 0 → b = 1 ∧ h' = h) ∧ (∃ e : Nat, e ≤ cst r u ∧ ∀ (F : Nat) (G : MH), 1 ≤ r → SO t N W x h G → G 163 x = -1 → PB t N lim L W x b h' F G (F_X12_holds_34 (F + e) (t : Int) (N : Int) L (lim : Int) (x : Int) G))
theorem scan_l {c t N lim x u r nd : Nat} {L : Int} {W : Nat → Int} (hc : c < 79) (ht : t < 4) (hN : N ≤ 8) (hl : lim ≤ N) (hL : 1 ≤ L ∧ L ≤ 999) (hW : ∀ k, k < N → 1 ≤ W k ∧ W k ≤ L) (hx : x + r + 1 = N) (hr : r < nd) (hul : u ≤ lim) (P : PP c t N lim L W r) : ∀ (d s fu : Nat) (h : MH), s + d = u + 1 → d < fu → SC c N L W x u h →
    ∃ (b : Int) (h' : MH), F_X4_fits_13 (F_X4_fits nd) fu c (x : Int) (u : Int) (lim : Int) L (s : Int) h = some (b, h') ∧ (b = 0 ∨ b = 1) ∧ (lim = N → 1 ≤ d → b = 1) ∧ F79 h h' ∧ (b = 0 → (∀ j, j < 8 → h' 80 j = h 80 j) ∧ ∀ k, k < x → h' 79 k = h 79 k) ∧ (b = 1 → ∀ k, k < N → 0 ≤ h' 79 k ∧ h' 79 k < 8) ∧
      ∃ e : Nat, e ≤ csb r u s ∧ ∀ (F fu' : Nat) (G : MH), d < fu' → SO t N W x h G → PB t N lim L W x b h' F G (F_X12_holds_126 (F_X12_holds_34 (F + e)) fu' (t : Int) (N : Int) L (lim : Int) (x : Int) (W x) ((u : Int) - 1) (s : Int) G) := by
  intro d
  induction d with
  | zero =>
    intro s fu h e hf S
    obtain ⟨fu, rfl⟩ : ∃ g, fu = g + 1 := ⟨fu - 1, by omega⟩
    obtain ⟨s1, s2, s3, s4, s5, s6, s7⟩ := S
    refine ⟨0, h, ?_, Or.inl rfl, fun _ q => absurd q (by omega), fun _ _ _ _ => rfl, fun _ => ⟨fun _ _ => rfl, fun _ _ => rfl⟩, fun q => absurd q (by omega), 0, by omega, fun F fu' G hf' o => ⟨G, fun _ _ _ _ => rfl, fun q => absurd q (by omega), fun _ => ⟨?_, fun _ _ => rfl, o.2.2⟩⟩⟩
    · rw [F_X4_fits_13]
      unfold ck
      rw [if_pos (by omega), if_pos (by omega), if_pos (by omega)]
    · obtain ⟨fu', rfl⟩ : ∃ g, fu' = g + 1 := ⟨fu' - 1, by omega⟩
      rw [h126 hN (by omega) hl (by omega) (by omega) hL (hW x (by omega)) (fun q => by rw [o.2.2 s q]; exact s3 s q), if_pos (Or.inl (by omega)), Nat.add_zero]
  | succ d ih =>
    intro s fu h e hf S
    obtain ⟨fu, rfl⟩ : ∃ g, fu = g + 1 := ⟨fu - 1, by omega⟩
    have S' := S
    obtain ⟨s1, s2, s3, s4, s5, s6, s7⟩ := S
    have wx := hW x (by omega)
    by_cases q1 : lim ≤ s
    · -- no more shifts
      refine ⟨0, h, ?_, Or.inl rfl, fun q _ => absurd q (by omega), fun _ _ _ _ => rfl, fun _ => ⟨fun _ _ => rfl, fun _ _ => rfl⟩, fun q => absurd q (by omega), 0, by omega, fun F fu' G hf' o => ⟨G, fun _ _ _ _ => rfl, fun q => absurd q (by omega), fun _ => ⟨?_, fun _ _ => rfl, o.2.2⟩⟩⟩
      · rw [F_X4_fits_13]
        unfold ck
        rw [if_pos (by omega), if_pos (by omega), if_neg (by omega), if_pos (by omega), if_pos (by omega)]
      · obtain ⟨fu', rfl⟩ : ∃ g, fu' = g + 1 := ⟨fu' - 1, by omega⟩
        rw [h126 hN (by omega) hl (by omega) (by omega) hL wx (fun q => by rw [o.2.2 s q]; exact s3 s q), if_pos (Or.inr q1), Nat.add_zero]
    have l8 := s3 s (by omega)
    have st : F_X4_fits_13 (F_X4_fits nd) (fu + 1) c (x : Int) (u : Int) (lim : Int) L (s : Int) h = if h 80 s + W x ≤ L then ((F_X4_fits nd c ((x + 1 : Nat) : Int) ((max u (s + 1) : Nat) : Int) (lim : Int) L (hup (hup h 80 s (h 80 s + W x)) 79 x (s : Int))).bind fun q15 => ck (in32 q15.1) (if q15.1 = 0 then F_X4_fits_13 (F_X4_fits nd) fu c (x : Int) (u : Int) (lim : Int) L ((s + 1 : Nat) : Int) (hup q15.2 80 s (q15.2 80 s - q15.2 c x)) else some (1, q15.2))) else F_X4_fits_13 (F_X4_fits nd) fu c (x : Int) (u : Int) (lim : Int) L ((s + 1 : Nat) : Int) h := by
      rw [F_X4_fits_13]
      unfold F_X4_fits_106 ck
      rw [if_pos (by omega), if_pos (by omega), if_neg (by omega), if_pos (by omega), if_neg (by omega), if_pos (by omega), if_pos (by omega), if_pos (by omega), show ((s : Int)).toNat = s by omega, show ((x : Int)).toNat = x by omega, s2 x (by omega), if_pos (by omega)]
      rw [show (x : Int) + 1 = ((x + 1 : Nat) : Int) by omega, show max (u : Int) ((s : Int) + 1) = ((max u (s + 1) : Nat) : Int) by omega, show (s : Int) + 1 = ((s + 1 : Nat) : Int) by omega]
      by_cases q : h 80 s + W x ≤ L
      · rw [if_pos q, if_pos q, nx_eq, if_pos (by omega), nx_eq, if_pos (by omega)]
        rfl
      · rw [if_neg q, if_neg q]
    have step : ∀ (fu' F : Nat) (G : MH), SO t N W x h G → F_X12_holds_126 (F_X12_holds_34 F) (fu' + 1) (t : Int) (N : Int) L (lim : Int) (x : Int) (W x) ((u : Int) - 1) (s : Int) G = if h 80 s + W x ≤ L then (if x + 1 = N then some (1, hup (hup G 163 x (s : Int)) 165 s (h 80 s + W x)) else F_X12_holds_34 F (t : Int) (N : Int) L (lim : Int) ((x + 1 : Nat) : Int) (hup (hup (hup G 163 x (s : Int)) 165 s (h 80 s + W x)) 163 (x + 1) (-1))) else F_X12_holds_126 (F_X12_holds_34 F) fu' (t : Int) (N : Int) L (lim : Int) (x : Int) (W x) ((u : Int) - 1) ((s + 1 : Nat) : Int) G := fun fu' F G o => by
      rw [h126 hN (by omega) hl (by omega) (by omega) hL wx (fun q => by rw [o.2.2 s q]; exact s3 s q), if_neg (by omega), o.2.2 s (by omega)]
    by_cases q2 : h 80 s + W x ≤ L
    rotate_left
    · -- too full
      have q3 : s < u := by
        rcases Nat.lt_or_ge s u with q | q
        · exact q
        · have := s5 s q (by omega); omega
      obtain ⟨b, h', j1, j2, j3, j4, j5, j6, e', j7, j8⟩ := ih (s + 1) fu h (by omega) (by omega) S'
      refine ⟨b, h', by rw [st, if_neg q2]; exact j1, j2, fun a _ => j3 a (by omega), j4, j5, j6, e', ?_, fun F fu' G hf' o => ?_⟩
      · have : csb r u (s + 1) ≤ csb r u s := by
          unfold csb
          rw [if_pos (by omega), if_pos (by omega), show u - s = u - (s + 1) + 1 by omega, Nat.add_mul]
          omega
        omega
      · obtain ⟨fu', rfl⟩ : ∃ g, fu' = g + 1 := ⟨fu' - 1, by omega⟩
        rw [step fu' _ G o, if_neg q2]
        exact j8 F fu' G (by omega) o
    · -- placed
      generalize hh : hup (hup h 80 s (h 80 s + W x)) 79 x (s : Int) = hp at st
      have f0 : F79 h hp := fun i k a1 a2 => by rw [← hh, hup_n _ _ _ _ _ _ (by omega), hup_n _ _ _ _ _ _ (by omega)]
      have p79 : ∀ k, k ≠ x → hp 79 k = h 79 k := fun k a => by rw [← hh, hup_n _ _ _ _ _ _ (by omega), hup_n _ _ _ _ _ _ (by omega)]
      have p79x : hp 79 x = (s : Int) := by rw [← hh, hup_s]
      have p80 : ∀ j, j ≠ s → hp 80 j = h 80 j := fun j a => by rw [← hh, hup_n _ _ _ _ _ _ (by omega), hup_n _ _ _ _ _ _ (by omega)]
      have p80s : hp 80 s = h 80 s + W x := by rw [← hh, hup_n _ _ _ _ _ _ (by omega), hup_s]
      have Sp : SC c N L W (x + 1) (max u (s + 1)) hp := by
        refine ⟨by rw [f0 _ _ (by omega) (by omega)]; exact s1, fun k hk => by rw [f0 _ _ (by omega) (by omega)]; exact s2 k hk, fun j hj => ?_, ?_, fun j a1 a2 => by rw [p80 j (by omega)]; exact s5 j (by omega) a2, by omega, fun k hk => ?_⟩
        · by_cases a : j = s
          · subst a; rw [p80s]; omega
          · rw [p80 j a]; exact s3 j hj
        · rw [mxp, mxp_e x (fun k hk => p79 k (by omega)), s4, p79x]; omega
        · by_cases a : k = x
          · subst a; rw [p79x]; omega
          · rw [p79 k a]; exact s7 k (by omega)
      obtain ⟨b, h1, a1, ⟨a2, a3, a4, a5, a6⟩, a7, e2, c1, c2⟩ := P (x + 1) (max u (s + 1)) nd hp (by omega) hr (by omega) Sp
      rw [if_pos q2, a1, bind_eq] at st
      unfold ck at st
      dsimp only at st
      rw [if_pos (by omega)] at st
      -- both sides after the place is taken
      have go : ∀ G, SO t N W x h G → SO t N W (x + 1) hp (hup (hup (hup G 163 x (s : Int)) 165 s (h 80 s + W x)) 163 (x + 1) (-1)) := fun G o => by
        obtain ⟨o1, o2, o3⟩ := o
        refine ⟨fun k hk => by simp (disch := omega) only [hup_n]; exact o1 k hk, fun k hk => ?_, fun j hj => ?_⟩
        · rw [hup_n _ _ _ _ _ _ (by omega), hup_n _ _ _ _ _ _ (by omega)]
          by_cases a : k = x
          · subst a; rw [hup_s, p79x]
          · rw [hup_n _ _ _ _ _ _ (by omega), p79 k a]; exact o2 k (by omega)
        · rw [hup_n _ _ _ _ _ _ (by omega)]
          by_cases a : j = s
          · subst a; rw [hup_s, p80s]
          · rw [hup_n _ _ _ _ _ _ (by omega), hup_n _ _ _ _ _ _ (by omega), p80 j a]; exact o3 j hj
      have fo : ∀ G, F163 G (hup (hup (hup G 163 x (s : Int)) 165 s (h 80 s + W x)) 163 (x + 1) (-1)) := fun G i k x1 x2 => by
        rw [hup_n _ _ _ _ _ _ (by omega), hup_n _ _ _ _ _ _ (by omega), hup_n _ _ _ _ _ _ (by omega)]
      have cb1 : 1 + cst r (max u (s + 1)) + csb r u (s + 1) ≤ csb r u s := by
        unfold csb
        by_cases a : s + 1 ≤ u
        · rw [if_pos a, if_pos (by omega), show max u (s + 1) = u by omega, show u - s = u - (s + 1) + 1 by omega, Nat.add_mul, Nat.one_mul]
          omega
        · rw [if_neg a, if_pos (by omega), show max u (s + 1) = u + 1 by omega, show u - s = 0 by omega, Nat.zero_mul]
          omega
      rcases a2 with rfl | rfl
      · -- the rest does not fit: back
        rw [if_pos rfl] at st
        obtain ⟨a5a, a5b⟩ := a5 rfl
        have r1 : 1 ≤ r := by
          rcases Nat.eq_zero_or_pos r with q | q
          · have := (a7 q).1; omega
          · exact q
        have cx : h1 c x = W x := by rw [a4 _ _ (by omega) (by omega), f0 _ _ (by omega) (by omega)]; exact s2 x (by omega)
        have hs1 : h1 80 s = h 80 s + W x := by rw [a5a s (by omega)]; exact p80s
        generalize hk : hup h1 80 s (h1 80 s - h1 c x) = h2 at st
        have k80 : ∀ j, j < 8 → h2 80 j = h 80 j := fun j hj => by
          rw [← hk]
          by_cases a : j = s
          · subst a; rw [hup_s, cx, hs1]; omega
          · rw [hup_n _ _ _ _ _ _ (by omega), a5a j hj, p80 j a]
        have k79 : ∀ k, k < x → h2 79 k = h 79 k := fun k hk' => by rw [← hk, hup_n _ _ _ _ _ _ (by omega), a5b k (by omega), p79 k (by omega)]
        have kf : F79 h h2 := fun i k x1 x2 => by rw [← hk, hup_n _ _ _ _ _ _ (by omega), a4 i k x1 x2, f0 i k x1 x2]
        obtain ⟨b, h', j1, j2, j3, j4, j5, j6, e', j7, j8⟩ := ih (s + 1) fu h2 (by omega) (by omega) (SC_n hc kf k80 k79 S')
        refine ⟨b, h', by rw [st]; exact j1, j2, fun a _ => absurd (a3 a) (by omega), kf.tr j4, fun q => ⟨fun j hj => by rw [(j5 q).1 j hj, k80 j hj], fun k hk => by rw [(j5 q).2 k hk, k79 k hk]⟩, j6, e' + 1 + e2, by omega, fun F fu' G hf' o => ?_⟩
        obtain ⟨fu', rfl⟩ : ∃ g, fu' = g + 1 := ⟨fu' - 1, by omega⟩
        rw [step fu' _ G o, if_pos q2, if_neg (by omega), ← Nat.add_assoc]
        obtain ⟨G1, g1, g2, g3⟩ := c2 (F + (e' + 1)) _ r1 (go G o) (hup_s _ _ _ _)
        obtain ⟨g4, g5, g6⟩ := g3 rfl
        rw [g4, show ((x + 1 : Nat) : Int) - 1 = (x : Int) by omega, ← Nat.add_assoc]
        have G163 : ∀ k, k < x → G1 163 k = G 163 k := fun k hk => by
          rw [g5 k (by omega), hup_n _ _ _ _ _ _ (by omega), hup_n _ _ _ _ _ _ (by omega), hup_n _ _ _ _ _ _ (by omega)]
        have G163x : G1 163 x = (s : Int) := by
          rw [g5 x (by omega), hup_n _ _ _ _ _ _ (by omega), hup_n _ _ _ _ _ _ (by omega), hup_s]
        obtain ⟨o1, o2, o3⟩ := o
        have z := (h34 (t := t) (N := N) (x := x) (F := F + e') (L := L) (lim := (lim : Int)) (W := W) (G := G1) ht hN (by omega) (fun k hk => by rw [g1 _ _ (by omega) (by omega), fo G _ _ (by omega) (by omega)]; exact o1 k hk) (fun k hk => by rw [G163 k hk, o2 k hk]; exact s7 k hk)).2 s (by omega) G163x
        rw [z, mxp_e x (fun k hk => (G163 k hk).trans (o2 k hk)), s4]
        obtain ⟨G2, y1, y2, y3⟩ := j8 F 20000 (hup G1 165 s (G1 165 s - W x)) (by omega) ⟨fun k hk => by rw [hup_n _ _ _ _ _ _ (by omega), g1 _ _ (by omega) (by omega), fo G _ _ (by omega) (by omega)]; exact o1 k hk, fun k hk => by rw [hup_n _ _ _ _ _ _ (by omega), G163 k hk, o2 k hk, k79 k hk], fun j hj => by
          by_cases a : j = s
          · subst a; rw [hup_s, g6 j hj, hs1, k80 j hj]; omega
          · rw [hup_n _ _ _ _ _ _ (by omega), g6 j hj, a5a j hj, p80 j a, k80 j hj]⟩
        refine ⟨G2, ?_, y2, fun q => ⟨(y3 q).1, fun k hk => ?_, (y3 q).2.2⟩⟩
        · intro i k x1 x2
          rw [y1 i k x1 x2, hup_n _ _ _ _ _ _ (by omega), g1 i k x1 x2, fo G i k x1 x2]
        · rw [(y3 q).2.1 k hk, hup_n _ _ _ _ _ _ (by omega), G163 k hk]
      · -- all fit
        rw [if_neg (by omega)] at st
        by_cases r0 : r = 0
        · obtain ⟨-, eh⟩ := a7 r0
          refine ⟨1, h1, st, Or.inr rfl, fun _ _ => rfl, f0.tr a4, fun q => absurd q (by omega), fun _ => a6 rfl, 0, by omega, fun F fu' G hf' o => ?_⟩
          obtain ⟨fu', rfl⟩ : ∃ g, fu' = g + 1 := ⟨fu' - 1, by omega⟩
          rw [step fu' _ G o, if_pos q2, if_pos (by omega)]
          refine ⟨_, fun i k x1 x2 => ?_, fun _ => ⟨rfl, fun k hk => ?_⟩, fun q => absurd q (by omega)⟩
          · rw [hup_n _ _ _ _ _ _ (by omega), hup_n _ _ _ _ _ _ (by omega)]
          · rw [eh, hup_n _ _ _ _ _ _ (by omega)]
            by_cases a : k = x
            · subst a; rw [hup_s, p79x]
            · rw [hup_n _ _ _ _ _ _ (by omega), p79 k a]; exact o.2.1 k (by omega)
        · skip
          refine ⟨1, h1, st, Or.inr rfl, fun _ _ => rfl, f0.tr a4, fun q => absurd q (by omega), fun _ => a6 rfl, e2, by omega, fun F fu' G hf' o => ?_⟩
          obtain ⟨fu', rfl⟩ : ∃ g, fu' = g + 1 := ⟨fu' - 1, by omega⟩
          rw [step fu' _ G o, if_pos q2, if_neg (by omega)]
          obtain ⟨G1, g1, g2, g3⟩ := c2 F _ (by omega) (go G o) (hup_s _ _ _ _)
          exact ⟨G1, (fo G).tr g1, g2, fun q => absurd q (by omega)⟩
