/-! ===== marks and their count ===== -/
def mct (m : Nat → Int) : Nat → Int
  | 0 => 0
  | v + 1 => mct m v + m v
theorem mct_b {m : Nat → Int} : ∀ L, (∀ v, v < L → 0 ≤ m v ∧ m v ≤ 1) → 0 ≤ mct m L ∧ mct m L ≤ L
  | 0, _ => by rw [mct]; omega
  | L + 1, h => by
    have a := mct_b L (fun v hv => h v (by omega))
    have c := h L (by omega)
    rw [mct]; omega
theorem thr_l {X : Nat} {g : MH} (hX : X < 10200) (hm : ∀ v, v < 10200 → g 160 v = 0 ∨ g 160 v = 1) : ∀ (d f j : Nat) (acc : Int), j + d = X + 1 → d < f → F_X12_thrownMany_4 f (X : Int) acc (j : Int) (hfl g 160 j 0) = some (acc + (mct (g 160) (X + 1) - mct (g 160) j), hfl g 160 (X + 1) 0) := by
  intro d
  induction d with
  | zero =>
    intro f j acc e hf
    obtain ⟨f, rfl⟩ : ∃ g, f = g + 1 := ⟨f - 1, by omega⟩
    have : j = X + 1 := by omega
    subst this
    rw [F_X12_thrownMany_4]
    unfold ck
    rw [if_pos (by omega), if_pos (by omega), if_pos (by omega), Int.sub_self, Int.add_zero]
  | succ d ih =>
    intro f j acc e hf
    obtain ⟨f, rfl⟩ : ∃ g, f = g + 1 := ⟨f - 1, by omega⟩
    have hj := hm j (by omega)
    have ej : hfl g 160 j 0 160 j = g 160 j := hfl_n _ _ _ _ _ _ (by omega)
    have z := ih f (j + 1) (acc + g 160 j) (by omega) (by omega)
    have e2 : acc + (mct (g 160) (X + 1) - mct (g 160) j) = acc + g 160 j + (mct (g 160) (X + 1) - mct (g 160) (j + 1)) := by rw [show mct (g 160) (j + 1) = mct (g 160) j + g 160 j from rfl]; omega
    rw [e2, ← z, F_X12_thrownMany_4]
    unfold F_X12_thrownMany_24 ck
    rw [if_pos (by omega), if_pos (by omega), if_neg (by omega), if_pos (by omega), show ((j : Int)).toNat = j by omega, ej, if_pos (by omega)]
    have ec : (j : Int) + 1 = ((j + 1 : Nat) : Int) := by omega
    rcases hj with q | q
    · rw [if_pos q, nx_eq, if_pos (by omega), nx_eq, hfl_s, q, ec]
    · rw [if_neg (by omega), nx_eq, if_pos (by omega), nx_eq, hfl_s, q, ec]
theorem thr {X : Nat} {g : MH} (hX : X < 10200) (hm : ∀ v, v < 10200 → g 160 v = 0 ∨ g 160 v = 1) : F_X12_thrownMany (X : Int) g = some (mct (g 160) (X + 1), hfl g 160 (X + 1) 0) := by
  have z := thr_l hX hm (X + 1) 20000 0 0 (by omega) (by omega)
  rw [hfl_0, show ((0 : Nat) : Int) = 0 from rfl, show mct (g 160) 0 = 0 from rfl, Int.sub_zero, Int.zero_add] at z
  exact z
/-! brief: what is counted -/
abbrev bdd (lo hi : Int) (W : Nat → Int) (k : Nat) : Prop := ¬ (lo ≤ W k ∧ W k ≤ hi)
/-- of the first k bottles weighed: the bad ones, and what lies between two of which one is bad -/
def bq (lo hi n : Int) (W : Nat → Int) : Nat → Int
  | 0 => 0
  | 1 => if bdd lo hi W 0 then 1 else 0
  | k + 2 => bq lo hi n W (k + 1) + (if bdd lo hi W (k + 1) then 1 else 0) + (if bdd lo hi W k ∨ bdd lo hi W (k + 1) then n - 1 else 0)
theorem bq_b {lo hi n : Int} {W : Nat → Int} (hn : 1 ≤ n ∧ n ≤ 99) : ∀ k, 0 ≤ bq lo hi n W k ∧ bq lo hi n W k ≤ 99 * k
  | 0 => by rw [bq]; omega
  | 1 => by rw [bq]; split <;> omega
  | k + 2 => by
    have a := bq_b hn (lo := lo) (hi := hi) (W := W) (k + 1)
    rw [bq]
    split <;> split <;> omega
theorem short_l {c N : Nat} {lo hi n : Int} {h : MH} (hN : N ≤ 60) (h1 : 1 ≤ N) (hn : 1 ≤ n ∧ n ≤ 99) (hl : in32 lo) (hh : in32 hi) (hv : ∀ k, k < N → in64 (h c k)) : ∀ (d f k : Nat) (x5 x6 x7 : Int), k + d = N → d < f →
    ((x7 = 0 ∧ (k = 0 ∨ ¬ bdd lo hi (h c) (k - 1)) ∧ x5 = bq lo hi n (h c) k ∧ x6 = (if k = 0 then 0 else ((k : Int) - 1) * n + 1)) ∨ (x7 = 1 ∧ 1 ≤ k ∧ bdd lo hi (h c) (k - 1) ∧ x5 + (((k : Int) - 1) * n + 1 - x6) = bq lo hi n (h c) k)) →
    F_X11_thrownForShort_12 f c (N : Int) n lo hi x5 x6 x7 (k : Int) h = some (bq lo hi n (h c) N, h) := by
  intro d
  induction d with
  | zero =>
    intro f k x5 x6 x7 e hf st
    obtain ⟨f, rfl⟩ : ∃ g, f = g + 1 := ⟨f - 1, by omega⟩
    have : k = N := by omega
    subst this
    rw [F_X11_thrownForShort_12]
    unfold ck
    rw [if_pos (by omega), if_pos (by omega), if_pos (by omega)]
    rcases st with ⟨s1, s2, s3, s4⟩ | ⟨s1, s2, s3, s4⟩
    · rw [if_pos (by omega), if_pos s1, s3]
    · rw [if_pos (by omega), if_neg (by omega), ← s4]
      exact congrArg some (Prod.ext (by dsimp only; omega) rfl)
  | succ d ih =>
    intro f k x5 x6 x7 e hf st
    obtain ⟨f, rfl⟩ : ∃ g, f = g + 1 := ⟨f - 1, by omega⟩
    have ek : (k : Int) + 1 = ((k + 1 : Nat) : Int) := by omega
    have kn : (((k + 1 : Nat) : Int) - 1) * n = (k : Int) * n := by rw [show ((k + 1 : Nat) : Int) - 1 = (k : Int) by omega]
    have km : (k : Int) * n = ((k : Int) - 1) * n + n := by rw [Int.sub_mul]; omega
    rw [F_X11_thrownForShort_12]
    unfold F_X11_thrownForShort_57 F_X11_thrownForShort_71 ck
    rw [if_pos (by omega), if_pos (by omega), if_neg (by omega), if_pos (by omega), if_pos hl, if_pos hh, show ((k : Int)).toNat = k by omega, out_eq (hv k (by omega)) (by omega) (by omega), bind_eq]
    dsimp only
    by_cases b : bdd lo hi (h c) k
    · have b' : ¬ (lo ≤ h c k ∧ h c k ≤ hi) := b
      rw [if_neg b', if_pos (by omega), if_neg (by omega), ek]
      refine ih f (k + 1) x5 x6 1 (by omega) (by omega) (Or.inr ⟨rfl, by omega, b, ?_⟩)
      rw [kn]
      rcases k with _ | k
      · rcases st with ⟨s1, s2, s3, s4⟩ | ⟨s1, s2, s3, s4⟩
        · rw [if_pos rfl] at s4
          rw [s3, s4, bq, bq, if_pos b]
          simp
        · omega
      · rw [bq, if_pos b, if_pos (Or.inr b)]
        rcases st with ⟨s1, s2, s3, s4⟩ | ⟨s1, s2, s3, s4⟩
        · rw [if_neg (by omega)] at s4
          omega
        · omega
    · have b' : lo ≤ h c k ∧ h c k ≤ hi := Decidable.not_not.mp b
      rw [if_pos b', if_pos (by omega), if_pos rfl]
      simp only [nx_eq, ek]
      rcases st with ⟨s1, s2, s3, s4⟩ | ⟨s1, s2, s3, s4⟩
      · rw [if_pos (by omega), if_pos s1]
        refine ih f (k + 1) _ _ 0 (by omega) (by omega) (Or.inl ⟨rfl, Or.inr b, ?_, by rw [if_neg (by omega), kn]⟩)
        rcases k with _ | k
        · rw [s3, bq, bq, if_neg b]; rfl
        · have b2 : ¬ bdd lo hi (h c) k := by
            rcases s2 with s2 | s2
            · omega
            · exact s2
          rw [bq, if_neg b, if_neg (fun x => x.elim b2 b)]
          omega
      · rw [if_pos (by omega), if_neg (by omega)]
        refine ih f (k + 1) _ _ 0 (by omega) (by omega) (Or.inl ⟨rfl, Or.inr b, ?_, by rw [if_neg (by omega), kn]⟩)
        rcases k with _ | k
        · omega
        · have s3' : bdd lo hi (h c) k := s3
          rw [bq, if_neg b, if_pos (Or.inl s3')]
          omega
/-! brief: the other's marks -/
def ngh (N : Nat) (n : Int) (k : Nat) (v : Int) : Prop := (k : Int) * n < v + n ∧ v < (k : Int) * n + n ∧ v ≤ ((N : Int) - 1) * n
theorem mul_mono {a b n : Int} (h : a ≤ b) (hn : 0 ≤ n) : a * n ≤ b * n := Int.mul_le_mul_of_nonneg_right h hn
/-- the other seeks a good one ahead .. -/
theorem bA {t N k : Nat} {lo hi n x7 : Int} {g : MH} {W : Nat → Int} {k72 : Int → Int → Int → Int → Int → Int → Int → MH → Option (Int × MH)} (ht : t < 4) (hN : N ≤ 60) (hk : k < N) (hl : in32 lo) (hh : in32 hi) (hW : ∀ k, k < N → in64 (W k) ∧ g 145 (60 * t + k) = W k) : ∀ (d f : Nat), d ≤ k + 1 → d < f → (∀ j, d ≤ j → j ≤ k → bdd lo hi W j) →
    ∃ a : Int, F_X12_brief_117 k72 f (t : Int) (N : Int) n lo hi x7 (k : Int) ((d : Int) - 1) g = F_X12_brief_156 k72 20000 (t : Int) (N : Int) n lo hi x7 (k : Int) a (k : Int) g ∧ (-1 ≤ a ∧ a ≤ (d : Int) - 1) ∧ (∀ j : Nat, a < (j : Int) → j ≤ k → bdd lo hi W j) ∧ (∀ j : Nat, a = (j : Int) → ¬ bdd lo hi W j) := by
  intro d
  induction d with
  | zero =>
    intro f hd hf hj
    obtain ⟨f, rfl⟩ : ∃ g, f = g + 1 := ⟨f - 1, by omega⟩
    refine ⟨-1, ?_, by omega, fun j q1 q2 => hj j (by omega) q2, fun j q => absurd q (by omega)⟩
    rw [F_X12_brief_117]
    unfold F_X12_brief_152 ck
    rw [if_pos (by omega), if_pos (by omega)]
    rfl
  | succ d ih =>
    intro f hd hf hj
    obtain ⟨f, rfl⟩ : ∃ g, f = g + 1 := ⟨f - 1, by omega⟩
    obtain ⟨w1, w2⟩ := hW d (by omega)
    have ed : ((d + 1 : Nat) : Int) - 1 = (d : Int) := by omega
    rw [ed, F_X12_brief_117]
    unfold F_X12_brief_152 ck
    rw [if_pos (by omega), if_neg (by omega), if_pos (by omega), if_pos hl, if_pos hh, show (60 * (t : Int) + (d : Int)).toNat = 60 * t + d by omega, w2, from_eq w1 (by omega) (by omega), bind_eq]
    dsimp only
    by_cases b : bdd lo hi W d
    · have b' : ¬ (lo ≤ W d ∧ W d ≤ hi) := b
      obtain ⟨a, a1, a2, a3, a4⟩ := ih f (by omega) (by omega) (fun j q1 q2 => by
        by_cases q : j = d
        · subst q; exact b
        · exact hj j (by omega) q2)
      refine ⟨a, ?_, by omega, a3, a4⟩
      rw [if_neg b', if_pos (by omega), if_neg (by omega), show (d : Int) + (-1) = (d : Int) - 1 by omega]
      exact a1
    · have b' : lo ≤ W d ∧ W d ≤ hi := Decidable.not_not.mp b
      refine ⟨(d : Int), ?_, by omega, fun j q1 q2 => hj j (by omega) q2, fun j q => by rw [show j = d by omega]; exact b⟩
      rw [if_pos b', if_pos (by omega), if_pos (by omega)]
/-- .. and behind -/
theorem bB {t N k : Nat} {lo hi n x7 a : Int} {g : MH} {W : Nat → Int} {k72 : Int → Int → Int → Int → Int → Int → Int → MH → Option (Int × MH)} (ht : t < 4) (hN : N ≤ 60) (hl : in32 lo) (hh : in32 hi) (hW : ∀ k, k < N → in64 (W k) ∧ g 145 (60 * t + k) = W k) : ∀ (d f i : Nat), i + d = N → k ≤ i → d < f → (∀ j, k ≤ j → j < i → bdd lo hi W j) →
    ∃ c : Nat, F_X12_brief_156 k72 f (t : Int) (N : Int) n lo hi x7 (k : Int) a (i : Int) g = F_X12_brief_192 k72 (t : Int) (N : Int) n lo hi x7 (k : Int) a (c : Int) g ∧ (i ≤ c ∧ c ≤ N) ∧ (∀ j : Nat, k ≤ j → j < c → bdd lo hi W j) ∧ (c < N → ¬ bdd lo hi W c) := by
  intro d
  induction d with
  | zero =>
    intro f i e hk hf hj
    obtain ⟨f, rfl⟩ : ∃ g, f = g + 1 := ⟨f - 1, by omega⟩
    refine ⟨i, ?_, by omega, hj, fun q => absurd q (by omega)⟩
    rw [F_X12_brief_156]
    unfold ck
    rw [if_pos (by omega), if_pos (by omega), if_pos (by omega)]
  | succ d ih =>
    intro f i e hk hf hj
    obtain ⟨f, rfl⟩ : ∃ g, f = g + 1 := ⟨f - 1, by omega⟩
    obtain ⟨w1, w2⟩ := hW i (by omega)
    rw [F_X12_brief_156]
    unfold ck
    rw [if_pos (by omega), if_pos (by omega), if_neg (by omega), if_pos (by omega), if_pos hl, if_pos hh, show (60 * (t : Int) + (i : Int)).toNat = 60 * t + i by omega, w2, from_eq w1 (by omega) (by omega), bind_eq]
    dsimp only
    by_cases b : bdd lo hi W i
    · have b' : ¬ (lo ≤ W i ∧ W i ≤ hi) := b
      obtain ⟨c, c1, c2, c3, c4⟩ := ih f (i + 1) (by omega) (by omega) (by omega) (fun j q1 q2 => by
        by_cases q : j = i
        · subst q; exact b
        · exact hj j q1 (by omega))
      refine ⟨c, ?_, by omega, c3, c4⟩
      rw [if_neg b', if_pos (by omega), if_neg (by omega), show (i : Int) + 1 = ((i + 1 : Nat) : Int) by omega]
      exact c1
    · have b' : lo ≤ W i ∧ W i ≤ hi := Decidable.not_not.mp b
      refine ⟨i, ?_, by omega, hj, fun _ => b⟩
      rw [if_pos b', if_pos (by omega), if_pos (by omega)]
/-- .. and marks what lies between -/
theorem bC {t N k c E : Nat} {lo hi n x7 : Int} {k72 : Int → Int → Int → Int → Int → Int → Int → MH → Option (Int × MH)} (hN : N ≤ 60) (hc : c ≤ N) (hE : (E : Int) = (if c = N then x7 else (c : Int) * n - 1) + 1) (hE2 : E ≤ 10200) : ∀ (d f v : Nat) (g : MH), v + d = E → d < f →
    ∃ g', F_X12_brief_209 k72 f (t : Int) (N : Int) n lo hi x7 (k : Int) (c : Int) (v : Int) g = k72 (t : Int) (N : Int) n lo hi x7 ((k + 1 : Nat) : Int) g' ∧ (∀ u, v ≤ u → u < E → g' 160 u = 1) ∧ ∀ i u, ¬ (i = 160 ∧ v ≤ u ∧ u < E) → g' i u = g i u := by
  intro d
  have st : ∀ (f v : Nat) (g : MH), v ≤ E → F_X12_brief_209 k72 (f + 1) (t : Int) (N : Int) n lo hi x7 (k : Int) (c : Int) (v : Int) g = (if E ≤ v then k72 (t : Int) (N : Int) n lo hi x7 ((k + 1 : Nat) : Int) g else F_X12_brief_209 k72 f (t : Int) (N : Int) n lo hi x7 (k : Int) (c : Int) ((v + 1 : Nat) : Int) (hup g 160 v 1)) := fun f v g hv => by
    rw [F_X12_brief_209]
    unfold F_X12_brief_228 F_X12_brief_245 ck
    rw [if_pos (by omega), if_pos (by omega), if_pos (show in32 (v : Int) by omega)]
    by_cases q : c = N
    · rw [if_pos q] at hE
      rw [if_neg (by omega), if_pos (show in32 (v : Int) by omega), if_pos (show in32 x7 by omega)]
      by_cases q2 : E ≤ v
      · rw [if_pos q2, if_pos (show x7 < (v : Int) by omega), show (k : Int) + 1 = ((k + 1 : Nat) : Int) by omega]
      · rw [if_neg q2, if_neg (show ¬ x7 < (v : Int) by omega), if_pos (by omega), nx_eq, show ((v : Int)).toNat = v by omega, show (v : Int) + 1 = ((v + 1 : Nat) : Int) by omega]
    · rw [if_neg q] at hE
      rw [if_pos (by omega), if_pos (show in32 ((c : Int) * n - 1) by omega)]
      by_cases q2 : E ≤ v
      · rw [if_pos q2, if_pos (by omega), show (k : Int) + 1 = ((k + 1 : Nat) : Int) by omega]
      · rw [if_neg q2, if_neg (by omega), if_pos (by omega), nx_eq, show ((v : Int)).toNat = v by omega, show (v : Int) + 1 = ((v + 1 : Nat) : Int) by omega]
  induction d with
  | zero =>
    intro f v g e hf
    obtain ⟨f, rfl⟩ : ∃ g, f = g + 1 := ⟨f - 1, by omega⟩
    refine ⟨g, ?_, fun u q1 q2 => absurd q2 (by omega), fun _ _ _ => rfl⟩
    rw [st f v g (by omega), if_pos (by omega)]
  | succ d ih =>
    intro f v g e hf
    obtain ⟨f, rfl⟩ : ∃ g, f = g + 1 := ⟨f - 1, by omega⟩
    obtain ⟨g', a1, a2, a3⟩ := ih f (v + 1) (hup g 160 v 1) (by omega) (by omega)
    refine ⟨g', ?_, fun u q1 q2 => ?_, fun i u q => ?_⟩
    · rw [st f v g (by omega), if_neg (by omega)]
      exact a1
    · by_cases q : u = v
      · subst q; rw [a3 _ _ (by omega), hup_s]
      · exact a2 u (by omega) q2
    · rw [a3 _ _ (by omega), hup_n _ _ _ _ _ _ (by omega)]
/-- the marks that stand once the first K are seen -/
def bI (N : Nat) (lo hi n : Int) (W : Nat → Int) (K : Nat) (g : MH) : Prop := ∀ v : Nat, v < 10200 → (g 160 v = 0 ∨ g 160 v = 1) ∧ (g 160 v = 1 → ∃ k, k < N ∧ bdd lo hi W k ∧ ngh N n k v) ∧ ∀ k, k < K → bdd lo hi W k → ngh N n k v → g 160 v = 1
theorem bM {t N nn : Nat} {lo hi x7 : Int} {W : Nat → Int} (ht : t < 4) (hN : N ≤ 60) (hn : 1 ≤ nn ∧ nn ≤ 99) (hl : in32 lo) (hh : in32 hi) (hx : x7 = ((N : Int) - 1) * nn) : ∀ (d f K : Nat) (g : MH), K + d = N → d < f → (∀ k, k < N → in64 (W k) ∧ g 145 (60 * t + k) = W k) → bI N lo hi nn W K g →
    ∃ (e : Nat) (g' : MH), F_X12_brief_72 f (t : Int) (N : Int) (nn : Int) lo hi x7 (K : Int) g = F_X12_brief_72 (e + 1) (t : Int) (N : Int) (nn : Int) lo hi x7 (N : Int) g' ∧ bI N lo hi nn W N g' ∧ ∀ i u, ¬ (i = 160 ∧ u < 10200) → g' i u = g i u := by
  intro d
  induction d with
  | zero =>
    intro f K g e hf hW hI
    obtain ⟨f, rfl⟩ : ∃ g, f = g + 1 := ⟨f - 1, by omega⟩
    have : K = N := by omega
    subst this
    exact ⟨f, g, rfl, hI, fun _ _ _ => rfl⟩
  | succ d ih =>
    intro f K g e hf hW hI
    obtain ⟨f, rfl⟩ : ∃ g, f = g + 1 := ⟨f - 1, by omega⟩
    obtain ⟨w1, w2⟩ := hW K (by omega)
    have eK : (K : Int) + 1 = ((K + 1 : Nat) : Int) := by omega
    have s1 : F_X12_brief_72 (f + 1) (t : Int) (N : Int) (nn : Int) lo hi x7 (K : Int) g = if bdd lo hi W K then F_X12_brief_117 (F_X12_brief_72 f) 20000 (t : Int) (N : Int) (nn : Int) lo hi x7 (K : Int) (((K + 1 : Nat) : Int) - 1) g else F_X12_brief_72 f (t : Int) (N : Int) (nn : Int) lo hi x7 ((K + 1 : Nat) : Int) g := by
      rw [F_X12_brief_72]
      unfold F_X12_brief_113 F_X12_brief_245 ck
      rw [if_pos (by omega), if_pos (by omega), if_neg (by omega), if_pos (by omega), nx_eq, show (60 * (t : Int) + (K : Int)).toNat = 60 * t + K by omega, w2, if_pos hl, if_pos w1, eK, show ((K + 1 : Nat) : Int) - 1 = (K : Int) by omega]
      by_cases q1 : W K < lo
      · rw [if_pos q1, if_pos (by unfold bdd; omega)]
      · rw [if_neg q1, if_pos hh]
        by_cases q2 : hi < W K
        · rw [if_pos q2, if_pos (by unfold bdd; omega)]
        · rw [if_neg q2, if_neg (by unfold bdd; omega)]
    by_cases b : bdd lo hi W K
    · obtain ⟨a, a1, a2, a3, a4⟩ := bA (k := K) (n := (nn : Int)) (x7 := x7) (k72 := F_X12_brief_72 f) ht hN (by omega) hl hh hW (K + 1) 20000 (by omega) (by omega) (fun j q1 q2 => absurd q1 (by omega))
      obtain ⟨c, c1, c2, c3, c4⟩ := bB (k := K) (n := (nn : Int)) (x7 := x7) (a := a) (k72 := F_X12_brief_72 f) ht hN hl hh hW (N - K) 20000 K (by omega) (by omega) (by omega) (fun j q1 q2 => absurd q2 (by omega))
      have aK : a < (K : Int) := by
        rcases Int.lt_or_le a (K : Int) with q | q
        · exact q
        · exact absurd b (a4 K (by omega))
      have cK : K < c := by
        rcases Nat.lt_or_ge K c with q | q
        · exact q
        · have : c = K := by omega
          subst this
          exact absurd b (c4 (by omega))
      -- where the marks begin and end
      obtain ⟨s0, es⟩ : ∃ s0 : Nat, (s0 : Int) = if 0 ≤ a then a * nn + 1 else 0 := by
        by_cases q : 0 ≤ a
        · rw [if_pos q]
          have : 0 ≤ a * (nn : Int) := Int.mul_nonneg q (by omega)
          exact ⟨(a * nn + 1).toNat, by omega⟩
        · rw [if_neg q]; exact ⟨0, rfl⟩
      have m1 : ((N : Int) - 1) * nn ≤ 59 * 99 := Int.mul_le_mul (by omega) (by omega) (by omega) (by omega)
      have m0 : 0 ≤ ((N : Int) - 1) * nn := Int.mul_nonneg (by omega) (by omega)
      have mc : (c : Int) * nn ≤ (N : Int) * nn := mul_mono (by omega) (by omega)
      have mN : (N : Int) * nn = ((N : Int) - 1) * nn + nn := by rw [Int.sub_mul]; omega
      have mc0 : 0 ≤ (c : Int) * nn := Int.mul_nonneg (by omega) (by omega)
      have mc1 : c < N → (c : Int) * nn ≤ ((N : Int) - 1) * nn := fun q => mul_mono (by omega) (by omega)
      obtain ⟨E, eE⟩ : ∃ E : Nat, (E : Int) = (if c = N then x7 else (c : Int) * nn - 1) + 1 := by
        by_cases q : c = N
        · rw [if_pos q]; exact ⟨(x7 + 1).toNat, by omega⟩
        · rw [if_neg q]; exact ⟨((c : Int) * nn).toNat, by omega⟩
      have E1 : c = N → (E : Int) = x7 + 1 := fun q => by rw [if_pos q] at eE; exact eE
      have E2 : c < N → (E : Int) = (c : Int) * nn := fun q => by rw [if_neg (by omega)] at eE; omega
      have S1 : 0 ≤ a → (s0 : Int) = a * nn + 1 := fun q => by rw [if_pos q] at es; exact es
      have S2 : a < 0 → s0 = 0 := fun q => by rw [if_neg (by omega)] at es; omega
      have ak : (a + 1) * nn ≤ (K : Int) * nn := mul_mono (by omega) (by omega)
      have ak2 : (a + 1) * nn = a * nn + nn := by rw [Int.add_mul]; omega
      have kc : ((K : Int) + 1) * nn ≤ (c : Int) * nn := mul_mono (by omega) (by omega)
      have kc2 : ((K : Int) + 1) * nn = (K : Int) * nn + nn := by rw [Int.add_mul]; omega
      have kN : (K : Int) * nn ≤ ((N : Int) - 1) * nn := mul_mono (by omega) (by omega)
      have k0 : 0 ≤ (K : Int) * nn := Int.mul_nonneg (by omega) (by omega)
      have EL : E ≤ 10200 := by
        rcases Nat.lt_or_ge c N with q | q
        · have := E2 q; have := mc1 q; omega
        · have := E1 (by omega); omega
      have sE : s0 ≤ E := by
        rcases Int.lt_or_le a 0 with p | p
        · have := S2 p; omega
        · have := S1 p
          rcases Nat.lt_or_ge c N with q | q
          · have := E2 q; omega
          · have := E1 (by omega); omega
      obtain ⟨g1, d1, d2, d3⟩ := bC (t := t) (k := K) (lo := lo) (hi := hi) (k72 := F_X12_brief_72 f) hN (show c ≤ N by omega) eE EL (E - s0) 20000 s0 g (by omega) (by omega)
      have V : ∀ v : Nat, s0 ≤ v → v < E → ∃ k, k < N ∧ bdd lo hi W k ∧ ngh N nn k v := fun v q1 q2 => by
        have j1 := Nat.div_add_mod v nn
        have j2 := Nat.mod_lt v (show 0 < nn by omega)
        generalize v / nn = j at j1
        have j3 : (j : Int) * nn = ((nn * j : Nat) : Int) := by rw [Int.natCast_mul, Int.mul_comm]
        have vN : (v : Int) ≤ ((N : Int) - 1) * nn := by
          rcases Nat.lt_or_ge c N with q | q
          · have := E2 q; have := mc1 q; omega
          · have := E1 (by omega); omega
        by_cases p1 : a < (j : Int)
        · have p2 : j < c := by
            rcases Nat.lt_or_ge j c with p | p
            · exact p
            · exfalso
              have cj : (c : Int) * nn ≤ (j : Int) * nn := mul_mono (by omega) (by omega)
              rcases Nat.lt_or_ge c N with q | q
              · have := E2 q; omega
              · have : c = N := by omega
                subst this
                omega
          refine ⟨j, by omega, ?_, by unfold ngh; omega⟩
          by_cases p3 : j ≤ K
          · exact a3 j p1 p3
          · exact c3 j (by omega) p2
        · have p2 : 0 ≤ a := by omega
          have ja : ((j : Int) + 1) * nn ≤ (a + 1) * nn := mul_mono (by omega) (by omega)
          have ja2 : ((j : Int) + 1) * nn = (j : Int) * nn + nn := by rw [Int.add_mul]; omega
          obtain ⟨a', ea⟩ : ∃ a' : Nat, a + 1 = (a' : Int) := ⟨(a + 1).toNat, by omega⟩
          have := S1 p2
          refine ⟨a', by omega, a3 a' (by omega) (by omega), ?_⟩
          unfold ngh
          rw [← ea]
          omega
      have U : ∀ v : Nat, ngh N nn K v → s0 ≤ v ∧ v < E := fun v q => by
        unfold ngh at q
        constructor
        · rcases Int.lt_or_le a 0 with p | p
          · have := S2 p; omega
          · have := S1 p; omega
        · rcases Nat.lt_or_ge c N with p | p
          · have := E2 p; omega
          · have := E1 (by omega); omega
      obtain ⟨e', g', j1, j2, j3⟩ := ih f (K + 1) g1 (by omega) (by omega) (fun k hk => by rw [d3 _ _ (by omega)]; exact hW k hk) (fun v hv => by
        obtain ⟨i1, i2, i3⟩ := hI v hv
        by_cases q : s0 ≤ v ∧ v < E
        · have z := d2 v q.1 q.2
          exact ⟨Or.inr z, fun _ => V v q.1 q.2, fun _ _ _ _ => z⟩
        · rw [d3 160 v (by omega)]
          refine ⟨i1, i2, fun k hk hb hg => ?_⟩
          by_cases p : k = K
          · subst p; exact absurd (U v hg) q
          · exact i3 k (by omega) hb hg)
      refine ⟨e', g', ?_, j2, fun i u q => by rw [j3 i u q, d3 i u (by omega)]⟩
      rw [s1, if_pos b, a1, c1, ← j1, ← d1]
      unfold F_X12_brief_192 F_X12_brief_207 ck
      rw [if_pos (by omega)]
      by_cases q : 0 ≤ a
      · rw [if_pos q, S1 q]
      · rw [if_neg q, S2 (by omega)]
        rfl
    · obtain ⟨e', g', j1, j2, j3⟩ := ih f (K + 1) g (by omega) (by omega) hW (fun v hv => by
        obtain ⟨i1, i2, i3⟩ := hI v hv
        refine ⟨i1, i2, fun k hk hb => ?_⟩
        by_cases q : k = K
        · subst q; exact absurd hb b
        · exact i3 k (by omega) hb)
      exact ⟨e', g', by rw [s1, if_neg b]; exact j1, j2, j3⟩
theorem mct_st {m : Nat → Int} {a : Nat} {c : Int} : ∀ e, (∀ v, a ≤ v → v < a + e → m v = c) → mct m (a + e) = mct m a + e * c
  | 0, _ => by simp
  | e + 1, h => by
    have z := mct_st (m := m) (a := a) (c := c) e (fun v q1 q2 => h v q1 (by omega))
    rw [show a + (e + 1) = a + e + 1 from rfl, mct, z, h (a + e) (by omega) (by omega), show ((e + 1 : Nat) : Int) = (e : Int) + 1 by omega, Int.add_mul]
    omega
/-- the marks are just what the class counts -/
theorem bCnt {N nn : Nat} {lo hi : Int} {W : Nat → Int} {g : MH} (hN : N ≤ 60) (hn : 1 ≤ nn ∧ nn ≤ 99) (hI : bI N lo hi nn W N g) : ∀ k : Nat, k < N → mct (g 160) (nn * k + 1) = bq lo hi nn W (k + 1) := by
  have T1 : ∀ v : Nat, v < 10200 → (∃ k, k < N ∧ bdd lo hi W k ∧ ngh N nn k v) → g 160 v = 1 := fun v hv q => by
    obtain ⟨i1, i2, i3⟩ := hI v hv
    obtain ⟨k, q1, q2, q3⟩ := q
    exact i3 k q1 q2 q3
  have T0 : ∀ v : Nat, v < 10200 → ¬ (∃ k, k < N ∧ bdd lo hi W k ∧ ngh N nn k v) → g 160 v = 0 := fun v hv q => by
    obtain ⟨i1, i2, i3⟩ := hI v hv
    rcases i1 with p | p
    · exact p
    · exact absurd (i2 p) q
  have nk : ∀ k : Nat, ((nn * k : Nat) : Int) = (k : Int) * nn := fun k => by rw [Int.natCast_mul, Int.mul_comm]
  have kb : ∀ k : Nat, k < N → nn * k ≤ 99 * 59 := fun k hk => Nat.mul_le_mul (by omega) (by omega)
  have on : ∀ k : Nat, k < N → g 160 (nn * k) = if bdd lo hi W k then 1 else 0 := fun k hk => by
    have := kb k hk
    have hk2 : (k : Int) * nn ≤ ((N : Int) - 1) * nn := mul_mono (by omega) (by omega)
    by_cases b : bdd lo hi W k
    · rw [if_pos b, T1 _ (by omega) ⟨k, hk, b, by unfold ngh; rw [nk]; omega⟩]
    · rw [if_neg b]
      refine T0 _ (by omega) ?_
      rintro ⟨j, q1, q2, q3⟩
      unfold ngh at q3
      rw [nk] at q3
      have : j = k := by
        rcases Nat.lt_trichotomy j k with p | p | p
        · have z : ((j : Int) + 1) * nn ≤ (k : Int) * nn := mul_mono (by omega) (by omega)
          rw [Int.add_mul] at z; omega
        · exact p
        · have z : ((k : Int) + 1) * nn ≤ (j : Int) * nn := mul_mono (by omega) (by omega)
          rw [Int.add_mul] at z; omega
      subst this
      exact b q2
  intro k
  induction k with
  | zero =>
    intro hk
    have z := on 0 hk
    rw [Nat.mul_zero] at z
    rw [Nat.mul_zero, Nat.zero_add, mct, mct, bq, z]
    omega
  | succ k ih =>
    intro hk
    have z := ih (by omega)
    have := kb (k + 1) hk
    have e1 : nn * (k + 1) = nn * k + 1 + (nn - 1) := by rw [Nat.mul_succ]; omega
    have st := mct_st (m := g 160) (a := nn * k + 1) (c := if bdd lo hi W k ∨ bdd lo hi W (k + 1) then 1 else 0) (nn - 1) (fun v q1 q2 => by
      have hk2 : ((k : Int) + 1) * nn ≤ ((N : Int) - 1) * nn := mul_mono (by omega) (by omega)
      have hk3 : ((k : Int) + 1) * nn = (k : Int) * nn + nn := by rw [Int.add_mul]; omega
      have hk4 := nk k
      by_cases b : bdd lo hi W k ∨ bdd lo hi W (k + 1)
      · rw [if_pos b]
        refine T1 v (by omega) ?_
        rcases b with b | b
        · exact ⟨k, by omega, b, by unfold ngh; omega⟩
        · exact ⟨k + 1, by omega, b, by unfold ngh; rw [show ((k + 1 : Nat) : Int) = (k : Int) + 1 by omega]; omega⟩
      · rw [if_neg b]
        refine T0 v (by omega) ?_
        rintro ⟨j, p1, p2, p3⟩
        unfold ngh at p3
        have : j = k ∨ j = k + 1 := by
          rcases Nat.lt_trichotomy j k with p | p | p
          · have z : ((j : Int) + 1) * nn ≤ (k : Int) * nn := mul_mono (by omega) (by omega)
            rw [Int.add_mul] at z; omega
          · exact Or.inl p
          · rcases Nat.lt_or_ge (k + 1) j with p' | p'
            · have z : ((k : Int) + 2) * nn ≤ (j : Int) * nn := mul_mono (by omega) (by omega)
              rw [Int.add_mul] at z; omega
            · exact Or.inr (by omega)
        rcases this with rfl | rfl
        · exact b (Or.inl p2)
        · exact b (Or.inr p2))
    rw [mct, on (k + 1) hk, e1, st, z, bq]
    by_cases b : bdd lo hi W k ∨ bdd lo hi W (k + 1)
    · rw [if_pos b, if_pos b]; split <;> omega
    · rw [if_neg b, if_neg b]; split <;> omega
