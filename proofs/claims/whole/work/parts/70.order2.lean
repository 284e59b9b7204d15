/-! ===== order: the other's table ===== -/
/-- the other's plan of washes -/
def OO (n : Nat) (M : Nat → Int) (g : MH) : Prop := g 142 1 = (n : Int) ∧ ∀ a k, a < 7 → k < 7 → g 142 (140 + 7 * a + k) = wam M a k
def TS (n : Nat) (M : Nat → Int) (X : Nat) (g : MH) : Prop := ∀ S, S < X → ∀ a, a < n → (0 ≤ g 161 (7 * S + a) ∧ g 161 (7 * S + a) ≤ 1000000) ∧ (bt S a = false → g 161 (7 * S + a) = opt (wam M) n (pc S) S a)
def K161 (g g' : MH) : Prop := ∀ c k, c ≠ 161 → g' c k = g c k
theorem K161.tr {a b c : MH} (x : K161 a b) (y : K161 b c) : K161 a c := fun i k e => (y i k e).trans (x i k e)
theorem OO_n {n : Nat} {M : Nat → Int} {g g' : MH} (f : K161 g g') (o : OO n M g) : OO n M g' := ⟨by rw [f _ _ (by omega)]; exact o.1, fun a k ha hk => by rw [f _ _ (by omega)]; exact o.2 a k ha hk⟩
/-- one place of the table -/
theorem dp_in {n S a : Nat} {M : Nat → Int} {x1 x2 : Int} {k41 : Int → Int → Int → MH → Option (Int × MH)} {k57 : Int → Int → Int → Int → MH → Option (Int × MH)} (hn : n ≤ 7) (hM : ∀ i, i < 49 → -1 ≤ M i ∧ M i ≤ 999) (hS : S < 128) (hS2 : S < 2 ^ n) (ha : a < n) : ∀ (d k fu : Nat) (g : MH), k + d = n → d < fu → OO n M g → TS n M S g → (0 ≤ g 161 (7 * S + a) ∧ g 161 (7 * S + a) ≤ 1000000) →
    (bt S a = false → S ≠ 0 → g 161 (7 * S + a) = mnf (fun k => wam M a k + opt (wam M) n (pc S - 1) (dl S k) k) (bt S) k) →
    ∃ g', F_X12_order_96 k41 k57 fu x1 x2 (S : Int) (a : Int) (k : Int) g = k57 x1 x2 (S : Int) ((a + 1 : Nat) : Int) g' ∧ (∀ c i, ¬ (c = 161 ∧ i = 7 * S + a) → g' c i = g c i) ∧ (0 ≤ g' 161 (7 * S + a) ∧ g' 161 (7 * S + a) ≤ 1000000) ∧ (S = 0 → g' 161 (7 * S + a) = g 161 (7 * S + a)) ∧
      (bt S a = false → S ≠ 0 → g' 161 (7 * S + a) = mnf (fun k => wam M a k + opt (wam M) n (pc S - 1) (dl S k) k) (bt S) n) := by
  intro d
  induction d with
  | zero =>
    intro k fu g e hf o t b i
    obtain ⟨fu, rfl⟩ : ∃ g, fu = g + 1 := ⟨fu - 1, by omega⟩
    have : k = n := by omega
    subst this
    have o1 := o.1
    refine ⟨g, ?_, fun _ _ _ => rfl, b, fun _ => rfl, i⟩
    rw [F_X12_order_96]
    unfold ck
    rw [if_pos (by omega), if_pos (by omega), if_pos (by omega), show (a : Int) + 1 = ((a + 1 : Nat) : Int) by omega]
  | succ d ih =>
    intro k fu g e hf o t b i
    obtain ⟨fu, rfl⟩ : ∃ g, fu = g + 1 := ⟨fu - 1, by omega⟩
    have o1 := o.1
    have o2 := o.2 a k (by omega) (by omega)
    have w := wam_b hM a k (by omega) (by omega)
    have bk := st_bit S hS k (by omega)
    obtain ⟨x1', x2'⟩ := st_lt S hS k (by omega)
    have st0 : F_X12_order_96 k41 k57 (fu + 1) x1 x2 (S : Int) (a : Int) (k : Int) g = if bt S k = true then (if k = a then F_X12_order_96 k41 k57 fu x1 x2 (S : Int) (a : Int) ((k + 1 : Nat) : Int) g else ck (in32 (wam M a k + g 161 (7 * dl S k + k))) (F_X12_order_96 k41 k57 fu x1 x2 (S : Int) (a : Int) ((k + 1 : Nat) : Int) (hup g 161 (7 * S + a) (min (g 161 (7 * S + a)) (wam M a k + g 161 (7 * dl S k + k)))))) else F_X12_order_96 k41 k57 fu x1 x2 (S : Int) (a : Int) ((k + 1 : Nat) : Int) g := by
      rw [F_X12_order_96]
      unfold F_X12_order_191 ck
      rw [if_pos (by omega), if_pos (by omega), if_neg (by omega), bk, show (k : Int) + 1 = ((k + 1 : Nat) : Int) by omega]
      by_cases q : bt S k = true
      · rw [if_pos q, if_pos (by omega), if_neg (by omega), if_pos (by omega), if_pos q]
        by_cases q2 : k = a
        · rw [if_pos (by omega), if_pos q2]
        · rw [if_neg (by omega), if_neg q2, st_dl S hS k (by omega), if_pos (by omega), if_pos (by omega), if_pos (by omega), show (7 * (S : Int) + (a : Int)).toNat = 7 * S + a by omega, show (140 + 7 * (a : Int) + (k : Int)).toNat = 140 + 7 * a + k by omega, show (7 * ((dl S k : Nat) : Int) + (k : Int)).toNat = 7 * dl S k + k by omega, o2, if_pos (by omega), nx_eq]
      · rw [if_neg q, if_pos (by omega), if_pos (by omega), if_neg q]
    by_cases q : bt S k = true
    rotate_left
    · rw [st0, if_neg q]
      exact ih (k + 1) fu g (by omega) (by omega) o t b (fun w1 w2 => by rw [mnf, if_neg q]; exact i w1 w2)
    by_cases q2 : k = a
    · subst q2
      rw [st0, if_pos q, if_pos rfl]
      exact ih (k + 1) fu g (by omega) (by omega) o t b (fun w1 => absurd q (by rw [w1]; decide))
    · obtain ⟨y1, y2, y3⟩ := x2' q
      obtain ⟨z1, z2⟩ := t (dl S k) y1 k (by omega)
      have z3 := z2 y3
      rw [show pc (dl S k) = pc S - 1 by omega] at z3
      have K : ∀ c j, ¬ (c = 161 ∧ j = 7 * S + a) → hup g 161 (7 * S + a) (min (g 161 (7 * S + a)) (wam M a k + g 161 (7 * dl S k + k))) c j = g c j := fun c j w => hup_n _ _ _ _ _ _ w
      obtain ⟨g', a1, a2, a3, a4, a5⟩ := ih (k + 1) fu (hup g 161 (7 * S + a) (min (g 161 (7 * S + a)) (wam M a k + g 161 (7 * dl S k + k)))) (by omega) (by omega) (OO_n (fun c j w => K c j (by omega)) o) (fun S' w1 a' w2 => by rw [K _ _ (by omega)]; exact t S' w1 a' w2) (by rw [hup_s]; omega) (fun w1 w2 => by
        rw [hup_s, mnf, if_pos q, i w1 w2, z3])
      refine ⟨g', ?_, fun c j w => by rw [a2 c j w, K c j w], a3, fun w => absurd w (fun e => by omega), a5⟩
      rw [st0, if_pos q, if_neg q2]
      unfold ck
      rw [if_pos (by omega)]
      exact a1
/-- a row of the table -/
theorem dp_row {n S : Nat} {M : Nat → Int} {x1 x2 : Int} {k41 : Int → Int → Int → MH → Option (Int × MH)} (hn : n ≤ 7) (hM : ∀ i, i < 49 → -1 ≤ M i ∧ M i ≤ 999) (hS : S < 128) (hS2 : S < 2 ^ n) : ∀ (d a fu : Nat) (g : MH), a + d = n → d < fu → OO n M g → TS n M S g → (∀ b, b < a → (0 ≤ g 161 (7 * S + b) ∧ g 161 (7 * S + b) ≤ 1000000) ∧ (bt S b = false → g 161 (7 * S + b) = opt (wam M) n (pc S) S b)) →
    ∃ g', F_X12_order_57 k41 fu x1 x2 (S : Int) (a : Int) g = k41 x1 x2 ((S + 1 : Nat) : Int) g' ∧ K161 g g' ∧ TS n M (S + 1) g' := by
  intro d
  induction d with
  | zero =>
    intro a fu g e hf o t i
    obtain ⟨fu, rfl⟩ : ∃ g, fu = g + 1 := ⟨fu - 1, by omega⟩
    have o1 := o.1
    refine ⟨g, ?_, fun _ _ _ => rfl, fun S' w1 b w2 => ?_⟩
    · rw [F_X12_order_57]
      unfold ck
      rw [if_pos (by omega), if_pos (by omega), if_pos (by omega), show (S : Int) + 1 = ((S + 1 : Nat) : Int) by omega]
    · by_cases q : S' = S
      · subst q; exact i b (by omega)
      · exact t S' (by omega) b w2
  | succ d ih =>
    intro a fu g e hf o t i
    obtain ⟨fu, rfl⟩ : ∃ g, fu = g + 1 := ⟨fu - 1, by omega⟩
    have o1 := o.1
    obtain ⟨v, ev⟩ : ∃ v : Int, v = if S = 0 then 0 else 1000000 := ⟨_, rfl⟩
    have vb : 0 ≤ v ∧ v ≤ 1000000 := by rw [ev]; split <;> omega
    have K : ∀ c j, ¬ (c = 161 ∧ j = 7 * S + a) → hup g 161 (7 * S + a) v c j = g c j := fun c j w => hup_n _ _ _ _ _ _ w
    obtain ⟨g1, a1, a2, a3, a4, a5⟩ := dp_in (x1 := x1) (x2 := x2) (k41 := k41) (k57 := F_X12_order_57 k41 fu) hn hM hS hS2 (show a < n by omega) n 0 20000 (hup g 161 (7 * S + a) v) (by omega) (by omega) (OO_n (fun c j w => K c j (by omega)) o) (fun S' w1 a' w2 => by rw [K _ _ (by omega)]; exact t S' w1 a' w2) (by rw [hup_s]; exact vb) (fun _ w => by rw [hup_s, mnf, ev, if_neg w])
    have L : ∀ c j, ¬ (c = 161 ∧ j = 7 * S + a) → g1 c j = g c j := fun c j w => by rw [a2 c j w, K c j w]
    obtain ⟨g', b1, b2, b3⟩ := ih (a + 1) fu g1 (by omega) (by omega) (OO_n (fun c j w => L c j (by omega)) o) (fun S' w1 a' w2 => by rw [L _ _ (by omega)]; exact t S' w1 a' w2) (fun b hb => by
      by_cases q : b = a
      · subst q
        refine ⟨a3, fun w => ?_⟩
        by_cases q2 : S = 0
        · have p0 : pc 0 = 0 := rfl
          rw [a4 q2, hup_s, ev, if_pos q2, q2, p0, opt]
        · obtain ⟨r, er⟩ : ∃ r, pc S = r + 1 := ⟨pc S - 1, by
            have := (st_pc S hS).1
            rcases Nat.eq_zero_or_pos (pc S) with z | z
            · exact absurd (this z) q2
            · omega⟩
          rw [a5 w q2, er, opt, Nat.add_sub_cancel]
      · rw [L _ _ (by omega)]; exact i b (by omega))
    refine ⟨g', ?_, fun c j w => by rw [b2 c j w, L c j (by omega)], b3⟩
    rw [← b1, ← a1, F_X12_order_57]
    unfold F_X12_order_92 ck
    rw [if_pos (by omega), if_pos (by omega), if_neg (by omega), if_pos (by omega), show (7 * (S : Int) + (a : Int)).toNat = 7 * S + a by omega]
    by_cases q : S = 0
    · rw [if_neg (by omega), if_pos (by omega), nx_eq, ev, if_pos q]; rfl
    · rw [if_pos (by omega), if_pos (by omega), nx_eq, ev, if_neg q]; rfl
