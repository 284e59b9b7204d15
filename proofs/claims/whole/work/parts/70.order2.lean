/-! ===== order: the other's table ===== -/
/-- the other's plan of washes -/
def OO (n : Nat) (M : Nat → Int) (g : MH) : Prop := g 142 1 = (n : Int) ∧ ∀ a k, a < 7 → k < 7 → g 142 (140 + 7 * a + k) = wam M a k
def TS (n : Nat) (M : Nat → Int) (X : Nat) (g : MH) : Prop := ∀ S, S < X → ∀ a, a < n → (0 ≤ g 161 (7 * S + a) ∧ g 161 (7 * S + a) ≤ 1000000) ∧ (bt S a = false → g 161 (7 * S + a) = opt (wam M) n (pc S) S a)
def K161 (g g' : MH) : Prop := ∀ c k, c ≠ 161 → g' c k = g c k
theorem K161.tr {a b c : MH} (x : K161 a b) (y : K161 b c) : K161 a c := fun i k e => (y i k e).trans (x i k e)
theorem OO_n {n : Nat} {M : Nat → Int} {g g' : MH} (f : K161 g g') (o : OO n M g) : OO n M g' := ⟨by rw [f _ _ (by omega)]; exact o.1, fun a k ha hk => by rw [f _ _ (by omega)]; exact o.2 a k ha hk⟩
/-- one place of the table -/
theorem dp_in {n S a : Nat} {M : Nat → Int} {x1 x2 : Int} {k41 : Int → Int → Int → MH → Option (Int × MH)} {k57 : Int → Int → Int → Int → MH → Option (Int × MH)} (hn : n ≤ 7) (hM : ∀ i, i < 49 → -1 ≤ M i ∧ M i ≤ 999) (hS : S < 128) (hS2 : S < 2 ^ n) (ha : a < n) : ∀ (d k fu : Nat) (g : MH), k + d = n → d < fu → OO n M g → TS n M S g → (0 ≤ g 161 (7 * S + a) ∧ g 161 (7 * S + a) ≤ 1000000) →
    (bt S a = false → S ≠ 0 → g 161 (7 * S + a) = mnf (fun k => wam M a k + opt (wam M) n (pc S - 1) (dl S k) k) (bt S) k) →
    ∃ g', F_X12_order_96 k41 k57 fu x1 x2 (S : Int) (a : Int) (k : Int) g = k57 x1 x2 (S : Int) ((a + 1 : Nat) : Int) g' ∧ (∀ c i, ¬ (c = 161 ∧ i = 7 * S + a) → g' c i = g c i) ∧ (0 ≤ g' 161 (7 * S + a) ∧ g' 161 (7 * S + a) ≤ 1000000) ∧ (S = 0 → g' 161 (7 * S + a) = g 161 (7 * S + a)) ∧
      (bt S a = false → S ≠ 0 → g' 161 (7 * S + a) = mnf (fun k => wam M a k + opt (wam M) n (pc S - 1) (dl S k) k) (bt S) n) := by
  intro d
  induction d with
  | zero =>
    intro k fu g e hf o t b i
    obtain ⟨fu, rfl⟩ : ∃ g, fu = g + 1 := ⟨fu - 1, by omega⟩
    have : k = n := by omega
    subst this
    have o1 := o.1
    refine ⟨g, ?_, fun _ _ _ => rfl, b, fun _ => rfl, i⟩
    rw [F_X12_order_96]
    unfold ck
    rw [if_pos (by omega), if_pos (by omega), if_pos (by omega), show (a : Int) + 1 = ((a + 1 : Nat) : Int) by omega]
  | succ d ih =>
    intro k fu g e hf o t b i
    obtain ⟨fu, rfl⟩ : ∃ g, fu = g + 1 := ⟨fu - 1, by omega⟩
    have o1 := o.1
    have o2 := o.2 a k (by omega) (by omega)
    have w := wam_b hM a k (by omega) (by omega)
    have bk := st_bit S hS k (by omega)
    obtain ⟨x1', x2'⟩ := st_lt S hS k (by omega)
    have st0 : F_X12_order_96 k41 k57 (fu + 1) x1 x2 (S : Int) (a : Int) (k : Int) g = if bt S k = true then (if k = a then F_X12_order_96 k41 k57 fu x1 x2 (S : Int) (a : Int) ((k + 1 : Nat) : Int) g else ck (in32 (wam M a k + g 161 (7 * dl S k + k))) (F_X12_order_96 k41 k57 fu x1 x2 (S : Int) (a : Int) ((k + 1 : Nat) : Int) (hup g 161 (7 * S + a) (min (g 161 (7 * S + a)) (wam M a k + g 161 (7 * dl S k + k)))))) else F_X12_order_96 k41 k57 fu x1 x2 (S : Int) (a : Int) ((k + 1 : Nat) : Int) g := by
      rw [F_X12_order_96]
      unfold F_X12_order_191 ck
      rw [if_pos (by omega), if_pos (by omega), if_neg (by omega), bk, show (k : Int) + 1 = ((k + 1 : Nat) : Int) by omega]
      by_cases q : bt S k = true
      · rw [if_pos q, if_pos (by omega), if_neg (by omega), if_pos (by omega), if_pos q]
        by_cases q2 : k = a
        · rw [if_pos (by omega), if_pos q2]
        · rw [if_neg (by omega), if_neg q2, st_dl S hS k (by omega), if_pos (by omega), if_pos (by omega), if_pos (by omega), show (7 * (S : Int) + (a : Int)).toNat = 7 * S + a by omega, show (140 + 7 * (a : Int) + (k : Int)).toNat = 140 + 7 * a + k by omega, show (7 * ((dl S k : Nat) : Int) + (k : Int)).toNat = 7 * dl S k + k by omega, o2, if_pos (by omega), nx_eq]
      · rw [if_neg q, if_pos (by omega), if_pos (by omega), if_neg q]
    by_cases q : bt S k = true
    rotate_left
    · rw [st0, if_neg q]
      exact ih (k + 1) fu g (by omega) (by omega) o t b (fun w1 w2 => by rw [mnf, if_neg q]; exact i w1 w2)
    by_cases q2 : k = a
    · subst q2
      rw [st0, if_pos q, if_pos rfl]
      exact ih (k + 1) fu g (by omega) (by omega) o t b (fun w1 => absurd q (by rw [w1]; decide))
    · obtain ⟨y1, y2, y3⟩ := x2' q
      obtain ⟨z1, z2⟩ := t (dl S k) y1 k (by omega)
      have z3 := z2 y3
      rw [show pc (dl S k) = pc S - 1 by omega] at z3
      have K : ∀ c j, ¬ (c = 161 ∧ j = 7 * S + a) → hup g 161 (7 * S + a) (min (g 161 (7 * S + a)) (wam M a k + g 161 (7 * dl S k + k))) c j = g c j := fun c j w => hup_n _ _ _ _ _ _ w
      obtain ⟨g', a1, a2, a3, a4, a5⟩ := ih (k + 1) fu (hup g 161 (7 * S + a) (min (g 161 (7 * S + a)) (wam M a k + g 161 (7 * dl S k + k)))) (by omega) (by omega) (OO_n (fun c j w => K c j (by omega)) o) (fun S' w1 a' w2 => by rw [K _ _ (by omega)]; exact t S' w1 a' w2) (by rw [hup_s]; omega) (fun w1 w2 => by
        rw [hup_s, mnf, if_pos q, i w1 w2, z3])
      refine ⟨g', ?_, fun c j w => by rw [a2 c j w, K c j w], a3, fun w => absurd w (fun e => by omega), a5⟩
      rw [st0, if_pos q, if_neg q2]
      unfold ck
      rw [if_pos (by omega)]
      exact a1
/-- a row of the table -/
theorem dp_row {n S : Nat} {M : Nat → Int} {x1 x2 : Int} {k41 : Int → Int → Int → MH → Option (Int × MH)} (hn : n ≤ 7) (hM : ∀ i, i < 49 → -1 ≤ M i ∧ M i ≤ 999) (hS : S < 128) (hS2 : S < 2 ^ n) : ∀ (d a fu : Nat) (g : MH), a + d = n → d < fu → OO n M g → TS n M S g → (∀ b, b < a → (0 ≤ g 161 (7 * S + b) ∧ g 161 (7 * S + b) ≤ 1000000) ∧ (bt S b = false → g 161 (7 * S + b) = opt (wam M) n (pc S) S b)) →
    ∃ g', F_X12_order_57 k41 fu x1 x2 (S : Int) (a : Int) g = k41 x1 x2 ((S + 1 : Nat) : Int) g' ∧ K161 g g' ∧ TS n M (S + 1) g' := by
  intro d
  induction d with
  | zero =>
    intro a fu g e hf o t i
    obtain ⟨fu, rfl⟩ : ∃ g, fu = g + 1 := ⟨fu - 1, by omega⟩
    have o1 := o.1
    refine ⟨g, ?_, fun _ _ _ => rfl, fun S' w1 b w2 => ?_⟩
    · rw [F_X12_order_57]
      unfold ck
      rw [if_pos (by omega), if_pos (by omega), if_pos (by omega), show (S : Int) + 1 = ((S + 1 : Nat) : Int) by omega]
    · by_cases q : S' = S
      · subst q; exact i b (by omega)
      · exact t S' (by omega) b w2
  | succ d ih =>
    intro a fu g e hf o t i
    obtain ⟨fu, rfl⟩ : ∃ g, fu = g + 1 := ⟨fu - 1, by omega⟩
    have o1 := o.1
    obtain ⟨v, ev⟩ : ∃ v : Int, v = if S = 0 then 0 else 1000000 := ⟨_, rfl⟩
    have vb : 0 ≤ v ∧ v ≤ 1000000 := by rw [ev]; split <;> omega
    have K : ∀ c j, ¬ (c = 161 ∧ j = 7 * S + a) → hup g 161 (7 * S + a) v c j = g c j := fun c j w => hup_n _ _ _ _ _ _ w
    obtain ⟨g1, a1, a2, a3, a4, a5⟩ := dp_in (x1 := x1) (x2 := x2) (k41 := k41) (k57 := F_X12_order_57 k41 fu) hn hM hS hS2 (show a < n by omega) n 0 20000 (hup g 161 (7 * S + a) v) (by omega) (by omega) (OO_n (fun c j w => K c j (by omega)) o) (fun S' w1 a' w2 => by rw [K _ _ (by omega)]; exact t S' w1 a' w2) (by rw [hup_s]; exact vb) (fun _ w => by rw [hup_s, mnf, ev, if_neg w])
    have L : ∀ c j, ¬ (c = 161 ∧ j = 7 * S + a) → g1 c j = g c j := fun c j w => by rw [a2 c j w, K c j w]
    obtain ⟨g', b1, b2, b3⟩ := ih (a + 1) fu g1 (by omega) (by omega) (OO_n (fun c j w => L c j (by omega)) o) (fun S' w1 a' w2 => by rw [L _ _ (by omega)]; exact t S' w1 a' w2) (fun b hb => by
      by_cases q : b = a
      · subst q
        refine ⟨a3, fun w => ?_⟩
        by_cases q2 : S = 0
        · have p0 : pc 0 = 0 := rfl
          rw [a4 q2, hup_s, ev, if_pos q2, q2, p0, opt]
        · obtain ⟨r, er⟩ : ∃ r, pc S = r + 1 := ⟨pc S - 1, by
            have := (st_pc S hS).1
            rcases Nat.eq_zero_or_pos (pc S) with z | z
            · exact absurd (this z) q2
            · omega⟩
          rw [a5 w q2, er, opt, Nat.add_sub_cancel]
      · rw [L _ _ (by omega)]; exact i b (by omega))
    refine ⟨g', ?_, fun c j w => by rw [b2 c j w, L c j (by omega)], b3⟩
    rw [← b1, ← a1, F_X12_order_57]
    unfold F_X12_order_92 ck
    rw [if_pos (by omega), if_pos (by omega), if_neg (by omega), if_pos (by omega), show (7 * (S : Int) + (a : Int)).toNat = 7 * S + a by omega]
    by_cases q : S = 0
    · rw [if_neg (by omega), if_pos (by omega), nx_eq, ev, if_pos q]; rfl
    · rw [if_pos (by omega), if_pos (by omega), nx_eq, ev, if_neg q]; rfl
/-- the whole table -/
theorem dp_all {n : Nat} {M : Nat → Int} {x1 x2 : Int} (hn : n ≤ 7) (hM : ∀ i, i < 49 → -1 ≤ M i ∧ M i ≤ 999) : ∀ (d S fu : Nat) (g : MH), S + d = 2 ^ n → d < fu → OO n M g → TS n M S g →
    ∃ (e : Nat) (g' : MH), F_X12_order_41 fu x1 x2 (S : Int) g = F_X12_order_41 (e + 1) x1 x2 ((2 ^ n : Nat) : Int) g' ∧ K161 g g' ∧ TS n M (2 ^ n) g' := by
  have h128 : 2 ^ n ≤ 128 := by
    have : 2 ^ n ≤ 2 ^ 7 := Nat.pow_le_pow_right (by omega) hn
    omega
  intro d
  induction d with
  | zero =>
    intro S fu g e hf o t
    obtain ⟨fu, rfl⟩ : ∃ g, fu = g + 1 := ⟨fu - 1, by omega⟩
    have es : S = 2 ^ n := by omega
    rw [es] at t ⊢
    exact ⟨fu, g, rfl, fun _ _ _ => rfl, t⟩
  | succ d ih =>
    intro S fu g e hf o t
    obtain ⟨fu, rfl⟩ : ∃ g, fu = g + 1 := ⟨fu - 1, by omega⟩
    have o1 := o.1
    obtain ⟨g1, a1, a2, a3⟩ := dp_row (x1 := x1) (x2 := x2) (k41 := F_X12_order_41 fu) hn hM (show S < 128 by omega) (by omega) n 0 20000 g (by omega) (by omega) o t (fun b hb => absurd hb (by omega))
    obtain ⟨e', g', b1, b2, b3⟩ := ih (S + 1) fu g1 (by omega) (by omega) (OO_n a2 o) a3
    refine ⟨e', g', ?_, a2.tr b2, b3⟩
    have sh := st_sh n (by omega)
    rw [← b1, ← a1, F_X12_order_41]
    unfold ck
    rw [if_pos (by omega), o1, sh, if_pos (by omega), if_neg (by omega)]
    rfl
theorem bits_l : ∀ (d S f : Nat) (acc : Int) (g : MH), pc S ≤ d → S < 128 → d < f → F_X12_bits_4 f acc (S : Int) g = some (acc + pc S, g) := by
  intro d
  induction d with
  | zero =>
    intro S f acc g h1 h2 hf
    obtain ⟨f, rfl⟩ : ∃ g, f = g + 1 := ⟨f - 1, by omega⟩
    have s0 : S = 0 := (st_pc S h2).1 (by omega)
    subst s0
    rw [F_X12_bits_4]
    unfold ck
    rw [if_pos (by omega), if_pos (by omega), show pc 0 = 0 from rfl]
    simp
  | succ d ih =>
    intro S f acc g h1 h2 hf
    obtain ⟨f, rfl⟩ : ∃ g, f = g + 1 := ⟨f - 1, by omega⟩
    rw [F_X12_bits_4]
    unfold ck
    rw [if_pos (by omega)]
    by_cases q : S = 0
    · subst q
      rw [if_pos (by omega), show pc 0 = 0 from rfl]
      simp
    · obtain ⟨T, t1, t2, t3⟩ := st_lo S h2 q
      rw [if_neg (by omega), nx_eq, t2, ih T f (acc + 1) g (by omega) (by omega) (by omega)]
      exact congrArg some (Prod.ext (by dsimp only; omega) rfl)
/-- the other reads the way from the table -/
theorem rd_1 {n S a i : Nat} {M : Nat → Int} {x4 : Int} {k248 : Int → Int → Int → MH → Option (Int × MH)} {g : MH} (hn : n ≤ 7) (hM : ∀ i, i < 49 → -1 ≤ M i ∧ M i ≤ 999) (hS : S < 128) (hS2 : S < 2 ^ n) (ha : a < n) (hi : i < 7) (r : Nat) (hr : pc S = r + 1) (hba : bt S a = false) (o : OO n M g) (t : TS n M (2 ^ n) g) (f : Nat → Int) (hf : f = fun k => wam M a k + opt (wam M) n r (dl S k) k) (hk : bt S (af f (bt S) n) = true ∧ af f (bt S) n < n ∧ f (af f (bt S) n) = mnf f (bt S) n) (hj : ∀ j, j < af f (bt S) n → j < n ∧ (bt S j = true → mnf f (bt S) n < f j)) : ∀ (d k fu : Nat), k + d = af f (bt S) n → d < fu →
    F_X12_order_271 k248 fu (S : Int) x4 (i : Int) (a : Int) (k : Int) g = k248 ((dl S (af f (bt S) n) : Nat) : Int) x4 ((i + 1 : Nat) : Int) (hup g 162 i (af f (bt S) n : Int)) := by
  have E : ∀ k, k < n → bt S k = true → (0 ≤ g 161 (7 * dl S k + k) ∧ g 161 (7 * dl S k + k) ≤ 1000000) ∧ g 142 (140 + 7 * a + k) + g 161 (7 * dl S k + k) = f k := fun k hk p => by
    obtain ⟨x1, x2⟩ := st_lt S hS k (by omega)
    obtain ⟨y1, y2, y3⟩ := x2 p
    obtain ⟨z1, z2⟩ := t (dl S k) (by omega) k hk
    refine ⟨z1, ?_⟩
    rw [o.2 a k (by omega) (by omega), z2 y3, show pc (dl S k) = r by omega, hf]
  obtain ⟨b1, b2⟩ := t S hS2 a ha
  have b3 := b2 hba
  rw [hr, opt, ← hf] at b3
  have st : ∀ (k fu : Nat), k < n → F_X12_order_271 k248 (fu + 1) (S : Int) x4 (i : Int) (a : Int) (k : Int) g = if bt S k = true ∧ f k = mnf f (bt S) n then k248 ((dl S k : Nat) : Int) x4 ((i + 1 : Nat) : Int) (hup g 162 i (k : Int)) else F_X12_order_271 k248 fu (S : Int) x4 (i : Int) (a : Int) ((k + 1 : Nat) : Int) g := fun k fu hk => by
    have bk := st_bit S hS k (by omega)
    have dk := st_lt S hS k (by omega)
    have w := wam_b hM a k (by omega) (by omega)
    rw [F_X12_order_271]
    unfold F_X12_order_335 ck
    rw [bk, st_dl S hS k (by omega), show (k : Int) + 1 = ((k + 1 : Nat) : Int) by omega]
    by_cases q : bt S k = true
    · obtain ⟨e1, e2⟩ := E k hk q
      have ow := o.2 a k (by omega) (by omega)
      rw [if_pos q, if_pos (by omega), if_neg (by omega), if_pos (by omega), if_pos (by omega), show (140 + 7 * (a : Int) + (k : Int)).toNat = 140 + 7 * a + k by omega, show (7 * ((dl S k : Nat) : Int) + (k : Int)).toNat = 7 * dl S k + k by omega, show (7 * (S : Int) + (a : Int)).toNat = 7 * S + a by omega, if_pos (by omega), if_pos (by omega), if_pos (by omega), if_pos (by omega), e2, b3]
      by_cases q2 : f k = mnf f (bt S) n
      · rw [if_pos q2, if_pos (show bt S k = true ∧ f k = mnf f (bt S) n from ⟨q, q2⟩), if_pos (by omega), nx_eq, nx_eq, show ((i : Int)).toNat = i by omega, show (i : Int) + 1 = ((i + 1 : Nat) : Int) by omega]
      · rw [if_neg q2, if_neg (fun x => q2 x.2)]
    · rw [if_neg q, if_pos (by omega), if_pos rfl, if_neg (fun x => q x.1)]
  intro d
  induction d with
  | zero =>
    intro k fu e hfu
    obtain ⟨fu, rfl⟩ : ∃ g, fu = g + 1 := ⟨fu - 1, by omega⟩
    have ek : k = af f (bt S) n := by omega
    rw [st k fu (by omega), ek, if_pos ⟨hk.1, hk.2.2⟩]
  | succ d ih =>
    intro k fu e hfu
    obtain ⟨fu, rfl⟩ : ∃ g, fu = g + 1 := ⟨fu - 1, by omega⟩
    obtain ⟨j1, j2⟩ := hj k (by omega)
    rw [st k fu j1, if_neg (fun x => by have := j2 x.1; omega)]
    exact ih (k + 1) fu (by omega) (by omega)
theorem rd_l {n len : Nat} {M : Nat → Int} {x4 : Int} (hn : n ≤ 7) (hl : len ≤ 7) (hx : in32 x4) (hM : ∀ i, i < 49 → -1 ≤ M i ∧ M i ≤ 999) : ∀ (r S a i fu : Nat) (g : MH), pc S = r → S < 128 → S < 2 ^ n → a < n → bt S a = false → i + r = len → 1 ≤ i → r < fu → OO n M g → TS n M (2 ^ n) g → g 162 (i - 1) = (a : Int) → g 141 45 = (len : Int) →
    ∃ g', F_X12_order_248 fu (S : Int) x4 (i : Int) g = some (x4, hup g' 141 1 0) ∧ (∀ j, j < r → g' 162 (i + j) = (pt (wam M) n r S a j : Int)) ∧ ∀ c k, ¬ (c = 162 ∧ i ≤ k) → g' c k = g c k := by
  intro r
  induction r with
  | zero =>
    intro S a i fu g p1 p2 p3 p4 p5 p6 p7 p8 o t w1 w2
    obtain ⟨fu, rfl⟩ : ∃ g, fu = g + 1 := ⟨fu - 1, by omega⟩
    refine ⟨g, ?_, fun j hj => absurd hj (by omega), fun _ _ _ => rfl⟩
    rw [F_X12_order_248]
    unfold F_X12_gives F_X12_gives_0 ck
    rw [if_pos (by omega), if_pos (by omega), if_pos (by omega), if_pos hx, nx_eq, bind_eq]
  | succ r ih =>
    intro S a i fu g p1 p2 p3 p4 p5 p6 p7 p8 o t w1 w2
    obtain ⟨fu, rfl⟩ : ∃ g, fu = g + 1 := ⟨fu - 1, by omega⟩
    generalize hf : (fun k => wam M a k + opt (wam M) n r (dl S k) k) = f
    have ob := opt_b hn (wam_b hM) (r + 1) S a p3 p2 p1 (by omega)
    rw [opt, hf] at ob
    obtain ⟨s1, s2⟩ := af_spec (f := f) (P := bt S) n
    have s3 := s1.resolve_left (by have := (st_pc S p2).2; omega)
    have ht := rd_1 (x4 := x4) (k248 := F_X12_order_248 fu) hn hM p2 p3 p4 (show i < 7 by omega) r p1 p5 o t f hf.symm s3 s2 (af f (bt S) n) 0 20000 (by omega) (by omega)
    obtain ⟨x1, x2⟩ := st_lt S p2 (af f (bt S) n) (by omega)
    obtain ⟨y1, y2, y3⟩ := x2 s3.1
    have K : ∀ c k, ¬ (c = 162 ∧ k = i) → hup g 162 i (af f (bt S) n : Int) c k = g c k := fun c k w => hup_n _ _ _ _ _ _ w
    obtain ⟨g', a1, a2, a3⟩ := ih (dl S (af f (bt S) n)) (af f (bt S) n) (i + 1) fu (hup g 162 i (af f (bt S) n : Int)) (by omega) x1 (by omega) s3.2.1 y3 (by omega) (by omega) (by omega) ⟨by rw [K _ _ (by omega)]; exact o.1, fun b k hb hk => by rw [K _ _ (by omega)]; exact o.2 b k hb hk⟩ (fun S' q1 b q2 => by rw [K _ _ (by omega)]; exact t S' q1 b q2) (by rw [show i + 1 - 1 = i by omega, hup_s]) (by rw [K _ _ (by omega)]; exact w2)
    refine ⟨g', ?_, fun j hj => ?_, fun c k q => by rw [a3 c k (by omega), K c k (by omega)]⟩
    · rw [← a1, ← ht, F_X12_order_248]
      unfold ck
      rw [if_pos (by omega), if_pos (by omega), if_neg (by omega), if_pos (by omega), nx_eq, show ((i : Int) - 1).toNat = i - 1 by omega, w1]
      rfl
    · rcases j with _ | j
      · rw [Nat.add_zero, a3 _ _ (by omega), hup_s, pt, hf]
      · rw [show i + (j + 1) = i + 1 + j by omega, a2 j (by omega), pt, hf]
