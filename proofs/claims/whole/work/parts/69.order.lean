/-! ===== order: least of some, and the first that is least ===== -/
def mnf (f : Nat → Int) (P : Nat → Bool) : Nat → Int
  | 0 => 1000000
  | k + 1 => if P k then min (mnf f P k) (f k) else mnf f P k
def af (f : Nat → Int) (P : Nat → Bool) : Nat → Nat
  | 0 => 0
  | k + 1 => if P k = true ∧ f k < mnf f P k then k else af f P k
theorem mnf_0 {f : Nat → Int} {P : Nat → Bool} : ∀ n, (∀ k, k < n → P k = true → 0 ≤ f k) → 0 ≤ mnf f P n ∧ mnf f P n ≤ 1000000
  | 0, _ => by rw [mnf]; omega
  | n + 1, h => by
    have a := mnf_0 (f := f) (P := P) n (fun k hk => h k (by omega))
    rw [mnf]
    by_cases q : P n = true
    · have := h n (by omega) q; rw [if_pos q]; omega
    · rw [if_neg q]; exact a
theorem mnf_le {f : Nat → Int} {P : Nat → Bool} : ∀ n k, k < n → P k = true → mnf f P n ≤ f k
  | 0, _, h, _ => absurd h (by omega)
  | n + 1, k, h, p => by
    rw [mnf]
    by_cases e : k = n
    · subst e; rw [if_pos p]; omega
    · have := mnf_le (f := f) (P := P) n k (by omega) p
      by_cases q : P n = true
      · rw [if_pos q]; omega
      · rw [if_neg q]; exact this
theorem mnf_e {f f' : Nat → Int} {P : Nat → Bool} : ∀ n, (∀ k, k < n → P k = true → f' k = f k) → mnf f' P n = mnf f P n
  | 0, _ => rfl
  | n + 1, h => by
    have a := mnf_e (f := f) (f' := f') (P := P) n (fun k hk => h k (by omega))
    rw [mnf, mnf, a]
    by_cases q : P n = true
    · rw [if_pos q, if_pos q, h n (by omega) q]
    · rw [if_neg q, if_neg q]
theorem af_spec {f : Nat → Int} {P : Nat → Bool} : ∀ n, (mnf f P n = 1000000 ∨ (P (af f P n) = true ∧ af f P n < n ∧ f (af f P n) = mnf f P n)) ∧ ∀ j, j < af f P n → j < n ∧ (P j = true → mnf f P n < f j)
  | 0 => ⟨Or.inl rfl, fun j hj => absurd hj (by rw [af]; omega)⟩
  | n + 1 => by
    obtain ⟨a1, a2⟩ := af_spec (f := f) (P := P) n
    rw [mnf, af]
    by_cases q : P n = true
    · rw [if_pos q]
      by_cases q2 : f n < mnf f P n
      · rw [if_pos ⟨q, q2⟩]
        refine ⟨Or.inr ⟨q, by omega, by omega⟩, fun j hj => ⟨by omega, fun p => ?_⟩⟩
        have := mnf_le (f := f) (P := P) n j hj p
        omega
      · rw [if_neg (fun x => q2 x.2), show min (mnf f P n) (f n) = mnf f P n by omega]
        exact ⟨a1.imp_right (fun x => ⟨x.1, by omega, x.2.2⟩), fun j hj => ⟨by have := (a2 j hj).1; omega, (a2 j hj).2⟩⟩
    · rw [if_neg q, if_neg (fun x => q x.1)]
      exact ⟨a1.imp_right (fun x => ⟨x.1, by omega, x.2.2⟩), fun j hj => ⟨by have := (a2 j hj).1; omega, (a2 j hj).2⟩⟩
/-- least wash from a through all of S (n sorts), and the first way that has it -/
def opt (wa : Nat → Nat → Int) (n : Nat) : Nat → Nat → Nat → Int
  | 0, _, _ => 0
  | r + 1, S, a => mnf (fun k => wa a k + opt wa n r (dl S k) k) (bt S) n
def pt (wa : Nat → Nat → Int) (n : Nat) : Nat → Nat → Nat → Nat → Nat
  | 0, _, _, _ => 0
  | r + 1, S, a, 0 => af (fun k => wa a k + opt wa n r (dl S k) k) (bt S) n
  | r + 1, S, a, i + 1 => pt wa n r (dl S (af (fun k => wa a k + opt wa n r (dl S k) k) (bt S) n)) (af (fun k => wa a k + opt wa n r (dl S k) k) (bt S) n) i
theorem opt_b {wa : Nat → Nat → Int} {n : Nat} (hn : n ≤ 7) (hw : ∀ a k, a < 7 → k < 7 → 0 ≤ wa a k ∧ wa a k ≤ 999) : ∀ r S a, S < 2 ^ n → S < 128 → pc S = r → a < 7 → 0 ≤ opt wa n r S a ∧ opt wa n r S a ≤ 999 * r
  | 0, _, _, _, _, _, _ => by rw [opt]; omega
  | r + 1, S, a, h1, h2, h3, h4 => by
    have ih : ∀ k, k < 7 → bt S k = true → 0 ≤ opt wa n r (dl S k) k ∧ opt wa n r (dl S k) k ≤ 999 * r := fun k hk p => by
      obtain ⟨x1, x2⟩ := st_lt S h2 k hk
      obtain ⟨y1, y2, y3⟩ := x2 p
      exact opt_b hn hw r (dl S k) k (by omega) x1 (by omega) hk
    obtain ⟨k, k1, k2⟩ := st_ex S h2 (fun e => by rw [e] at h3; have p0 : pc 0 = 0 := rfl; omega)
    have kn := st_hi n (by omega) S h2 h1 k k1 k2
    have z := mnf_le (f := fun k => wa a k + opt wa n r (dl S k) k) (P := bt S) n k kn k2
    have z0 := mnf_0 (f := fun k => wa a k + opt wa n r (dl S k) k) (P := bt S) n (fun j hj p => by
      have := ih j (by omega) p; have := hw a j h4 (by omega); omega)
    have := ih k k1 k2
    have := hw a k h4 k1
    rw [opt]
    omega
/-- the way found goes through sorts there are -/
theorem pt_b {wa : Nat → Nat → Int} {n : Nat} (hn : 1 ≤ n) : ∀ r S a i, pt wa n r S a i < n
  | 0, _, _, _ => by rw [pt]; omega
  | r + 1, S, a, 0 => by
    rw [pt]
    have : ∀ m, af (fun k => wa a k + opt wa n r (dl S k) k) (bt S) m = 0 ∨ af (fun k => wa a k + opt wa n r (dl S k) k) (bt S) m < m := by
      intro m
      induction m with
      | zero => left; rfl
      | succ m ih =>
        rw [af]
        split
        · right; omega
        · rcases ih with q | q
          · left; exact q
          · right; omega
    have := this n
    omega
  | r + 1, S, a, i + 1 => by rw [pt]; exact pt_b hn r _ _ i
/-! the class's search -/
def wam (M : Nat → Int) (a k : Nat) : Int := if M (7 * a + k) = -1 then 10 else M (7 * a + k)
def CO (n len : Nat) (M : Nat → Int) (h : MH) : Prop := h 34 4 = (n : Int) ∧ h 75 2 = (len : Int) ∧ ∀ i, i < 49 → h 48 i = M i
theorem wm_c {n len : Nat} {M : Nat → Int} {h : MH} (hM : ∀ i, i < 49 → -1 ≤ M i ∧ M i ≤ 999) (c : CO n len M h) {a k : Nat} (ha : a < 7) (hk : k < 7) : F_X5_washMinutes 34 (a : Int) (k : Int) h = some (wam M a k, h) := by
  have e := c.2.2 (7 * a + k) (by omega)
  have b := hM (7 * a + k) (by omega)
  have et : ((a : Int) * 7 + (k : Int)).toNat = 7 * a + k := by omega
  unfold F_X5_washMinutes F_X5_washMinutes_0 F_X5_washTold F_X5_washTold_0 ck wam
  rw [if_pos (by omega), et, show 34 + 14 = 48 from rfl, e]
  by_cases q : M (7 * a + k) = -1
  · rw [if_pos (by omega), if_pos q, bind_eq]
    dsimp only
    rw [if_pos (by omega), if_pos rfl, if_pos q]
  · rw [if_pos (by omega), if_neg q, bind_eq]
    dsimp only
    rw [if_pos (by omega), if_neg (by omega), if_pos (by omega), e, if_neg q]
def F76 (h h' : MH) : Prop := ∀ c k, c ≠ 76 → c ≠ 77 → ¬ (c = 75 ∧ k = 3) → h' c k = h c k
theorem F76.tr {a b c : MH} (x : F76 a b) (y : F76 b c) : F76 a c := fun i k e e2 e3 => (y i k e e2 e3).trans (x i k e e2 e3)
theorem CO_n {n len : Nat} {M : Nat → Int} {h h' : MH} (f : F76 h h') (c : CO n len M h) : CO n len M h' := by
  obtain ⟨c1, c2, c3⟩ := c
  exact ⟨by rw [f _ _ (by omega) (by omega) (by omega)]; exact c1, by rw [f _ _ (by omega) (by omega) (by omega)]; exact c2, fun i hi => by rw [f _ _ (by omega) (by omega) (by omega)]; exact c3 i hi⟩
theorem wam_b {M : Nat → Int} (hM : ∀ i, i < 49 → -1 ≤ M i ∧ M i ≤ 999) : ∀ a k, a < 7 → k < 7 → 0 ≤ wam M a k ∧ wam M a k ≤ 999 := fun a k ha hk => by
  have := hM (7 * a + k) (by omega)
  unfold wam
  split <;> omega
def GO (n len : Nat) (M : Nat → Int) (r : Nat) : Prop := ∀ (pl S nd a : Nat) (sum : Int) (h : MH), pc S = r → S < 2 ^ n → S < 128 → r < nd → 1 ≤ pl → pl + r = len → h 76 (pl - 1) = (a : Int) → a < 7 → 0 ≤ sum → sum < h 75 3 → h 75 3 ≤ 1000000 → CO n len M h →
  ∃ h', F_X10_goOnFrom nd 34 (pl : Int) (S : Int) sum h = some h' ∧ h' 75 3 = min (h 75 3) (sum + opt (wam M) n r S a) ∧ (∀ i, i < pl → h' 76 i = h 76 i) ∧ F76 h h' ∧
    (sum + opt (wam M) n r S a < h 75 3 → (∀ i, i < pl → h' 77 i = h 76 i) ∧ ∀ i, i < r → h' 77 (pl + i) = (pt (wam M) n r S a i : Int)) ∧ (¬ sum + opt (wam M) n r S a < h 75 3 → ∀ i, h' 77 i = h 77 i)
theorem go_loop {n len r nd : Nat} {M : Nat → Int} (hn : n ≤ 7) (hl : len ≤ 7) (hM : ∀ i, i < 49 → -1 ≤ M i ∧ M i ≤ 999) (G : GO n len M r) {pl S a : Nat} {sum : Int} {h0 : MH} (hS : pc S = r + 1) (hS2 : S < 2 ^ n) (hS3 : S < 128) (hr : r < nd) (h1 : 1 ≤ pl) (hpl : pl + (r + 1) = len) (ha : h0 76 (pl - 1) = (a : Int)) (ha7 : a < 7) (hs : 0 ≤ sum) (hs2 : sum < h0 75 3) (hs3 : h0 75 3 ≤ 1000000) (f : Nat → Int) (hf : f = fun k => wam M a k + opt (wam M) n r (dl S k) k) : ∀ (d k fu : Nat) (h : MH), k + d = n → d < fu → CO n len M h →
    h 75 3 = min (h0 75 3) (sum + mnf f (bt S) k) → (∀ i, i < pl → h 76 i = h0 76 i) → F76 h0 h →
    (sum + mnf f (bt S) k < h0 75 3 → (∀ i, i < pl → h 77 i = h0 76 i) ∧ h 77 pl = (af f (bt S) k : Int) ∧ ∀ i, i < r → h 77 (pl + 1 + i) = (pt (wam M) n r (dl S (af f (bt S) k)) (af f (bt S) k) i : Int)) → (¬ sum + mnf f (bt S) k < h0 75 3 → ∀ i, h 77 i = h0 77 i) →
    ∃ h', F_X10_goOnFrom_37 (F_X10_goOnFrom nd) fu 34 (pl : Int) (S : Int) sum (k : Int) h = some h' ∧ h' 75 3 = min (h0 75 3) (sum + mnf f (bt S) n) ∧ (∀ i, i < pl → h' 76 i = h0 76 i) ∧ F76 h0 h' ∧
      (sum + mnf f (bt S) n < h0 75 3 → (∀ i, i < pl → h' 77 i = h0 76 i) ∧ h' 77 pl = (af f (bt S) n : Int) ∧ ∀ i, i < r → h' 77 (pl + 1 + i) = (pt (wam M) n r (dl S (af f (bt S) n)) (af f (bt S) n) i : Int)) ∧ (¬ sum + mnf f (bt S) n < h0 75 3 → ∀ i, h' 77 i = h0 77 i) := by
  have fb : ∀ k, k < 7 → bt S k = true → wam M a k ≤ f k ∧ f k ≤ 999 + 999 * r ∧ 0 ≤ wam M a k ∧ wam M a k ≤ 999 := fun k hk p => by
    obtain ⟨x1, x2⟩ := st_lt S hS3 k hk
    obtain ⟨y1, y2, y3⟩ := x2 p
    have z := opt_b hn (wam_b hM) r (dl S k) k (by omega) x1 (by omega) hk
    have w := wam_b hM a k ha7 hk
    rw [hf]
    dsimp only
    omega
  have m0 : ∀ k, k ≤ n → 0 ≤ mnf f (bt S) k ∧ mnf f (bt S) k ≤ 1000000 := fun k hk => mnf_0 k (fun j hj p => by have := fb j (by omega) p; omega)
  intro d
  induction d with
  | zero =>
    intro k fu h e hfu c i1 i2 i3 i4 i5
    obtain ⟨fu, rfl⟩ : ∃ g, fu = g + 1 := ⟨fu - 1, by omega⟩
    have : k = n := by omega
    subst this
    have c1 := c.1
    refine ⟨h, ?_, i1, i2, i3, i4, i5⟩
    rw [F_X10_goOnFrom_37]
    unfold ck
    rw [if_pos (by omega), if_pos (by omega), if_pos (by omega)]
  | succ d ih =>
    intro k fu h e hfu c i1 i2 i3 i4 i5
    obtain ⟨fu, rfl⟩ : ∃ g, fu = g + 1 := ⟨fu - 1, by omega⟩
    have c1 := c.1
    have mk := m0 k (by omega)
    have wk := wam_b hM a k ha7 (by omega)
    have wc := wm_c hM c ha7 (show k < 7 by omega)
    have bk := st_bit S hS3 k (by omega)
    have st : F_X10_goOnFrom_37 (F_X10_goOnFrom nd) (fu + 1) 34 (pl : Int) (S : Int) sum (k : Int) h = if bt S k = true ∧ sum + wam M a k < h 75 3 then (F_X10_goOnFrom nd 34 ((pl + 1 : Nat) : Int) ((dl S k : Nat) : Int) (sum + wam M a k) (hup h 76 pl (k : Int))).bind (fun q14 => F_X10_goOnFrom_37 (F_X10_goOnFrom nd) fu 34 (pl : Int) (S : Int) sum ((k + 1 : Nat) : Int) q14) else F_X10_goOnFrom_37 (F_X10_goOnFrom nd) fu 34 (pl : Int) (S : Int) sum ((k + 1 : Nat) : Int) h := by
      rw [F_X10_goOnFrom_37]
      unfold F_X10_goOnFrom_110 ck
      rw [if_pos (by omega), if_pos (by omega), if_neg (by omega), if_pos (by omega), show ((pl : Int) - 1).toNat = pl - 1 by omega, i2 (pl - 1) (by omega), ha, wc, bind_eq]
      dsimp only
      rw [nx_eq, bk, show (k : Int) + 1 = ((k + 1 : Nat) : Int) by omega]
      by_cases q : bt S k = true
      · rw [if_pos q, if_pos (by omega), if_neg (by omega), if_pos (by omega), if_pos (by omega)]
        by_cases q2 : h 75 3 ≤ sum + wam M a k
        · rw [if_pos q2, if_neg (fun x => absurd x.2 (by omega))]
        · rw [if_neg q2, if_pos (show bt S k = true ∧ sum + wam M a k < h 75 3 from ⟨q, by omega⟩), if_pos (show 0 ≤ (pl : Int) ∧ (pl : Int) < 7 by omega), nx_eq, show ((pl : Int)).toNat = pl by omega, st_dl S hS3 k (by omega), show (pl : Int) + 1 = ((pl + 1 : Nat) : Int) by omega]
      · rw [if_neg q, if_pos (by omega), if_pos (by omega), if_neg (fun x => q x.1)]
    by_cases q : bt S k = true
    rotate_left
    · -- not in the set
      have e1 : mnf f (bt S) (k + 1) = mnf f (bt S) k := by rw [mnf, if_neg q]
      have e2 : af f (bt S) (k + 1) = af f (bt S) k := by rw [af, if_neg (fun x => q x.1)]
      rw [st, if_neg (fun x => q x.1)]
      exact ih (k + 1) fu h (by omega) (by omega) c (by rw [e1]; exact i1) i2 i3 (by rw [e1, e2]; exact i4) (by rw [e1]; exact i5)
    have fk := fb k (by omega) q
    have e1 : mnf f (bt S) (k + 1) = min (mnf f (bt S) k) (f k) := by rw [mnf, if_pos q]
    have keep : ¬ (sum + f k < h 75 3) → ∀ h2 : MH, CO n len M h2 → h2 75 3 = h 75 3 → (∀ i, i < pl → h2 76 i = h0 76 i) → F76 h0 h2 → (∀ i, h2 77 i = h 77 i) → ∃ h', F_X10_goOnFrom_37 (F_X10_goOnFrom nd) fu 34 (pl : Int) (S : Int) sum ((k + 1 : Nat) : Int) h2 = some h' ∧ h' 75 3 = min (h0 75 3) (sum + mnf f (bt S) n) ∧ (∀ i, i < pl → h' 76 i = h0 76 i) ∧ F76 h0 h' ∧
      (sum + mnf f (bt S) n < h0 75 3 → (∀ i, i < pl → h' 77 i = h0 76 i) ∧ h' 77 pl = (af f (bt S) n : Int) ∧ ∀ i, i < r → h' 77 (pl + 1 + i) = (pt (wam M) n r (dl S (af f (bt S) n)) (af f (bt S) n) i : Int)) ∧ (¬ sum + mnf f (bt S) n < h0 75 3 → ∀ i, h' 77 i = h0 77 i) := fun q2 h2 y1 y2 y3 y4 y5 => by
      refine ih (k + 1) fu h2 (by omega) (by omega) y1 (by rw [y2, i1, e1]; omega) y3 y4 (fun q3 => ?_) (fun q3 i => ?_)
      · have e2 : ¬ (f k < mnf f (bt S) k) := by rw [e1] at q3; omega
        have e3 : af f (bt S) (k + 1) = af f (bt S) k := by rw [af, if_neg (fun x => e2 x.2)]
        have z := i4 (by rw [e1] at q3; omega)
        rw [e3]
        exact ⟨fun i hi => by rw [y5]; exact z.1 i hi, by rw [y5]; exact z.2.1, fun i hi => by rw [y5]; exact z.2.2 i hi⟩
      · rw [y5]
        exact i5 (by rw [e1] at q3; omega) i
    by_cases q2 : sum + wam M a k < h 75 3
    rotate_left
    · rw [st, if_neg (fun x => q2 x.2)]
      exact keep (by omega) h c rfl i2 i3 (fun _ => rfl)
    · obtain ⟨x1, x2⟩ := st_lt S hS3 k (by omega)
      obtain ⟨y1, y2, y3⟩ := x2 q
      have K : ∀ c i, ¬ (c = 76 ∧ i = pl) → hup h 76 pl (k : Int) c i = h c i := fun c i w => hup_n _ _ _ _ _ _ w
      have K7 : F76 h (hup h 76 pl (k : Int)) := fun c i w1 w2 w3 => K c i (by omega)
      obtain ⟨h2, g1, g2, g3, g4, g5, g6⟩ := G (pl + 1) (dl S k) nd k (sum + wam M a k) (hup h 76 pl (k : Int)) (by omega) (by omega) x1 hr (by omega) (by omega) (by rw [show pl + 1 - 1 = pl by omega, hup_s]) (by omega) (by omega) (by rw [K _ _ (by omega)]; exact q2) (by rw [K _ _ (by omega)]; omega) (CO_n K7 c)
      rw [K 75 3 (by omega)] at g2 g5 g6
      have ef : sum + wam M a k + opt (wam M) n r (dl S k) k = sum + f k := by rw [hf]; dsimp only; omega
      rw [ef] at g2 g5 g6
      rw [st, if_pos ⟨q, q2⟩, g1, bind_eq]
      have w76 : ∀ i, i < pl → h2 76 i = h0 76 i := fun i hi => by rw [g3 i (by omega), K _ _ (by omega)]; exact i2 i hi
      have wF : F76 h0 h2 := (i3.tr K7).tr g4
      have wC := CO_n g4 (CO_n K7 c)
      by_cases q3 : sum + f k < h 75 3
      · obtain ⟨b1, b2⟩ := g5 q3
        have e2 : f k < mnf f (bt S) k := by omega
        have e3 : af f (bt S) (k + 1) = k := by rw [af, if_pos ⟨q, e2⟩]
        have e4 : mnf f (bt S) (k + 1) = f k := by rw [e1]; omega
        refine ih (k + 1) fu h2 (by omega) (by omega) wC (by rw [g2, i1, e4]; omega) w76 wF (fun _ => ?_) (fun q4 => absurd q4 (by rw [e4]; omega))
        rw [e3]
        refine ⟨fun i hi => by rw [b1 i (by omega), K _ _ (by omega)]; exact i2 i hi, by rw [b1 pl (by omega), hup_s], fun i hi => b2 i hi⟩
      · exact keep q3 h2 wC (by rw [g2]; omega) w76 wF (fun i => by rw [g6 q3 i, K _ _ (by omega)])
theorem go_l {n len : Nat} {M : Nat → Int} (hn : n ≤ 7) (hl : len ≤ 7) (hM : ∀ i, i < 49 → -1 ≤ M i ∧ M i ≤ 999) : ∀ r, GO n len M r := by
  intro r
  induction r with
  | zero =>
    intro pl S nd a sum h p1 p2 p3 p4 p5 p6 p7 p8 p9 p10 p11 c
    obtain ⟨nd, rfl⟩ : ∃ g, nd = g + 1 := ⟨nd - 1, by omega⟩
    have s0 : S = 0 := (st_pc S p3).1 p1
    subst s0
    have c2 := c.2.1
    refine ⟨hcp (hup h 75 3 sum) 76 0 77 0 len, ?_, ?_, fun i hi => by rw [hcp_n _ _ _ _ _ _ _ _ (by omega), hup_n _ _ _ _ _ _ (by omega)], fun i k w1 w2 w3 => by rw [hcp_n _ _ _ _ _ _ _ _ (by omega), hup_n _ _ _ _ _ _ (by omega)], fun _ => ⟨fun i hi => ?_, fun i hi => absurd hi (by omega)⟩, fun q => absurd q (by rw [opt]; omega)⟩
    · have e2 : hup h 75 3 sum 75 2 = (len : Int) := by rw [hup_n _ _ _ _ _ _ (by omega)]; exact c2
      rw [F_X10_goOnFrom]
      unfold F_X10_goOnFrom_0 F_X10_goOnFrom_10 ck
      rw [if_pos (by omega), if_pos (by omega), nx_eq, e2, if_pos (by omega), nx_eq, show ((len : Int)).toNat = len by omega]
    · rw [hcp_n _ _ _ _ _ _ _ _ (by omega), hup_s, opt]; omega
    · rw [hcp_y _ _ _ _ _ _ _ _ (by omega), hup_n _ _ _ _ _ _ (by omega), Nat.zero_add, Nat.sub_zero]
  | succ r ih =>
    intro pl S nd a sum h p1 p2 p3 p4 p5 p6 p7 p8 p9 p10 p11 c
    obtain ⟨nd, rfl⟩ : ∃ g, nd = g + 1 := ⟨nd - 1, by omega⟩
    have s0 : S ≠ 0 := fun e => by rw [e] at p1; have p0 : pc 0 = 0 := rfl; omega
    obtain ⟨h', a1, a2, a3, a4, a5, a6⟩ := go_loop (nd := nd) hn hl hM ih p1 p2 p3 (by omega) p5 p6 p7 p8 p9 p10 p11 (fun k => wam M a k + opt (wam M) n r (dl S k) k) rfl n 0 20000 h (by omega) (by omega) c (by rw [mnf]; omega) (fun _ _ => rfl) (fun _ _ _ _ _ => rfl) (fun q => absurd q (by rw [mnf]; omega)) (fun _ _ => rfl)
    refine ⟨h', ?_, a2, a3, a4, fun q => ?_, a6⟩
    · rw [F_X10_goOnFrom]
      unfold F_X10_goOnFrom_0 ck
      rw [if_pos (by omega), if_neg (by omega), if_pos (by omega), if_pos (by omega)]
      exact a1
    · obtain ⟨b1, b2, b3⟩ := a5 q
      refine ⟨b1, fun i hi => ?_⟩
      rcases i with _ | i
      · rw [Nat.add_zero, b2, pt]
      · rw [show pl + (i + 1) = pl + 1 + i by omega, b3 i (by omega), pt]
