/-! ===== a shift half read, on both sides ===== -/
def EN (E e dp : Nat) (h g : MH) : Prop :=
  (0 ≤ g 142 (1760 + 190 + 4 * e) ∧ g 142 (1760 + 190 + 4 * e) ≤ 6) ∧
  (g 142 (1760 + 190 + 4 * e) ≠ 6 → h 29 (cntS 1760 g e) = g 142 (1760 + 190 + 4 * e) ∧ DT (g 142 (1760 + 190 + 4 * e)) (cntS 1760 g e) (1760 + 190 + 4 * e) h g) ∧
  (g 142 (1760 + 190 + 4 * e) = 6 → ∃ o : Nat, g 142 (1760 + 190 + 4 * e + 3) = (o : Int) ∧ o < e ∧ (g 142 (1760 + 190 + 4 * o) = 4 ∨ g 142 (1760 + 190 + 4 * o) = 5) ∧ g 142 (1760 + 190 + 4 * o + 3) = (e : Int) ∧ opnS 1760 g e = opnS 1760 g o + 1) ∧
  (g 142 (1760 + 190 + 4 * e) = 4 ∨ g 142 (1760 + 190 + 4 * e) = 5 → (∃ i : Nat, i < dp ∧ g 150 i = (e : Int)) ∨ ∃ l : Nat, g 142 (1760 + 190 + 4 * e + 3) = (l : Int) ∧ e < l ∧ l < E ∧ g 142 (1760 + 190 + 4 * l) = 6 ∧ g 142 (1760 + 190 + 4 * l + 3) = (e : Int) ∧ h 32 (cntS 1760 g e) = (cntS 1760 g l : Int) ∧ opnS 1760 g l = opnS 1760 g e + 1 ∧ ∀ j, e < j → j ≤ l → opnS 1760 g e < opnS 1760 g j)
def STK (E i : Nat) (h g : MH) : Prop := ∃ s : Nat, g 150 i = (s : Int) ∧ s < E ∧ (g 142 (1760 + 190 + 4 * s) = 4 ∨ g 142 (1760 + 190 + 4 * s) = 5) ∧ h 33 i = (cntS 1760 g s : Int) ∧ opnS 1760 g s = (i : Int) ∧ ∀ j, s < j → j ≤ E → (i : Int) < opnS 1760 g j
def PI (E n dp : Nat) (h g : MH) : Prop :=
  (g 142 1765 = (E : Int) ∧ g 141 22 = (n : Int) ∧ h 28 0 = (n : Int) ∧ h 27 3 = (dp : Int) ∧ g 141 21 = (dp : Int)) ∧
  (cntS 1760 g E = n ∧ opnS 1760 g E = (dp : Int) ∧ n ≤ 30 ∧ dp ≤ 3) ∧
  (∀ e, e ≤ E → 0 ≤ opnS 1760 g e ∧ opnS 1760 g e ≤ 3) ∧
  (∀ e, e < E → EN E e dp h g) ∧
  (∀ i, i < dp → STK E i h g)
theorem eb_l {g : MH} : ∀ E : Nat, (E : Int) + opnS 1760 g E ≤ 2 * (cntS 1760 g E : Int)
  | 0 => by show ((0 : Nat) : Int) + 0 ≤ 2 * ((0 : Nat) : Int); omega
  | E + 1 => by
    have ih := eb_l (g := g) E
    rw [opnS, cntS]
    by_cases z : g 142 (1760 + 190 + 4 * E) = 6
    · rw [if_pos z, if_pos z] <;> omega
    · rw [if_neg z, if_neg z]
      by_cases y : g 142 (1760 + 190 + 4 * E) = 4 ∨ g 142 (1760 + 190 + 4 * E) = 5
      · rw [if_pos y] <;> omega
      · rw [if_neg y] <;> omega
theorem PI.b {E n dp : Nat} {h g : MH} (p : PI E n dp h g) : E + dp ≤ 2 * n ∧ n ≤ 30 ∧ dp ≤ 3 := by
  obtain ⟨-, ⟨q1, q2, q3, q4⟩, -⟩ := p
  have := eb_l (g := g) E
  rw [q1, q2] at this
  omega
theorem EN_f {E E' e o n dp dp' : Nat} {h g h' g' : MH} (en : EN E e dp h g) (hE : E ≤ E') (he : e < E) (heo : e ≠ o) (qn : cntS 1760 g E = n)
    (f : ∀ i d, i < E → d < 3 → g' 142 (1760 + 190 + 4 * i + d) = g 142 (1760 + 190 + 4 * i + d))
    (f3 : ∀ i, i < E → i ≠ o → g' 142 (1760 + 190 + 4 * i + 3) = g 142 (1760 + 190 + 4 * i + 3))
    (hz : g 142 (1760 + 190 + 4 * e) = 6 → g 142 (1760 + 190 + 4 * e + 3) ≠ (o : Int))
    (ho6 : o < E → g 142 (1760 + 190 + 4 * o) ≠ 6)
    (H : ∀ c k, 29 ≤ c → c ≤ 31 → k < n → h' c k = h c k)
    (H2 : g 142 (1760 + 190 + 4 * e) ≠ 6 → h' 32 (cntS 1760 g e) = h 32 (cntS 1760 g e))
    (S : ∀ i, i < dp → g 150 i = (e : Int) → i < dp' ∧ g' 150 i = (e : Int)) : EN E' e dp' h' g' := by
  obtain ⟨e1, e2, e3, e4⟩ := en
  have f0 : ∀ i, i < E → g' 142 (1760 + 190 + 4 * i) = g 142 (1760 + 190 + 4 * i) := fun i hi => f i 0 hi (by omega)
  have hc : ∀ i, i ≤ E → cntS 1760 g' i = cntS 1760 g i := fun i hi => cntS_f i (fun j hj => f0 j (by omega))
  have ho : ∀ i, i ≤ E → opnS 1760 g' i = opnS 1760 g i := fun i hi => opnS_f i (fun j hj => f0 j (by omega))
  unfold EN
  rw [f0 e he, hc e (by omega), ho e (by omega), f3 e he heo]
  refine ⟨e1, fun z => ?_, fun z => ?_, fun z => ?_⟩
  · obtain ⟨a, b⟩ := e2 z
    have cl := cntS_lt (b := 1760) (h := g) he z
    rw [qn] at cl
    refine ⟨by rw [H _ _ (by omega) (by omega) cl]; exact a, ?_⟩
    unfold DT at b ⊢
    rw [H _ _ (by omega) (by omega) cl, H _ _ (by omega) (by omega) cl, f e 1 he (by omega), f e 2 he (by omega)]
    exact b
  · obtain ⟨x, a1, a2, a3, a4, a5⟩ := e3 z
    have xo : x ≠ o := fun y => hz z (by rw [a1, y])
    exact ⟨x, a1, a2, by rw [f0 x (by omega)]; exact a3, by rw [f3 x (by omega) xo]; exact a4, by rw [ho x (by omega)]; exact a5⟩
  · rcases e4 z with ⟨i, i1, i2⟩ | ⟨l, a1, a2, a3, a4, a5, a6, a7, a8⟩
    · obtain ⟨j1, j2⟩ := S i i1 i2
      exact Or.inl ⟨i, j1, j2⟩
    · have lo : l ≠ o := fun y => ho6 (by omega) (by rw [← y]; exact a4)
      refine Or.inr ⟨l, a1, a2, by omega, by rw [f0 l a3]; exact a4, by rw [f3 l a3 lo]; exact a5, by rw [H2 (by omega), hc l (by omega)]; exact a6, by rw [ho l (by omega)]; exact a7, fun j j1 j2 => by rw [ho j (by omega)]; exact a8 j j1 j2⟩
theorem PI_add {E n dp dp' : Nat} {K : Int} {h g h' g' : MH} (p : PI E n dp h g) (hn : n < 30) (hK : 0 ≤ K ∧ K ≤ 5)
    (hd : ((K = 4 ∨ K = 5) ∧ dp < 3 ∧ dp' = dp + 1 ∧ g' 150 dp = (E : Int) ∧ h' 33 dp = (n : Int)) ∨ (K ≠ 4 ∧ K ≠ 5 ∧ dp' = dp))
    (g5 : g' 142 1765 = ((E + 1 : Nat) : Int)) (g22 : g' 141 22 = ((n + 1 : Nat) : Int)) (h28 : h' 28 0 = ((n + 1 : Nat) : Int)) (h27 : h' 27 3 = (dp' : Int)) (g21 : g' 141 21 = (dp' : Int))
    (gk : g' 142 (1760 + 190 + 4 * E) = K) (hk : h' 29 n = K) (dt : DT K n (1760 + 190 + 4 * E) h' g')
    (G : ∀ k, 1760 + 190 ≤ k → k < 1760 + 190 + 4 * E → g' 142 k = g 142 k) (G5 : ∀ k, k ≠ dp → g' 150 k = g 150 k)
    (H : ∀ c k, 29 ≤ c → c ≤ 32 → k ≠ n → h' c k = h c k) (H3 : ∀ k, k ≠ dp → h' 33 k = h 33 k) : PI (E + 1) (n + 1) dp' h' g' := by
  obtain ⟨⟨p1, p2, p3, p4, p5⟩, ⟨q1, q2, q3, q4⟩, r, en, st⟩ := p
  have f0 : ∀ i, i < E → g' 142 (1760 + 190 + 4 * i) = g 142 (1760 + 190 + 4 * i) := fun i hi => G _ (by omega) (by omega)
  have hc : ∀ i, i ≤ E → cntS 1760 g' i = cntS 1760 g i := fun i hi => cntS_f i (fun j hj => f0 j (by omega))
  have ho : ∀ i, i ≤ E → opnS 1760 g' i = opnS 1760 g i := fun i hi => opnS_f i (fun j hj => f0 j (by omega))
  have cE : cntS 1760 g' (E + 1) = n + 1 := by rw [cntS, hc E (by omega), q1, gk, if_neg (by omega)]
  have oE : opnS 1760 g' (E + 1) = (dp' : Int) := by
    rw [opnS, ho E (by omega), q2, gk, if_neg (by omega)]
    by_cases z : K = 4 ∨ K = 5
    · rw [if_pos z] <;> omega
    · rw [if_neg z] <;> omega
  refine ⟨⟨g5, g22, h28, h27, g21⟩, ⟨cE, oE, by omega, by omega⟩, fun e he => ?_, fun e he => ?_, fun i hi => ?_⟩
  · by_cases z : e = E + 1
    · subst z; rw [oE] <;> omega
    · rw [ho e (by omega)]; exact r e (by omega)
  · by_cases z : e = E
    · subst z
      unfold EN
      rw [hc e (by omega), gk, q1]
      refine ⟨by omega, fun _ => ⟨hk, dt⟩, fun z => absurd z (by omega), fun z => Or.inl ⟨dp, ?_⟩⟩
      rcases hd with ⟨_, _, d3, d4, _⟩ | ⟨d1, d2, _⟩
      · exact ⟨by omega, d4⟩
      · omega
    · have he' : e < E := by omega
      refine EN_f (o := E) (en e he') (by omega) he' (by omega) q1 (fun i d hi hd => G _ (by omega) (by omega)) (fun i hi _ => G _ (by omega) (by omega)) (fun z y => ?_) (fun z => absurd z (by omega)) (fun c k c1 c2 hk => H c k c1 (by omega) (by omega)) (fun z => ?_) (fun i hi y => ⟨by omega, by rw [G5 i (by omega)]; exact y⟩)
      · obtain ⟨x, a1, a2, _⟩ := (en e he').2.2.1 z
        omega
      · have cl := cntS_lt (b := 1760) (h := g) he' z
        exact H _ _ (by omega) (by omega) (by omega)
  · by_cases z : i = dp
    · subst z
      rcases hd with ⟨d1, _, d3, d4, d5⟩ | ⟨_, _, d3⟩
      · refine ⟨E, d4, by omega, by rw [gk]; exact d1, by rw [hc E (by omega), q1]; exact d5, by rw [ho E (by omega)]; exact q2, fun j j1 j2 => ?_⟩
        have : j = E + 1 := by omega
        subst this
        rw [oE] <;> omega
      · omega
    · obtain ⟨s, s1, s2, s3, s4, s5, s6⟩ := st i (by omega)
      refine ⟨s, by rw [G5 i z]; exact s1, by omega, by rw [f0 s s2]; exact s3, by rw [H3 i z, hc s (by omega)]; exact s4, by rw [ho s (by omega)]; exact s5, fun j j1 j2 => ?_⟩
      by_cases y : j = E + 1
      · subst y; rw [oE] <;> omega
      · rw [ho j (by omega)]; exact s6 j j1 (by omega)
theorem PI_end {E n dp o : Nat} {h g h' g' : MH} (p : PI E n (dp + 1) h g) (go : g 150 dp = (o : Int))
    (g5 : g' 142 1765 = ((E + 1 : Nat) : Int)) (g22 : g' 141 22 = (n : Int)) (h28 : h' 28 0 = (n : Int)) (h27 : h' 27 3 = (dp : Int)) (g21 : g' 141 21 = (dp : Int))
    (gk : g' 142 (1760 + 190 + 4 * E) = 6) (ge : g' 142 (1760 + 190 + 4 * E + 3) = (o : Int)) (gO : g' 142 (1760 + 190 + 4 * o + 3) = (E : Int))
    (G : ∀ k, 1760 + 190 ≤ k → k < 1760 + 190 + 4 * E → k ≠ 1760 + 190 + 4 * o + 3 → g' 142 k = g 142 k) (G5 : ∀ k, g' 150 k = g 150 k)
    (hh : h' 32 (cntS 1760 g o) = (n : Int)) (H : ∀ c k, 29 ≤ c → c ≤ 33 → ¬ (c = 32 ∧ k = cntS 1760 g o) → h' c k = h c k) : PI (E + 1) n dp h' g' := by
  obtain ⟨⟨p1, p2, p3, p4, p5⟩, ⟨q1, q2, q3, q4⟩, r, en, st⟩ := p
  obtain ⟨s, s1, s2, s3, s4, s5, s6⟩ := st dp (by omega)
  have so : s = o := by omega
  subst so
  have f0 : ∀ i, i < E → g' 142 (1760 + 190 + 4 * i) = g 142 (1760 + 190 + 4 * i) := fun i hi => G _ (by omega) (by omega) (by omega)
  have hc : ∀ i, i ≤ E → cntS 1760 g' i = cntS 1760 g i := fun i hi => cntS_f i (fun j hj => f0 j (by omega))
  have ho : ∀ i, i ≤ E → opnS 1760 g' i = opnS 1760 g i := fun i hi => opnS_f i (fun j hj => f0 j (by omega))
  have cE : cntS 1760 g' (E + 1) = n := by rw [cntS, hc E (by omega), q1, gk, if_pos rfl] <;> omega
  have oE : opnS 1760 g' (E + 1) = (dp : Int) := by
    rw [opnS, ho E (by omega), q2, gk, if_pos rfl] <;> omega
  have cs := cntS_lt (b := 1760) (h := g) s2 (by omega)
  have d5 : ∀ k, g' 142 (1760 + 190 + 4 * s + k) = g 142 (1760 + 190 + 4 * s + k) ∨ 3 ≤ k := fun k => by
    by_cases z : 3 ≤ k
    · exact Or.inr z
    · exact Or.inl (G _ (by omega) (by omega) (by omega))
  refine ⟨⟨g5, g22, h28, h27, g21⟩, ⟨cE, oE, by omega, by omega⟩, fun e he => ?_, fun e he => ?_, fun i hi => ?_⟩
  · by_cases z : e = E + 1
    · subst z; rw [oE] <;> omega
    · rw [ho e (by omega)]; exact r e (by omega)
  · by_cases z : e = E
    · subst z
      unfold EN
      rw [gk]
      refine ⟨by omega, fun z => absurd rfl z, fun _ => ⟨s, ge, s2, by rw [f0 s s2]; exact s3, gO, ?_⟩, fun z => absurd z (by omega)⟩
      rw [ho e (by omega), ho s (by omega), q2, s5] <;> omega
    · have he' : e < E := by omega
      by_cases y : e = s
      · subst y
        have n6 : g 142 (1760 + 190 + 4 * e) ≠ 6 := by omega
        obtain ⟨e1, e2, -, -⟩ := en e he'
        obtain ⟨a, b⟩ := e2 n6
        clear e2
        unfold EN
        rw [f0 e he', hc e (by omega), ho e (by omega)]
        refine ⟨e1, fun z => ⟨by rw [H _ _ (by omega) (by omega) (by omega)]; exact a, ?_⟩, fun z => absurd z (by omega), fun _ => Or.inr ⟨E, gO, he', by omega, gk, ge, by rw [hc E (by omega), q1]; exact hh, by rw [ho E (by omega), q2, s5] <;> omega, fun j j1 j2 => by rw [ho j (by omega), s5]; exact s6 j j1 j2⟩⟩
        unfold DT at b ⊢
        rw [H _ _ (by omega) (by omega) (by omega), H _ _ (by omega) (by omega) (by omega), G _ (by omega) (by omega) (by omega), G (1760 + 190 + 4 * e + 2) (by omega) (by omega) (by omega)]
        exact b
      · refine EN_f (o := s) (en e he') (by omega) he' y q1 (fun i d hi hd => G _ (by omega) (by omega) (by omega)) (fun i hi z => G _ (by omega) (by omega) (by omega)) (fun z1 z2 => ?_) (fun _ => by omega) (fun c k c1 c2 hk => H c k c1 (by omega) (by omega)) (fun z => ?_) (fun i hi w => ⟨?_, by rw [G5]; exact w⟩)
        · obtain ⟨x, a1, a2, a3, a4, a5⟩ := (en e he').2.2.1 z1
          have xs : x = s := by omega
          subst xs
          have w := s6 (e + 1) (by omega) (by omega)
          rw [opnS, if_pos z1, a5, s5] at w
          omega
        · refine H _ _ (by omega) (by omega) (fun w => ?_)
          have w2 := w.2
          rcases Nat.lt_or_ge e s with v | v
          · have := cntS_lt (b := 1760) (h := g) v z
            omega
          · have := cntS_lt (b := 1760) (h := g) (show s < e by omega) (show g 142 (1760 + 190 + 4 * s) ≠ 6 by omega)
            omega
        · by_cases v : i = dp
          · subst v
            rw [s1] at w
            omega
          · omega
  · obtain ⟨u, u1, u2, u3, u4, u5, u6⟩ := st i (by omega)
    refine ⟨u, by rw [G5 i]; exact u1, by omega, by rw [f0 u u2]; exact u3, by rw [H _ _ (by omega) (by omega) (by omega), hc u (by omega)]; exact u4, by rw [ho u (by omega)]; exact u5, fun j j1 j2 => ?_⟩
    by_cases y : j = E + 1
    · subst y; rw [oE] <;> omega
    · rw [ho j (by omega)]; exact u6 j j1 (by omega)
/-- both heaps as one -/
def mg (h g : MH) : MH := fun c k => if c < 141 then h c k else g c k
theorem mg_l {h g : MH} {c k : Nat} (z : c < 141) : mg h g c k = h c k := if_pos z
theorem mg_r {h g : MH} {c k : Nat} (z : ¬ c < 141) : mg h g c k = g c k := if_neg z
theorem PI_SR {E n : Nat} {h g : MH} (p : PI E n 0 h g) : SR 28 1760 (mg h g) := by
  have bb := p.b
  obtain ⟨⟨p1, p2, p3, p4, p5⟩, ⟨q1, q2, q3, q4⟩, r, en, st⟩ := p
  have m : ∀ k, mg h g 142 k = g 142 k := fun k => mg_r (by omega)
  have hc : ∀ i, cntS 1760 (mg h g) i = cntS 1760 g i := fun i => cntS_f i (fun j hj => m _)
  have ho : ∀ i, opnS 1760 (mg h g) i = opnS 1760 g i := fun i => opnS_f i (fun j hj => m _)
  have cl : ∀ e, e < E → g 142 (1760 + 190 + 4 * e) = 4 ∨ g 142 (1760 + 190 + 4 * e) = 5 → ∃ l : Nat, g 142 (1760 + 190 + 4 * e + 3) = (l : Int) ∧ e < l ∧ l < E ∧ g 142 (1760 + 190 + 4 * l) = 6 ∧ g 142 (1760 + 190 + 4 * l + 3) = (e : Int) ∧ h 32 (cntS 1760 g e) = (cntS 1760 g l : Int) ∧ opnS 1760 g l = opnS 1760 g e + 1 ∧ ∀ j, e < j → j ≤ l → opnS 1760 g e < opnS 1760 g j := fun e he z => by
    rcases (en e he).2.2.2 z with ⟨i, i1, _⟩ | y
    · omega
    · exact y
  refine ⟨E, by rw [m]; exact p1, by omega, by rw [hc, mg_l (by omega), q1]; exact p3, by rw [hc] <;> omega, by rw [ho, q2] <;> rfl, fun e he => by rw [ho]; exact r e he, fun e he => ?_, fun e l he hl hk => ?_⟩
  · obtain ⟨e1, e2, e3, e4⟩ := en e he
    have cl' := cl e he
    unfold SR1
    simp only [m, hc, mg_l (show 28 + 1 < 141 by omega), mg_l (show 28 + 2 < 141 by omega), mg_l (show 28 + 3 < 141 by omega), mg_l (show 28 + 4 < 141 by omega)]
    refine ⟨e1, fun z => ?_, fun z => ?_, fun z => ?_⟩
    · obtain ⟨a, b1, b2, b3, b4, b5, b6, b7, b8⟩ := e2 z
      exact ⟨a, b1, b2, b3, b4, b5, b6, b7, b8⟩
    · obtain ⟨l, a1, a2, a3, a4, a5, a6, _⟩ := cl' z
      exact ⟨l, a1, a2, by rw [show 1760 + 5 = 1765 from rfl, p1] <;> omega, a4, a5, a6⟩
    · obtain ⟨o, a1, a2, a3, a4, _⟩ := e3 z
      exact ⟨o, a1, a2, a3, a4⟩
  · rw [m] at hl hk
    obtain ⟨l', a1, a2, a3, a4, a5, a6, a7, a8⟩ := cl e he hk
    have : l' = l := by omega
    subst this
    rw [ho, ho]
    exact ⟨a7, fun j j1 j2 => by rw [ho]; exact a8 j j1 j2⟩
theorem PI_0 {h g : MH} (a : g 142 1765 = 0) (b : g 141 22 = 0) (c : h 28 0 = 0) (d : h 27 3 = 0) (e : g 141 21 = 0) : PI 0 0 0 h g :=
  ⟨⟨a, b, c, d, e⟩, ⟨rfl, rfl, by omega, by omega⟩, fun e he => by
    have : e = 0 := by omega
    subst this
    show 0 ≤ (0 : Int) ∧ (0 : Int) ≤ 3
    omega, fun e he => absurd he (by omega), fun i hi => absurd hi (by omega)⟩
