/-! ===== work: the whole shift ===== -/
theorem STP_any {E n B x D md : Nat} {os ls : Nat → Nat} {h0 hc : MH} (s : SX E h0) (hx : x < E) (sy : SY h0 x) (k6 : kd h0 x ≠ 6) (c : WC E h0 x D os ls hc) (oD : opnS 0 h0 x = (D : Int)) (hD : D ≤ 3) (hB : B ≤ 600) (w : WI n B md h0 hc) (kw : ∀ c k, 46 ≤ c → c ≤ 53 → hc c k = h0 c k) (hnm : ∀ m : Nat, (m : Int) < h0 35 0 → nmR (h0 46 m) (h0 142 (8 + 16 * m + 13))) (hn0 : h0 35 0 = (n : Int)) (cc : CC md hc) (h1000 : md < 1000) : ∃ hc', F_X0_doStep 49 34 hc = some hc' ∧ STP E n B h0 x D os md hc hc' := by
  have k := s.2.2.2.2.1 x hx
  have h4 : hc 70 4 = 0 := by
    rcases cc.2.2.2 with q | q
    · exact q
    · omega
  have ks : kd h0 x = 0 ∨ (kd h0 x = 1 ∨ kd h0 x = 2 ∨ kd h0 x = 3) ∨ kd h0 x = 4 ∨ kd h0 x = 5 := by omega
  rcases ks with q | q | q | q
  · exact stp_0 s hx sy q c oD hD hB w kw cc h1000 h4
  · exact stp_h s hx sy q c oD hD w kw hnm hn0 cc
  · exact stp_4 s hx sy q c oD w kw cc
  · exact stp_5 s hx sy q c oD hD w kw hnm hn0 cc
def OV (c k : Nat) : Prop := OW c k ∧ ¬ (c = 141 ∧ (k = 1 ∨ k = 30))
theorem w63 {t x E : Nat} {r : Int} {g : MH} (gE : g 142 5 = (E : Int)) (hx : x ≤ 60) (hE : E ≤ 60) (ht : t ≤ 100) (g32 : g 141 32 = 0 ∨ g 141 32 = 1) (hr : r = if g 141 32 ≠ 0 ∨ x < E then 1 else 0) : F_X12_work_63 (t : Int) (x : Int) g = some ((t : Int), hup (hup g 141 30 r) 141 1 0) := by
  have e88 : ∀ v : Int, F_X12_work_88 (t : Int) v g = some ((t : Int), hup (hup g 141 30 v) 141 1 0) := fun v => by
    unfold F_X12_work_88 F_X12_gives F_X12_gives_0 ck
    rw [nx_eq, if_pos (by omega), nx_eq, bind_eq]
  unfold F_X12_work_63 F_X12_work_83 ck
  rw [if_pos (by omega)]
  by_cases q : g 141 32 = 0
  · rw [if_neg (by omega), if_pos (by omega), gE, if_pos (by omega)]
    by_cases q2 : x < E
    · rw [if_neg (by omega), e88, hr, if_pos (Or.inr q2)]
    · rw [if_pos (by omega), e88, hr, if_neg (by omega)]
  · rw [if_pos q, e88, hr, if_pos (Or.inl q)]
def FINW (n B : Nat) (h0 : MH) (md' : Nat) (hF : MH) : Prop := WI n B md' h0 hF ∧ KW h0 hF ∧ (hF 70 0 = 1 ∧ hF 70 2 = (md' : Int) ∧ md' ≤ 1000 ∧ (0 ≤ hF 70 3 ∧ hF 70 3 ≤ 594 * md') ∧ (hF 70 4 = 0 ∨ hF 70 4 = 1) ∧ 0 ≤ hF 70 1 ∧ hF 70 1 ≤ 100)
def FING (n : Nat) (h0 : MH) (md' : Nat) (hF g gF : MH) : Prop := WE n md' h0 hF gF ∧ (gF 141 29 = (md' : Int) ∧ gF 141 31 = hF 70 3 ∧ gF 141 30 = hF 70 4 ∧ gF 141 1 = 0) ∧ Ag OV g gF
theorem stop_l {E n B fu fu' t x D md : Nat} {os ls : Nat → Nat} {h0 hp hc : MH} (s : SX E h0) (hE : h0 142 5 = (E : Int)) (hq : h0 49 0 = (cntS 0 h0 E : Int)) (ht : t ≤ 100) (lb : F_X0_leaveBlocks 49 hp = some hc) (c : WC E h0 x D os ls hc) (xk : x = E ∨ kd h0 x ≠ 6) (w : WI n B md h0 hc) (kw : KW h0 hc) (cc : CC md hc) (h1 : hc 70 1 = (t : Int)) (h0' : hc 70 0 = 1) (stp : x = E ∨ t = 100 ∨ md = 1000) :
    ∃ hF, F_X0_doAll_37 (fu + 1) 49 34 (t : Int) hp = some hF ∧ FINW n B h0 md hF ∧ ∀ g, WG h0 x D os hc g → WE n md h0 hc g → CG2 md hc g → ∃ gF, F_X12_work_19 (fu' + 1) (t : Int) (x : Int) g = some (hF 70 1, gF) ∧ FING n h0 md hF g gF := by
  obtain ⟨a1, a2, -⟩ := s
  obtain ⟨c1, c2, -⟩ := c
  obtain ⟨d1, d2, d3, d4⟩ := cc
  have e49 : hc 49 0 = (cntS 0 h0 E : Int) := by rw [kw _ _ (by omega) (by omega) (by omega) (by omega)]; exact hq
  have cx := cntS_le (b := 0) (h := h0) x E c1
  have clt : x < E → cntS 0 h0 x < cntS 0 h0 E := fun z => cntS_lt (b := 0) (h := h0) z (by
    rw [Nat.zero_add]
    rcases xk with q | q
    · omega
    · exact q)
  have oth : ∀ (g : MH) (r : Int), WG h0 x D os hc g → CG2 md hc g → (r = if g 141 32 ≠ 0 ∨ x < E then 1 else 0) → F_X12_work_19 (fu' + 1) (t : Int) (x : Int) g = some ((t : Int), hup (hup g 141 30 r) 141 1 0) := fun g r wg cg hr => by
    have gE : g 142 5 = (E : Int) := by rw [wg.2.1]; exact hE
    obtain ⟨p1, p2, p3⟩ := cg
    have z := w63 (t := t) (x := x) (E := E) (r := r) (g := g) gE (by omega) a1 ht (by rw [p3]; omega) hr
    rw [F_X12_work_19]
    unfold ck
    rw [if_pos (by omega), gE, if_pos (by omega)]
    by_cases q1 : E ≤ x
    · rw [if_pos (by omega)]; exact z
    · rw [if_neg (by omega), if_pos (by omega)]
      by_cases q2 : t = 100
      · rw [if_pos (by omega)]; exact z
      · rw [if_neg (by omega), p1, if_pos (by omega), if_pos (by omega)]; exact z
  have AG : ∀ (g : MH) (r : Int), Ag OV g (hup (hup g 141 30 r) 141 1 0) := fun g r => (Ag.rf.up (by unfold OV; omega)).up (by unfold OV; omega)
  by_cases q : x = E
  · refine ⟨hc, ?_, ⟨w, kw, h0', d1, d2, d3, by omega, by omega, by omega⟩, fun g wg we cg => ⟨hup (hup g 141 30 (hc 70 4)) 141 1 0, ?_, WE_g (fun k => by rw [hup_n _ _ _ _ _ _ (by omega), hup_n _ _ _ _ _ _ (by omega)]) we, ⟨?_, ?_, ?_, hup_s _ _ _ _⟩, AG g _⟩⟩
    · rw [F_X0_doAll_37]
      unfold ck
      rw [if_pos (by omega), if_neg (by omega), lb, bind_eq, c2, e49, q, if_pos (by omega), if_pos (by omega), if_neg (by omega)]
    · rw [h1]
      refine oth g _ wg cg ?_
      have p3 := cg.2.2
      by_cases z : g 141 32 = 0
      · rw [if_neg (by omega)]; omega
      · rw [if_pos (Or.inl z)]; omega
    · rw [hup_n _ _ _ _ _ _ (by omega), hup_n _ _ _ _ _ _ (by omega)]; exact cg.1
    · rw [hup_n _ _ _ _ _ _ (by omega), hup_n _ _ _ _ _ _ (by omega)]; exact cg.2.1
    · rw [hup_n _ _ _ _ _ _ (by omega), hup_s]
  · have cl := clt (by omega)
    have N : ∀ c k, ¬ (c = 70 ∧ k = 4) → hup hc 70 4 1 c k = hc c k := fun c k z => hup_n _ _ _ _ _ _ z
    refine ⟨hup hc 70 4 1, ?_, ⟨WI_n (fun c k z1 z2 => N c k (by omega)) w, fun c k z1 z2 z3 z4 => by rw [N _ _ (by omega)]; exact kw c k z1 z2 z3 z4, by rw [N _ _ (by omega)]; exact h0', by rw [N _ _ (by omega)]; exact d1, d2, by rw [N _ _ (by omega)]; exact d3, Or.inr (hup_s _ _ _ _), by rw [N _ _ (by omega)]; omega, by rw [N _ _ (by omega)]; omega⟩, fun g wg we cg => ⟨hup (hup g 141 30 1) 141 1 0, ?_, WE_g (fun k => by rw [hup_n _ _ _ _ _ _ (by omega), hup_n _ _ _ _ _ _ (by omega)]) (WE_n (fun c k z1 z2 => N c k (by omega)) we), ⟨?_, ?_, ?_, hup_s _ _ _ _⟩, AG g _⟩⟩
    · rw [F_X0_doAll_37]
      unfold ck
      rw [if_pos (by omega), if_neg (by omega), lb, bind_eq, c2, e49, if_pos (by omega), if_pos (by omega), if_pos (by omega), h1, if_pos (by omega)]
      by_cases z : t = 100
      · rw [if_pos (by omega), nx_eq]
      · rw [if_neg (by omega), d1, if_pos (by omega), if_neg (by omega), nx_eq]
    · rw [N _ _ (by omega), h1]
      exact oth g 1 wg cg (by rw [if_pos (Or.inr (by omega))])
    · rw [hup_n _ _ _ _ _ _ (by omega), hup_n _ _ _ _ _ _ (by omega)]; exact cg.1
    · rw [hup_n _ _ _ _ _ _ (by omega), hup_n _ _ _ _ _ _ (by omega), N _ _ (by omega)]; exact cg.2.1
    · rw [hup_n _ _ _ _ _ _ (by omega), hup_s, hup_s]
theorem all_l {E n B : Nat} {h0 : MH} (s : SX E h0) (hE : h0 142 5 = (E : Int)) (hq : h0 49 0 = (cntS 0 h0 E : Int)) (sy : ∀ e, e < E → SY h0 e) (hB : B ≤ 600) (hnm : ∀ m : Nat, (m : Int) < h0 35 0 → nmR (h0 46 m) (h0 142 (8 + 16 * m + 13))) (hn0 : h0 35 0 = (n : Int)) : ∀ (d fu fu' t x D md : Nat) (os ls : Nat → Nat) (hp hc : MH), t + d = 100 → d < fu → d < fu' → F_X0_leaveBlocks 49 hp = some hc → WC E h0 x D os ls hc → opnS 0 h0 x = (D : Int) → D ≤ 3 → (x = E ∨ kd h0 x ≠ 6) → WI n B md h0 hc → KW h0 hc → CC md hc → hc 70 1 = (t : Int) → hc 70 0 = 1 →
    ∃ (md' : Nat) (hF : MH), F_X0_doAll_37 (fu + 1) 49 34 (t : Int) hp = some hF ∧ FINW n B h0 md' hF ∧
      ∀ g, WG h0 x D os hc g → WE n md h0 hc g → CG2 md hc g → (∀ m, m < 6 → g 142 (8 + 16 * m + 13) = h0 142 (8 + 16 * m + 13)) → ∃ gF, F_X12_work_19 (fu' + 1) (t : Int) (x : Int) g = some (hF 70 1, gF) ∧ FING n h0 md' hF g gF := by
  intro d
  induction d with
  | zero =>
    intro fu fu' t x D md os ls hp hc e hf hf' lb c oD hD xk w kw cc h1 h0'
    obtain ⟨hF, a1, a2, a3⟩ := stop_l (fu := fu) (fu' := fu') s hE hq (show t ≤ 100 by omega) lb c xk w kw cc h1 h0' (Or.inr (Or.inl (by omega)))
    exact ⟨md, hF, a1, a2, fun g g1 g2 g3 _ => a3 g g1 g2 g3⟩
  | succ d ih =>
    intro fu fu' t x D md os ls hp hc e hf hf' lb c oD hD xk w kw cc h1 h0'
    by_cases stp : x = E ∨ t = 100 ∨ md = 1000
    · obtain ⟨hF, a1, a2, a3⟩ := stop_l (fu := fu) (fu' := fu') s hE hq (show t ≤ 100 by omega) lb c xk w kw cc h1 h0' stp
      exact ⟨md, hF, a1, a2, fun g g1 g2 g3 _ => a3 g g1 g2 g3⟩
    obtain ⟨fu, rfl⟩ : ∃ g, fu = g + 1 := ⟨fu - 1, by omega⟩
    obtain ⟨fu', rfl⟩ : ∃ g, fu' = g + 1 := ⟨fu' - 1, by omega⟩
    have c1 := c.1
    have c2 := c.2.1
    have hx : x < E := by omega
    have k6 : kd h0 x ≠ 6 := by
      rcases xk with q | q
      · omega
      · exact q
    have dd2 := cc.2.1
    have dd1 := cc.1
    have cE := s.2.1
    have e60 := s.1
    have cl := cntS_lt (b := 0) (h := h0) (e := x) hx (by rw [Nat.zero_add]; exact k6)
    have e49 : hc 49 0 = (cntS 0 h0 E : Int) := by rw [kw _ _ (by omega) (by omega) (by omega) (by omega)]; exact hq
    have N : ∀ c k, ¬ (c = 70 ∧ k = 1) → hup hc 70 1 ((t : Int) + 1) c k = hc c k := fun c k z => hup_n _ _ _ _ _ _ z
    have cA : WC E h0 x D os ls (hup hc 70 1 ((t : Int) + 1)) := by
      obtain ⟨b1, b2, b3, b4, b5, b6⟩ := c
      refine ⟨b1, by rw [N _ _ (by omega)]; exact b2, by rw [N _ _ (by omega)]; exact b3, fun i hi => by rw [N _ _ (by omega)]; exact b4 i hi, fun i hi => ?_, b6⟩
      rw [N 71 i (by omega), N 72 i (by omega)]
      exact b5 i hi
    have ccA : CC md (hup hc 70 1 ((t : Int) + 1)) := ⟨by rw [N _ _ (by omega)]; exact cc.1, cc.2.1, by rw [N _ _ (by omega)]; exact cc.2.2.1, by rw [N _ _ (by omega)]; exact cc.2.2.2⟩
    obtain ⟨hB1, p1, x1, D1, md1, os1, ls1, q1, q2, q3, q4, q5, q6, q7⟩ := STP_any s hx (sy x hx) k6 cA oD hD hB (WI_n (fun c k z1 z2 => N c k (by omega)) w) (fun c k z1 z2 => by rw [N _ _ (by omega)]; exact kw c k (by omega) (by omega) (by omega) (by omega)) hnm hn0 ccA (by omega)
    obtain ⟨x2, D2, os2, ls2, hC, r1, r2, r3, r4, r5, r6⟩ := lv_l s hE (E - x1) 20000 x1 D1 os1 ls1 hB1 (by have := q1.1; omega) (by omega) q2 q1
    have V : ∀ c k, ¬ (70 ≤ c ∧ c ≤ 72) → hC c k = hB1 c k := fun c k z => r5 c k (by omega) (by omega) (by omega)
    have V7 : ∀ k, k ≤ 4 → hC 70 k = hB1 70 k := fun k z => r5 _ _ (by omega) (by omega) (by omega)
    have D23 : D2 ≤ 3 := by
      have := s.2.2.2.1 x2 r2.1
      omega
    obtain ⟨md', hF, z1, z2, z3⟩ := ih fu fu' (t + 1) x2 D2 md1 os2 ls2 hB1 hC (by omega) (by omega) (by omega) r1 r2 r3 D23 r4 (WI_n (fun c k a b => V c k (by omega)) q3) (fun c k a1 a2 a3 a4 => by rw [V c k a4, q4 c k a1 a2 a3 a4, N _ _ (by omega)]; exact kw c k a1 a2 a3 a4) ⟨by rw [V7 _ (by omega)]; exact q5.1, q5.2.1, by rw [V7 _ (by omega)]; exact q5.2.2.1, by rw [V7 _ (by omega)]; exact q5.2.2.2⟩ (by rw [V7 _ (by omega), q6.2, hup_s]; omega) (by rw [V7 _ (by omega), q6.1, N _ _ (by omega)]; exact h0')
    refine ⟨md', hF, ?_, z2, fun g wg we cg gn => ?_⟩
    · rw [← z1, F_X0_doAll_37]
      unfold ck
      rw [if_pos (by omega), if_neg (by omega), lb, bind_eq, c2, e49, if_pos (by omega), if_pos (by omega), if_pos (by omega), h1, if_pos (by omega), if_neg (by omega), dd1, if_pos (by omega), if_pos (by omega), nx_eq, p1, bind_eq, show (t : Int) + 1 = ((t + 1 : Nat) : Int) by omega]
    · have wgA : WG h0 x D os (hup hc 70 1 ((t : Int) + 1)) g := ⟨wg.1, wg.2.1, fun i hi hk => by rw [N _ _ (by omega)]; exact wg.2.2.1 i hi hk, wg.2.2.2⟩
      obtain ⟨g1, y1, y2, y3, y4, y5⟩ := q7 g wgA (WE_n (fun c k a b => N c k (by omega)) we) ⟨cg.1, by rw [N _ _ (by omega)]; exact cg.2.1, by rw [N _ _ (by omega)]; exact cg.2.2⟩ gn
      obtain ⟨g2, v1, v2, v3⟩ := r6 20000 g1 (by omega) y2
      obtain ⟨gF, u1, u2, u3, u4⟩ := z3 g2 v2 (WE_g (fun k => v3 _ _ (by omega)) (WE_n (fun c k a b => V c k (by omega)) y3)) ⟨by rw [v3 _ _ (by omega)]; exact y4.1, by rw [v3 _ _ (by omega), V7 _ (by omega)]; exact y4.2.1, by rw [v3 _ _ (by omega), V7 _ (by omega)]; exact y4.2.2⟩ (fun m hm => by rw [v3 _ _ (by omega), y5 _ _ (by unfold OW OM OG O3; omega)]; exact gn m hm)
      have gE : g 142 5 = (E : Int) := by rw [wg.2.1]; exact hE
      have p29 := cg.1
      refine ⟨gF, ?_, u2, u3, fun c k z => ?_⟩
      · rw [← u1, F_X12_work_19]
        unfold ck
        have be : F_X12_behindEnds (x1 : Int) g1 = some ((x2 : Int), g2) := v1
        rw [if_pos (by omega), gE, if_pos (by omega), if_neg (by omega), if_pos (by omega), if_neg (by omega), p29, if_pos (by omega), if_neg (by omega), y1, bind_eq]
        dsimp only
        rw [be, bind_eq, show (t : Int) + 1 = ((t + 1 : Nat) : Int) by omega]
      · have zz := z.1
        rw [u4 c k z, v3 c k zz.2.2.1, y5 c k zz]
