theorem zNest_in : ∀ w ∈ zNest, w ∈ lw_tbl := by
  intro w hw
  simp only [zNest, List.mem_cons, List.not_mem_nil, or_false] at hw
  rcases hw with rfl | rfl | rfl | rfl | rfl | rfl | rfl | rfl | rfl | rfl | rfl | rfl | rfl
  · exact tin_1 (List.mem_of_getElem? (i := 35) rfl)
  · exact tin_1 (List.mem_of_getElem? (i := 93) rfl)
  · exact tin_1 (List.mem_of_getElem? (i := 99) rfl)
  · exact tin_1 (List.mem_of_getElem? (i := 229) rfl)
  · exact tin_2 (List.mem_of_getElem? (i := 35) rfl)
  · exact tin_2 (List.mem_of_getElem? (i := 37) rfl)
  · exact tin_2 (List.mem_of_getElem? (i := 42) rfl)
  · exact tin_2 (List.mem_of_getElem? (i := 47) rfl)
  · exact tin_2 (List.mem_of_getElem? (i := 76) rfl)
  · exact tin_2 (List.mem_of_getElem? (i := 115) rfl)
  · exact tin_2 (List.mem_of_getElem? (i := 141) rfl)
  · exact tin_2 (List.mem_of_getElem? (i := 162) rfl)
  · exact tin_3 (List.mem_of_getElem? (i := 209) rfl)
theorem zOver_in : ∀ w ∈ zOver, w ∈ lw_tbl := by
  intro w hw
  simp only [zOver, List.mem_cons, List.not_mem_nil, or_false] at hw
  rcases hw with rfl | rfl | rfl
  · exact tin_1 (List.mem_of_getElem? (i := 32) rfl)
  · exact tin_2 (List.mem_of_getElem? (i := 38) rfl)
  · exact tin_2 (List.mem_of_getElem? (i := 39) rfl)
theorem z_strs {X0 : Nat → Prop} {s : State} {args : Array Value} (hgv : (Jvm.Cond.and given_1 narrow_1).before args s = true) (ht : ∀ w ∈ lw_tbl, w.before args s = true) (hA : ∀ a : Nat, a < s.heap.size → ¬ X0 a) : ∀ i : Nat, ∃ q : Nat × Nat, i < 21 → (vk_R (zsO i) (zsI i) (zsX i) q.1 s ∧ va_O "java/lang/String" q.1 X0 s s.heap ∧ va_OF "java/lang/String" "coder" "B" (.int 0) q.1 X0 s s.heap ∧ va_OF "java/lang/String" "value" "[B" (.ref q.2) q.1 X0 s s.heap ∧ va_T .byte q.2 (zsB.getD i []).length (fun j => .int (Int32.ofInt (sch i j))) X0 s s.heap) := by
  intro i
  match i with
  | 0 => obtain ⟨q, v, h⟩ := zst_0 hgv ht hA; exact ⟨(q, v), fun _ => h⟩
  | 1 => obtain ⟨q, v, h⟩ := zst_1 hgv ht hA; exact ⟨(q, v), fun _ => h⟩
  | 2 => obtain ⟨q, v, h⟩ := zst_2 hgv ht hA; exact ⟨(q, v), fun _ => h⟩
  | 3 => obtain ⟨q, v, h⟩ := zst_3 hgv ht hA; exact ⟨(q, v), fun _ => h⟩
  | 4 => obtain ⟨q, v, h⟩ := zst_4 hgv ht hA; exact ⟨(q, v), fun _ => h⟩
  | 5 => obtain ⟨q, v, h⟩ := zst_5 hgv ht hA; exact ⟨(q, v), fun _ => h⟩
  | 6 => obtain ⟨q, v, h⟩ := zst_6 hgv ht hA; exact ⟨(q, v), fun _ => h⟩
  | 7 => obtain ⟨q, v, h⟩ := zst_7 hgv ht hA; exact ⟨(q, v), fun _ => h⟩
  | 8 => obtain ⟨q, v, h⟩ := zst_8 hgv ht hA; exact ⟨(q, v), fun _ => h⟩
  | 9 => obtain ⟨q, v, h⟩ := zst_9 hgv ht hA; exact ⟨(q, v), fun _ => h⟩
  | 10 => obtain ⟨q, v, h⟩ := zst_10 hgv ht hA; exact ⟨(q, v), fun _ => h⟩
  | 11 => obtain ⟨q, v, h⟩ := zst_11 hgv ht hA; exact ⟨(q, v), fun _ => h⟩
  | 12 => obtain ⟨q, v, h⟩ := zst_12 hgv ht hA; exact ⟨(q, v), fun _ => h⟩
  | 13 => obtain ⟨q, v, h⟩ := zst_13 hgv ht hA; exact ⟨(q, v), fun _ => h⟩
  | 14 => obtain ⟨q, v, h⟩ := zst_14 hgv ht hA; exact ⟨(q, v), fun _ => h⟩
  | 15 => obtain ⟨q, v, h⟩ := zst_15 hgv ht hA; exact ⟨(q, v), fun _ => h⟩
  | 16 => obtain ⟨q, v, h⟩ := zst_16 hgv ht hA; exact ⟨(q, v), fun _ => h⟩
  | 17 => obtain ⟨q, v, h⟩ := zst_17 hgv ht hA; exact ⟨(q, v), fun _ => h⟩
  | 18 => obtain ⟨q, v, h⟩ := zst_18 hgv ht hA; exact ⟨(q, v), fun _ => h⟩
  | 19 => obtain ⟨q, v, h⟩ := zst_19 hgv ht hA; exact ⟨(q, v), fun _ => h⟩
  | 20 => obtain ⟨q, v, h⟩ := zst_20 hgv ht hA; exact ⟨(q, v), fun _ => h⟩
  | i + 21 => exact ⟨(0, 0), fun h => absurd h (by omega)⟩
theorem z_cls {s : State} {args : Array Value} (hts : ∀ w ∈ lwg, w.before args s = true) : ∀ k : Nat, ∃ q : ClassId × (Nat → Nat), ∀ x : vw_C, vwCl[k]? = some x → u_Kn s x.1 x.2.1 x.2.2 q.1 q.2 := by
  intro k
  match k with
  | 0 =>
    obtain ⟨c, f, h⟩ := u_known (C := RX0) (T := TX0) (N := 9) (n := 9) hts inX0 (hts _ wd193)
    exact ⟨(c, f), fun x hx => by cases hx; exact h⟩
  | 1 =>
    obtain ⟨c, f, h⟩ := u_known (C := RX1) (T := TX1) (N := 14) (n := 14) hts inX1 (hts _ wd72)
    exact ⟨(c, f), fun x hx => by cases hx; exact h⟩
  | 2 =>
    obtain ⟨c, f, h⟩ := u_known (C := RX2) (T := TX2) (N := 5) (n := 5) hts inX2 (hts _ wd212)
    exact ⟨(c, f), fun x hx => by cases hx; exact h⟩
  | 3 =>
    obtain ⟨c, f, h⟩ := u_known (C := RX3) (T := TX3) (N := 6) (n := 6) hts inX3 (hts _ wd61)
    exact ⟨(c, f), fun x hx => by cases hx; exact h⟩
  | 4 =>
    obtain ⟨c, f, h⟩ := u_known (C := RX4) (T := TX4) (N := 3) (n := 3) hts inX4 (hts _ wd237)
    exact ⟨(c, f), fun x hx => by cases hx; exact h⟩
  | 5 =>
    obtain ⟨c, f, h⟩ := u_known (C := RX5) (T := TX5) (N := 5) (n := 5) hts inX5 (hts _ wd67)
    exact ⟨(c, f), fun x hx => by cases hx; exact h⟩
  | 6 =>
    obtain ⟨c, f, h⟩ := u_known (C := RX6) (T := TX6) (N := 5) (n := 5) hts inX6 (hts _ wd148)
    exact ⟨(c, f), fun x hx => by cases hx; exact h⟩
  | 7 =>
    obtain ⟨c, f, h⟩ := u_known (C := RX7) (T := TX7) (N := 4) (n := 4) hts inX7 (hts _ wd142)
    exact ⟨(c, f), fun x hx => by cases hx; exact h⟩
  | 8 =>
    obtain ⟨c, f, h⟩ := u_known (C := RX8) (T := TX8) (N := 11) (n := 11) hts inX8 (hts _ wd33)
    exact ⟨(c, f), fun x hx => by cases hx; exact h⟩
  | 9 =>
    obtain ⟨c, f, h⟩ := u_known (C := RX9) (T := TX9) (N := 7) (n := 7) hts inX9 (hts _ wd176)
    exact ⟨(c, f), fun x hx => by cases hx; exact h⟩
  | 10 =>
    obtain ⟨c, f, h⟩ := u_known (C := RX10) (T := TX10) (N := 4) (n := 4) hts inX10 (hts _ wd226)
    exact ⟨(c, f), fun x hx => by cases hx; exact h⟩
  | 11 =>
    obtain ⟨c, f, h⟩ := u_known (C := RX11) (T := TX11) (N := 19) (n := 19) hts inX11 (hts _ wd24)
    exact ⟨(c, f), fun x hx => by cases hx; exact h⟩
  | 12 =>
    obtain ⟨c, f, h⟩ := u_known (C := RX12) (T := TX12) (N := 51) (n := 51) hts inX12 (hts _ wd884)
    exact ⟨(c, f), fun x hx => by cases hx; exact h⟩
  | k + 13 => exact ⟨(0, fun _ => 0), fun x hx => by simp at hx⟩
theorem over_arr {t : FieldType} {a : Array Value} {s : State} (h : (Cond.arrayOver (.array t)).before a s = true) : ∃ (comp c : ClassId) (k : Class), s.vm.classes[c]? = some k ∧ k.kind = .array comp (.array t) ∧ s.vm.findClass ("[" ++ (FieldType.array t).toString) = some c := by
  simp only [Cond.before, Cond.holds, Cond.value, beq_iff_eq] at h
  generalize hq : s.vm.findClass (FieldType.array t).toString = q at h
  cases q with
  | none => simp at h
  | some comp =>
    simp only [Option.bind_some, Option.bind_eq_some_iff, Option.map_eq_some_iff] at h
    obtain ⟨c, hi, k, hk, hb⟩ := h
    cases hkind : k.kind with
    | array component ty =>
      rw [hkind] at hb
      simp at hb
      exact ⟨component, c, k, hk, by rw [hkind, hb.1], hb.2⟩
    | _ => rw [hkind] at hb; simp at hb
theorem z_arrs {s : State} {args : Array Value} (hts : ∀ w ∈ lwg, w.before args s = true) (hov : ∀ w ∈ zOver, w.before args s = true) : ∀ t : Nat, ∃ cA : ClassId, ∀ ty : FieldType, (∀ cy : Nat → ClassId, (zTys cy)[t]? = some (cy t, ty)) → ArrOfT s cA ty ∧ va_RA s cA ty := by
  intro t
  match t with
  | 0 =>
    obtain ⟨cA, kA, comp, h1, h2, h3⟩ := Cond.arrayClass_spec (hts _ wd59)
    exact ⟨cA, fun ty hty => by cases hty (fun _ => 0); exact ⟨fun n z => ⟨fun k h => (by cases h), kA, h2, comp, h3⟩, h1⟩⟩
  | 1 =>
    obtain ⟨cA, kA, comp, h1, h2, h3⟩ := Cond.arrayClass_spec (hts _ wd58)
    exact ⟨cA, fun ty hty => by cases hty (fun _ => 0); exact ⟨fun n z => ⟨fun k h => (by cases h), kA, h2, comp, h3⟩, h1⟩⟩
  | 2 =>
    obtain ⟨cA, kA, comp, h1, h2, h3⟩ := Cond.arrayClass_spec (hts _ wd57)
    exact ⟨cA, fun ty hty => by cases hty (fun _ => 0); exact ⟨fun n z => ⟨fun k h => (by cases h), kA, h2, comp, h3⟩, h1⟩⟩
  | 3 =>
    obtain ⟨cA, kA, comp, h1, h2, h3⟩ := Cond.arrayClass_spec (hts _ wd940)
    exact ⟨cA, fun ty hty => by cases hty (fun _ => 0); exact ⟨fun n z => ⟨fun k h => (by cases h), kA, h2, comp, h3⟩, h1⟩⟩
  | 4 =>
    obtain ⟨comp, cA, kA, h1, -, h3, h4, h5⟩ := Cond.arrayOver_spec (hov _ (by simp [zOver]) : (Cond.arrayOver (.object "BottleLine$Plan")).before args s = true)
    exact ⟨cA, fun ty hty => by cases hty (fun _ => 0); exact ⟨fun n z => ⟨fun k h => (by cases h), kA, h3, comp, h4⟩, kA, comp, h3, h4, h1, h5⟩⟩
  | 5 =>
    obtain ⟨comp, cA, kA, h1, -, h3, h4, h5⟩ := Cond.arrayOver_spec (hov _ (by simp [zOver]) : (Cond.arrayOver (.object "BottleLine$Script")).before args s = true)
    exact ⟨cA, fun ty hty => by cases hty (fun _ => 0); exact ⟨fun n z => ⟨fun k h => (by cases h), kA, h3, comp, h4⟩, kA, comp, h3, h4, h1, h5⟩⟩
  | 6 =>
    obtain ⟨comp, cA, kA, h3, h4, h5⟩ := over_arr (hov _ (by simp [zOver]) : (Cond.arrayOver (.array .long)).before args s = true)
    exact ⟨cA, fun ty hty => by cases hty (fun _ => 0); exact ⟨fun n z => ⟨fun k h => (by cases h), kA, h3, comp, h4⟩, h5⟩⟩
  | t + 7 => exact ⟨0, fun ty hty => by have := hty (fun _ => 0); simp [zTys] at this⟩
def g_ini : GH := gI_X12 (gI_X11 (fun _ _ => none))
def h_ini : MH := hI_X12 (hI_X11 (fun _ _ => 0))
set_option maxRecDepth 100000 in
theorem g_ini_ok0 : ∀ c, c < 166 → (decide ((zK c).1 < 13) || decide (24 ≤ (zK c).1)) = true → ∀ k, k < (zK c).2 → g_ini c k = zG c k := by decide +kernel
theorem g_ini_ok (c : Nat) (hc : c < 166) (k : Nat) (hk : k < (zK c).2) (h : (zK c).1 < 13 ∨ 24 ≤ (zK c).1) : g_ini c k = zG c k := g_ini_ok0 c hc (by simpa using h) k hk
theorem arrV_congr {cI : ClassId} {N : Nat} {f f' : Nat → Value} (h : ∀ j, j < N → f j = f' j) : arrV cI N f = arrV cI N f' := by
  unfold arrV
  congr 2
  funext j
  exact h j.1 j.2
theorem z_conv {X : XT} {H : Heap} {h : MH} (hP : va_P (xD X) vwCl (zW (xd X) (xy X) zN g_ini h) H) : va_P (xD X) vwCl (zW (xd X) (xy X) zN zG h) H := by
  intro c q hq
  obtain ⟨hc, rfl⟩ := zW_inv hq
  have h1 := hP c _ (zW_at hc)
  have hok := g_ini_ok c hc
  unfold zE at h1 ⊢
  by_cases c1 : (zK c).1 < 13
  · rw [if_pos c1] at h1 ⊢
    have e : (List.range (zK c).2).map (fun k => zfv (xd X) (zK c).1 k c g_ini h) = (List.range (zK c).2).map (fun k => zfv (xd X) (zK c).1 k c zG h) := by
      apply List.map_congr_left
      intro k hk
      unfold zfv
      rw [hok k (List.mem_range.mp hk) (Or.inl c1)]
    rw [e] at h1
    exact h1
  · rw [if_neg c1] at h1 ⊢
    by_cases c2 : (zK c).1 = 22
    · rw [if_pos c2] at h1 ⊢
      exact h1
    · rw [if_neg c2] at h1 ⊢
      by_cases c3 : 24 ≤ (zK c).1
      · rw [if_pos c3] at h1 ⊢
        have h2 : H[xd X c]? = some (vp_cell _ _) := h1
        show H[xd X c]? = some (vp_cell _ _)
        rw [h2, vp_cell_q, vp_cell_q]
        refine congrArg some (arrV_congr fun j hj => ?_)
        rw [hok j hj (Or.inr c3)]
      · rw [if_neg c3] at h1 ⊢
        exact h1
set_option maxHeartbeats 4000000 in
set_option maxRecDepth 100000 in
/-- the law from its entry, over what is owed of the calls -/
theorem whole_start_open {p : Program} {e : Env} {s : State} {m : MethodId} {below : List Frame} {meth : Method} {c : Code} (l : Launch) {b L : Nat} {xs : Nat → Int32} (hL : L ≤ 3584) (C0 : lw_At p s m meth c b L xs) {RR : Nat → MH → Prop} (ob : Ob_all RR) (hmono : ∀ n h, RR n h → RR (n + 1) h) (h0 : RR 0 h_ini) : W p l e room_1 s m #[Value.ref b] below meth c s.heap [] 0 0 (lw_Z below #[Value.ref b] s) (entryFrame m ([Value.ref b] : List Value).toArray 4) := by
  obtain ⟨hx, hb, hr, hml, hown, htl, hX, hbl, hlocks, hgv⟩ := C0
  have hts : ∀ w ∈ lwg, w.before #[Value.ref b] s = true := fun w hw => htl w (List.mem_filter.mp hw).1
  have hA : ∀ a : Nat, a < s.heap.size → ¬ (fun q : Nat => s.heap.size ≤ q) a := fun a ha q => by
    have q : s.heap.size ≤ a := q
    omega
  obtain ⟨sq, hsq⟩ := Classical.axiomOfChoice (z_strs hgv htl hA)
  obtain ⟨dq, hdq⟩ := Classical.axiomOfChoice (z_cls hts)
  obtain ⟨cy, hcy⟩ := Classical.axiomOfChoice (z_arrs hts (fun w hw => htl w (zOver_in w hw)))
  have hK : va_K (fun k => (dq k).1, fun k => (dq k).2) vwCl (zTys cy) s := by
    refine ⟨fun k q hq => hdq k q hq, fun k q hq => ?_⟩
    match k, hq with
    | 0, hq => cases hq; exact hcy 0 _ (fun _ => rfl)
    | 1, hq => cases hq; exact hcy 1 _ (fun _ => rfl)
    | 2, hq => cases hq; exact hcy 2 _ (fun _ => rfl)
    | 3, hq => cases hq; exact hcy 3 _ (fun _ => rfl)
    | 4, hq => cases hq; exact hcy 4 _ (fun _ => rfl)
    | 5, hq => cases hq; exact hcy 5 _ (fun _ => rfl)
    | 6, hq => cases hq; exact hcy 6 _ (fun _ => rfl)
    | k + 7, hq => simp [zTys] at hq
  generalize hXe : (((fun k => (dq k).1, fun k => (dq k).2), cy, fun c => s.heap.size + c, fun i => (sq i).1, fun i => (sq i).2, s.heap.size) : XT) = X
  have hEX : zEX X s s.heap := by
    subst hXe
    refine ⟨fun w hw => ?_, ⟨va_Zof (htl _ (tin_3 (List.mem_of_getElem? (i := 123) rfl))) (hts _ wd17) (va_eqi (zbl (zbr (zbl (zbl (zbl (zbl (zbl (zbl (zbl (zbr hgv))))))))))) hA, va_Zqof (htl _ (tin_3 (List.mem_of_getElem? (i := 139) rfl))) (hts _ wd19) (zbr (zbr (zbl (zbl (zbl (zbl (zbl (zbl (zbl (zbr hgv)))))))))) hA⟩, fun i hi => hsq i hi⟩
    have h1 := htl w (zNest_in w hw)
    obtain ⟨a, k, y, ho, rfl⟩ := zNest_form w hw
    exact va_Nw.of rfl h1
  have had : zAd X := by subst hXe; exact fun _ => rfl
  have hKX : va_K (xD X) vwCl (zTys (xy X)) s := by subst hXe; exact hK
  have hbX : xb X = s.heap.size := by subst hXe; rfl
  have hao : zAO s := by
    intro w hw
    have h1 := htl w (zOver_in w hw)
    simp only [zOver, List.mem_cons, List.not_mem_nil, or_false] at hw
    rcases hw with rfl | rfl | rfl
    · exact zao_arr (Vm.Alike.refl _) h1
    · exact Cond.arrayOver_alike (Vm.Alike.refl _) h1
    · exact Cond.arrayOver_alike (Vm.Alike.refl _) h1
  clear hXe
  have hl := lv_entry ([.ref b]) (n := 4) (Nat.le_of_ble_eq_true rfl)
  rw [lg_entry_eq]
  have C : Cx ((p, l, e, room_1, s, m), (#[Value.ref b], below, meth, c), X) cL_law 4 RL 40 (some .boolean) := ⟨hx, hb, hml, hown, hts, hKX, hEX, Nat.le_of_eq hbX, ⟨show 40 ≤ 2048 by decide, show 40 * 40 ≤ 84000 by decide⟩, hr, hlocks⟩
  have fz : Fz 0 (fun _ _ => none) (fun _ _ => 0) := fun _ _ _ => ⟨rfl, rfl⟩
  have hb0 : ¬ zA X b := by
    unfold zA
    omega
  refine (show MW ((p, l, e, room_1, s, m), (#[Value.ref b], below, meth, c), X) (lw_Z below #[Value.ref b] s) 4 0 (fun _ _ => none) (fun _ _ => 0) 0 0 0 [(0, .ref b)] [] from ?_) s.heap [] _ ⟨fun k q hq => by simp [zW] at hq, zInj_of had _⟩ va_S.rf hl
  generalize hZ : (((p, l, e, room_1, s, m), (#[Value.ref b], below, meth, c), X) : ZT) = Z at C ⊢
  have eX : zX Z = X := by rw [← hZ]
  have es : zs Z = s := by rw [← hZ]
  have eR : zR Z = room_1 := by rw [← hZ]
  have ea : za Z = #[Value.ref b] := by rw [← hZ]
  have eh : zh Z = meth := by rw [← hZ]
  have ew : zw Z = below := by rw [← hZ]
  clear hZ
  subst eX
  subst es
  subst eh
  subst ew
  have hsz : (zs Z).heap.size = xb (zX Z) + 0 := by rw [hbX]; rfl
  have r1 : (zR Z).cells = 600000 := by rw [eR]; rfl
  have r2 : (zR Z).slots = 7302250 := by rw [eR]; rfl
  refine mw_new (n0 := 0) (ty0 := tyX11) C dL_law_0 had hsz (by decide) fz zk0 (by decide) rfl inX11 tyX11_ok dfX11 wd23 wd24 wd1 ⟨by omega, by omega⟩ ?_
  have fz := Fz.mono (n' := 1) fz (by decide)
  refine mw_dup C dL_law_3 rfl ?_
  refine mw_callI (n0 := 0) (c := 0) [] [rfv (xd (zX Z)) 0] C dL_law_4 had hsz (by decide) hao (I_X11 (zl Z) (zX Z) had _ _ fz) rfl rfl wd25 wd26 wd1 wd27 hd_X11_init rfl (by decide) (by decide) (Nat.le_of_ble_eq_true rfl) ⟨by omega, by omega⟩ ?_
  have fz := fzI_X11 fz
  refine mw_astore_n [(1, rfv (xd (zX Z)) 0), (0, .ref b)] C dL_law_7 rfl (by decide) rfl ?_
  refine mw_new (n0 := 0) (ty0 := tyX12) C dL_law_8 had hsz (by decide) fz zk141 (by decide) rfl inX12 tyX12_ok dfX12 wd883 wd884 wd14 ⟨by omega, by omega⟩ ?_
  have fz := Fz.mono (n' := 142) fz (by decide)
  refine mw_dup C dL_law_11 rfl ?_
  refine mw_callI (n0 := 0) (c := 141) [] [rfv (xd (zX Z)) 141] C dL_law_12 had hsz (by decide) hao (I_X12 (zl Z) (zX Z) had _ _ fz) rfl rfl wd885 wd886 wd14 wd887 hd_X12_init rfl (by decide) (by decide) (Nat.le_of_ble_eq_true rfl) ⟨by omega, by omega⟩ ?_
  refine mw_astore_n [(2, rfv (xd (zX Z)) 141), (1, rfv (xd (zX Z)) 0), (0, .ref b)] C dL_law_15 rfl (by decide) rfl ?_
  refine mw_iconst C dL_law_16 ?_
  refine mw_istore_n [(3, iv 0), (2, rfv (xd (zX Z)) 141), (1, rfv (xd (zX Z)) 0), (0, .ref b)] C dL_law_17 rfl (by decide) rfl ?_
  intro H locs ls hP hS hl
  exact law_loop C ⟨by rw [r1]; decide, by rw [r2]; decide⟩ hX hbl hb0 (by omega) hr hbX eR ea ⟨by decide, by decide⟩ ob hmono hL 513 0 h_ini (by decide) (by decide) (by omega) h0 0 rfl H locs ls ⟨z_conv hP.1, hP.2⟩ hS hl
