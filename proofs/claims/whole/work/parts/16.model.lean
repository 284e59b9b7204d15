/-! BottleLineModel.status()I -/
def F_X12_status_0 (h : MH) : Option (Int × MH) :=
  some ((h 141 1), h)
set_option maxRecDepth 100000 in
theorem T_X12_status_0 {Z : ZT} (C : Cx Z cX12_status 1 RX12 1 (some .int)) (h : MH) (t : (Int × MH)) (hF : F_X12_status_0 h = some t) : MW Z (Qm Z (some (iv t.1)) zN zG t.2 0 0) 1 zN zG h 0 0 0 [(0, rfv (xd (zX Z)) 141)] [] := by
  unfold F_X12_status_0 at hF
  refine mw_aload_n 0 C dX12_status_0 rfl rfl ?_
  refine mw_get (k := 1) (T := TX12) (v := iv (h 141 1)) C dX12_status_1 zn141 zk141 (by decide) rfl inX12 (by decide) wd890 rfl rfl ?_
  cases hF
  exact mw_iret C dX12_status_4 rfl rfl
def F_X12_status (h : MH) : Option (Int × MH) := F_X12_status_0 h
theorem T_X12_status (l : Launch) (X : XT) (h : MH) (t : (Int × MH)) (hF : F_X12_status h = some t) : Ct l X yX12_status cX12_status 1 (some .int) 1 [rfv (xd X) 141] zN zG h (some (iv t.1)) zN zG t.2 0 0 := by
  refine Ct.head (by decide) (Nat.le_of_ble_eq_true rfl) (fun Z hX hl _ _ _ C => ?_)
  subst hX
  subst hl
  exact (T_X12_status_0 C _ _ hF)
/-! BottleLineModel.top()J -/
def F_X12_top_0 (h : MH) : Option (Int × MH) :=
  some ((h 141 2), h)
set_option maxRecDepth 100000 in
theorem T_X12_top_0 {Z : ZT} (C : Cx Z cX12_top 1 RX12 1 (some .long)) (h : MH) (t : (Int × MH)) (hF : F_X12_top_0 h = some t) : MW Z (Qm Z (some (lvv t.1)) zN zG t.2 0 0) 1 zN zG h 0 0 0 [(0, rfv (xd (zX Z)) 141)] [] := by
  unfold F_X12_top_0 at hF
  refine mw_aload_n 0 C dX12_top_0 rfl rfl ?_
  refine mw_get (k := 2) (T := TX12) (v := lvv (h 141 2)) C dX12_top_1 zn141 zk141 (by decide) rfl inX12 (by decide) wd891 rfl rfl ?_
  cases hF
  exact mw_lret C dX12_top_4 rfl rfl
def F_X12_top (h : MH) : Option (Int × MH) := F_X12_top_0 h
theorem T_X12_top (l : Launch) (X : XT) (h : MH) (t : (Int × MH)) (hF : F_X12_top h = some t) : Ct l X yX12_top cX12_top 1 (some .long) 1 [rfv (xd X) 141] zN zG h (some (lvv t.1)) zN zG t.2 0 0 := by
  refine Ct.head (by decide) (Nat.le_of_ble_eq_true rfl) (fun Z hX hl _ _ _ C => ?_)
  subst hX
  subst hl
  exact (T_X12_top_0 C _ _ hF)
/-! BottleLineModel.bottom()J -/
def F_X12_bottom_0 (h : MH) : Option (Int × MH) :=
  some ((h 141 3), h)
set_option maxRecDepth 100000 in
theorem T_X12_bottom_0 {Z : ZT} (C : Cx Z cX12_bottom 1 RX12 1 (some .long)) (h : MH) (t : (Int × MH)) (hF : F_X12_bottom_0 h = some t) : MW Z (Qm Z (some (lvv t.1)) zN zG t.2 0 0) 1 zN zG h 0 0 0 [(0, rfv (xd (zX Z)) 141)] [] := by
  unfold F_X12_bottom_0 at hF
  refine mw_aload_n 0 C dX12_bottom_0 rfl rfl ?_
  refine mw_get (k := 3) (T := TX12) (v := lvv (h 141 3)) C dX12_bottom_1 zn141 zk141 (by decide) rfl inX12 (by decide) wd892 rfl rfl ?_
  cases hF
  exact mw_lret C dX12_bottom_4 rfl rfl
def F_X12_bottom (h : MH) : Option (Int × MH) := F_X12_bottom_0 h
theorem T_X12_bottom (l : Launch) (X : XT) (h : MH) (t : (Int × MH)) (hF : F_X12_bottom h = some t) : Ct l X yX12_bottom cX12_bottom 1 (some .long) 1 [rfv (xd X) 141] zN zG h (some (lvv t.1)) zN zG t.2 0 0 := by
  refine Ct.head (by decide) (Nat.le_of_ble_eq_true rfl) (fun Z hX hl _ _ _ C => ?_)
  subst hX
  subst hl
  exact (T_X12_bottom_0 C _ _ hF)
/-! BottleLineModel.is(I)Z -/
def F_X12_is_0 (x1 : Int) (h : MH) : Option (Int × MH) :=
  nx (hup h 141 1 x1) fun h1 =>
  ck (in32 x1) <|
  if x1 ≠ 0 then
    some (0, h1)
  else
    some (1, h1)
set_option maxRecDepth 100000 in
theorem T_X12_is_0 {Z : ZT} (C : Cx Z cX12_is 2 RX12 1 (some .boolean)) (x1 : Int) (h : MH) (t : (Int × MH)) (hF : F_X12_is_0 x1 h = some t) : MW Z (Qm Z (some (iv t.1)) zN zG t.2 0 0) 2 zN zG h 0 0 0 [(0, rfv (xd (zX Z)) 141), (1, iv x1)] [] := by
  unfold F_X12_is_0 at hF
  refine mw_aload_n 0 C dX12_is_0 rfl rfl ?_
  refine mw_iload_n 1 C dX12_is_1 rfl rfl ?_
  obtain ⟨h1, eh1, hF⟩ := nx_some hF
  refine mw_put (k := 1) (T := TX12) (ty0 := tyX12) (x := x1) C dX12_is_2 zn141 zk141 (by decide) rfl inX12 tyX12_ok nmX12 (by decide) wd890 rfl rfl rfl rfl rfl (by decide) (mw_h eh1 ?_)
  refine mw_iload_n 1 C dX12_is_5 rfl rfl ?_
  obtain ⟨g2, hF⟩ := ck_some hF
  rcases ite_some hF with ⟨c3, hF⟩ | ⟨c3, hF⟩
  · refine mw_if_ne_t (tgt := 13) C dX12_is_6 (by decide) g2 c3 ?_
    refine mw_iconst C dX12_is_13 ?_
    cases hF
    exact mw_zret C dX12_is_14 (Or.inl rfl) rfl rfl
  · refine mw_if_ne_f (tgt := 13) C dX12_is_6 (by decide) g2 c3 ?_
    refine mw_iconst C dX12_is_9 ?_
    refine mw_goto (tgt := 14) C dX12_is_10 (by decide) ?_
    cases hF
    exact mw_zret C dX12_is_14 (Or.inr rfl) rfl rfl
def F_X12_is (x1 : Int) (h : MH) : Option (Int × MH) := F_X12_is_0 x1 h
theorem T_X12_is (l : Launch) (X : XT) (x1 : Int) (h : MH) (t : (Int × MH)) (hF : F_X12_is x1 h = some t) : Ct l X yX12_is cX12_is 2 (some .boolean) 1 [rfv (xd X) 141, iv x1] zN zG h (some (iv t.1)) zN zG t.2 0 0 := by
  refine Ct.head (by decide) (Nat.le_of_ble_eq_true rfl) (fun Z hX hl _ _ _ C => ?_)
  subst hX
  subst hl
  exact (T_X12_is_0 C x1 _ _ hF)
/-! BottleLineModel.refuse(I)I -/
def F_X12_refuse_0 (x1 : Int) (h : MH) : Option (Int × MH) :=
  nx (hup h 141 1 x1) fun h1 =>
  some ((-1), h1)
set_option maxRecDepth 100000 in
theorem T_X12_refuse_0 {Z : ZT} (C : Cx Z cX12_refuse 2 RX12 1 (some .int)) (x1 : Int) (h : MH) (t : (Int × MH)) (hF : F_X12_refuse_0 x1 h = some t) : MW Z (Qm Z (some (iv t.1)) zN zG t.2 0 0) 2 zN zG h 0 0 0 [(0, rfv (xd (zX Z)) 141), (1, iv x1)] [] := by
  unfold F_X12_refuse_0 at hF
  refine mw_aload_n 0 C dX12_refuse_0 rfl rfl ?_
  refine mw_iload_n 1 C dX12_refuse_1 rfl rfl ?_
  obtain ⟨h1, eh1, hF⟩ := nx_some hF
  refine mw_put (k := 1) (T := TX12) (ty0 := tyX12) (x := x1) C dX12_refuse_2 zn141 zk141 (by decide) rfl inX12 tyX12_ok nmX12 (by decide) wd890 rfl rfl rfl rfl rfl (by decide) (mw_h eh1 ?_)
  refine mw_iconst C dX12_refuse_5 ?_
  cases hF
  exact mw_iret C dX12_refuse_6 rfl rfl
def F_X12_refuse (x1 : Int) (h : MH) : Option (Int × MH) := F_X12_refuse_0 x1 h
theorem T_X12_refuse (l : Launch) (X : XT) (x1 : Int) (h : MH) (t : (Int × MH)) (hF : F_X12_refuse x1 h = some t) : Ct l X yX12_refuse cX12_refuse 2 (some .int) 1 [rfv (xd X) 141, iv x1] zN zG h (some (iv t.1)) zN zG t.2 0 0 := by
  refine Ct.head (by decide) (Nat.le_of_ble_eq_true rfl) (fun Z hX hl _ _ _ C => ?_)
  subst hX
  subst hl
  exact (T_X12_refuse_0 C x1 _ _ hF)
/-! BottleLineModel.gives(J)I -/
def F_X12_gives_0 (x1 : Int) (h : MH) : Option (Int × MH) :=
  nx (hup h 141 1 0) fun h1 =>
  some (x1, h1)
set_option maxRecDepth 100000 in
theorem T_X12_gives_0 {Z : ZT} (C : Cx Z cX12_gives 3 RX12 1 (some .int)) (x1 : Int) (h : MH) (t : (Int × MH)) (hF : F_X12_gives_0 x1 h = some t) : MW Z (Qm Z (some (iv t.1)) zN zG t.2 0 0) 3 zN zG h 0 0 0 [(0, rfv (xd (zX Z)) 141), (1, lvv x1)] [] := by
  unfold F_X12_gives_0 at hF
  refine mw_aload_n 0 C dX12_gives_0 rfl rfl ?_
  refine mw_iconst C dX12_gives_1 ?_
  obtain ⟨h1, eh1, hF⟩ := nx_some hF
  refine mw_put (k := 1) (T := TX12) (ty0 := tyX12) (x := 0) C dX12_gives_2 zn141 zk141 (by decide) rfl inX12 tyX12_ok nmX12 (by decide) wd890 rfl rfl rfl rfl rfl (by decide) (mw_h eh1 ?_)
  refine mw_lload_n 1 C dX12_gives_5 rfl rfl ?_
  refine mw_l2i C dX12_gives_6 ?_
  cases hF
  exact mw_iret C dX12_gives_7 rfl rfl
def F_X12_gives (x1 : Int) (h : MH) : Option (Int × MH) := F_X12_gives_0 x1 h
theorem T_X12_gives (l : Launch) (X : XT) (x1 : Int) (h : MH) (t : (Int × MH)) (hF : F_X12_gives x1 h = some t) : Ct l X yX12_gives cX12_gives 3 (some .int) 1 [rfv (xd X) 141, lvv x1] zN zG h (some (iv t.1)) zN zG t.2 0 0 := by
  refine Ct.head (by decide) (Nat.le_of_ble_eq_true rfl) (fun Z hX hl _ _ _ C => ?_)
  subst hX
  subst hl
  exact (T_X12_gives_0 C x1 _ _ hF)
/-! BottleLineModel.isTray(I)Z -/
def F_X12_isTray_0 (x0 : Int) (h : MH) : Option (Int × MH) :=
  ck (in32 x0) <|
  if x0 < 0 then
    some (0, h)
  else
    if 4 ≤ x0 then
      some (0, h)
    else
      some (1, h)
set_option maxRecDepth 100000 in
theorem T_X12_isTray_0 {Z : ZT} (C : Cx Z cX12_isTray 1 RX12 1 (some .boolean)) (x0 : Int) (h : MH) (t : (Int × MH)) (hF : F_X12_isTray_0 x0 h = some t) : MW Z (Qm Z (some (iv t.1)) zN zG t.2 0 0) 1 zN zG h 0 0 0 [(0, iv x0)] [] := by
  unfold F_X12_isTray_0 at hF
  refine mw_iload_n 0 C dX12_isTray_0 rfl rfl ?_
  obtain ⟨g1, hF⟩ := ck_some hF
  rcases ite_some hF with ⟨c2, hF⟩ | ⟨c2, hF⟩
  · refine mw_if_lt_t (tgt := 13) C dX12_isTray_1 (by decide) g1 c2 ?_
    refine mw_iconst C dX12_isTray_13 ?_
    cases hF
    exact mw_zret C dX12_isTray_14 (Or.inl rfl) rfl rfl
  · refine mw_if_lt_f (tgt := 13) C dX12_isTray_1 (by decide) g1 c2 ?_
    refine mw_iload_n 0 C dX12_isTray_4 rfl rfl ?_
    refine mw_iconst C dX12_isTray_5 ?_
    rcases ite_some hF with ⟨c3, hF⟩ | ⟨c3, hF⟩
    · refine mw_icmp_ge_t (tgt := 13) C dX12_isTray_6 (by decide) g1 (by decide) c3 ?_
      refine mw_iconst C dX12_isTray_13 ?_
      cases hF
      exact mw_zret C dX12_isTray_14 (Or.inl rfl) rfl rfl
    · refine mw_icmp_ge_f (tgt := 13) C dX12_isTray_6 (by decide) g1 (by decide) c3 ?_
      refine mw_iconst C dX12_isTray_9 ?_
      refine mw_goto (tgt := 14) C dX12_isTray_10 (by decide) ?_
      cases hF
      exact mw_zret C dX12_isTray_14 (Or.inr rfl) rfl rfl
def F_X12_isTray (x0 : Int) (h : MH) : Option (Int × MH) := F_X12_isTray_0 x0 h
theorem T_X12_isTray (l : Launch) (X : XT) (x0 : Int) (h : MH) (t : (Int × MH)) (hF : F_X12_isTray x0 h = some t) : Ct l X yX12_isTray cX12_isTray 1 (some .boolean) 1 [iv x0] zN zG h (some (iv t.1)) zN zG t.2 0 0 := by
  refine Ct.head (by decide) (Nat.le_of_ble_eq_true rfl) (fun Z hX hl _ _ _ C => ?_)
  subst hX
  subst hl
  exact (T_X12_isTray_0 C x0 _ _ hF)
/-! BottleLineModel.cut(JI)J -/
def F_X12_cut_0 (x0 : Int) (x2 : Int) (h : MH) : Option (Int × MH) :=
  ck (in32 x2) <|
  if x2 ≠ 0 then
    if x2 ≠ 1 then
      if x2 ≠ 2 then
        some (x0, h)
      else
        ck (in32 (w32 x0)) <|
        some ((w32 x0), h)
    else
      ck (in32 (w16 (w32 x0))) <|
      some ((w16 (w32 x0)), h)
  else
    ck (in32 (w8 (w32 x0))) <|
    some ((w8 (w32 x0)), h)
set_option maxRecDepth 100000 in
theorem T_X12_cut_0 {Z : ZT} (C : Cx Z cX12_cut 3 RX12 1 (some .long)) (x0 : Int) (x2 : Int) (h : MH) (t : (Int × MH)) (hF : F_X12_cut_0 x0 x2 h = some t) : MW Z (Qm Z (some (lvv t.1)) zN zG t.2 0 0) 3 zN zG h 0 0 0 [(0, lvv x0), (2, iv x2)] [] := by
  unfold F_X12_cut_0 at hF
  refine mw_iload_n 1 C dX12_cut_0 rfl rfl ?_
  obtain ⟨g1, hF⟩ := ck_some hF
  rcases ite_some hF with ⟨c2, hF⟩ | ⟨c2, hF⟩
  · refine mw_if_ne_t (tgt := 11) C dX12_cut_1 (by decide) g1 c2 ?_
    refine mw_iload_n 1 C dX12_cut_11 rfl rfl ?_
    refine mw_iconst C dX12_cut_12 ?_
    rcases ite_some hF with ⟨c3, hF⟩ | ⟨c3, hF⟩
    · refine mw_icmp_ne_t (tgt := 23) C dX12_cut_13 (by decide) g1 (by decide) c3 ?_
      refine mw_iload_n 1 C dX12_cut_23 rfl rfl ?_
      refine mw_iconst C dX12_cut_24 ?_
      rcases ite_some hF with ⟨c4, hF⟩ | ⟨c4, hF⟩
      · refine mw_icmp_ne_t (tgt := 34) C dX12_cut_25 (by decide) g1 (by decide) c4 ?_
        refine mw_lload_n 0 C dX12_cut_34 rfl rfl ?_
        cases hF
        exact mw_lret C dX12_cut_35 rfl rfl
      · refine mw_icmp_ne_f (tgt := 34) C dX12_cut_25 (by decide) g1 (by decide) c4 ?_
        refine mw_lload_n 0 C dX12_cut_28 rfl rfl ?_
        refine mw_l2iw C dX12_cut_29 ?_
        obtain ⟨g5, hF⟩ := ck_some hF
        refine mw_i2l C dX12_cut_30 g5 ?_
        refine mw_goto (tgt := 35) C dX12_cut_31 (by decide) ?_
        cases hF
        exact mw_lret C dX12_cut_35 rfl rfl
    · refine mw_icmp_ne_f (tgt := 23) C dX12_cut_13 (by decide) g1 (by decide) c3 ?_
      refine mw_lload_n 0 C dX12_cut_16 rfl rfl ?_
      refine mw_l2iw C dX12_cut_17 ?_
      refine mw_i2s C dX12_cut_18 ?_
      obtain ⟨g6, hF⟩ := ck_some hF
      refine mw_i2l C dX12_cut_19 g6 ?_
      refine mw_goto (tgt := 35) C dX12_cut_20 (by decide) ?_
      cases hF
      exact mw_lret C dX12_cut_35 rfl rfl
  · refine mw_if_ne_f (tgt := 11) C dX12_cut_1 (by decide) g1 c2 ?_
    refine mw_lload_n 0 C dX12_cut_4 rfl rfl ?_
    refine mw_l2iw C dX12_cut_5 ?_
    refine mw_i2b C dX12_cut_6 ?_
    obtain ⟨g7, hF⟩ := ck_some hF
    refine mw_i2l C dX12_cut_7 g7 ?_
    refine mw_goto (tgt := 35) C dX12_cut_8 (by decide) ?_
    cases hF
    exact mw_lret C dX12_cut_35 rfl rfl
def F_X12_cut (x0 : Int) (x2 : Int) (h : MH) : Option (Int × MH) := F_X12_cut_0 x0 x2 h
theorem T_X12_cut (l : Launch) (X : XT) (x0 : Int) (x2 : Int) (h : MH) (t : (Int × MH)) (hF : F_X12_cut x0 x2 h = some t) : Ct l X yX12_cut cX12_cut 3 (some .long) 1 [lvv x0, iv x2] zN zG h (some (lvv t.1)) zN zG t.2 0 0 := by
  refine Ct.head (by decide) (Nat.le_of_ble_eq_true rfl) (fun Z hX hl _ _ _ C => ?_)
  subst hX
  subst hl
  exact (T_X12_cut_0 C x0 x2 _ _ hF)
/-! BottleLineModel.tray(III)Z -/
def F_X12_tray_26 (h : MH) : Option (Int × MH) :=
  (F_X12_is 1 h).bind fun q1 =>
  ck (q1.1 = 0 ∨ q1.1 = 1) <|
  some (q1.1, q1.2)
set_option maxRecDepth 100000 in
theorem T_X12_tray_26 {Z : ZT} (C : Cx Z cX12_tray 5 RX12 2 (some .boolean)) (h : MH) (t : (Int × MH)) (hF : F_X12_tray_26 h = some t) : MW Z (Qm Z (some (iv t.1)) zN zG t.2 0 0) 5 zN zG h 0 0 26 [(0, rfv (xd (zX Z)) 141)] [] := by
  unfold F_X12_tray_26 at hF
  refine mw_aload_n 0 C dX12_tray_26 rfl rfl ?_
  refine mw_iconst C dX12_tray_27 ?_
  obtain ⟨q1, hq1, hF⟩ := bind_some hF
  refine mw_callV (c := 141) [iv 1] [] C dX12_tray_28 (T_X12_is (zl Z) (zX Z) 1 _ _ hq1) rfl zn141 zk141 (by decide) rfl wd960 wd961 wd1357 wd14 wd962 hd_X12_is rfl (by decide) (by decide) (Nat.le_of_ble_eq_true rfl) ⟨Nat.zero_le _, Nat.zero_le _⟩ ?_
  obtain ⟨g2, hF⟩ := ck_some hF
  cases hF
  exact mw_zret C dX12_tray_31 g2 rfl rfl
def F_X12_tray_49 : Nat → Int → Int → Int → MH → Option (Int × MH)
  | 0, _, _, _, _ => none
  | n + 1, x1, x3, x4, h =>
    ck (in32 x4) <|
    ck (in32 x3) <|
    if x3 ≤ x4 then
      (F_X12_is 0 h).bind fun q4 =>
      ck (q4.1 = 0 ∨ q4.1 = 1) <|
      some (q4.1, q4.2)
    else
      ck (0 ≤ ((60 * x1) + x4) ∧ ((60 * x1) + x4) < 240) <|
      nx (hup h 145 ((60 * x1) + x4).toNat 0) fun h7 =>
      F_X12_tray_49 n x1 x3 (x4 + 1) h7
set_option maxRecDepth 100000 in
theorem T_X12_tray_49 {Z : ZT} (C : Cx Z cX12_tray 5 RX12 2 (some .boolean)) : ∀ (n : Nat) (x1 : Int) (x3 : Int) (x4 : Int) (h : MH) (t : (Int × MH)), F_X12_tray_49 n x1 x3 x4 h = some t → MW Z (Qm Z (some (iv t.1)) zN zG t.2 0 0) 5 zN zG h 0 0 49 [(0, rfv (xd (zX Z)) 141), (1, iv x1), (3, iv x3), (4, iv x4)] [] := by
  intro n
  induction n with
  | zero =>
    intros
    rename_i hF
    exact absurd hF (by intro q; cases q)
  | succ n ih =>
    intro x1 x3 x4 h t hF
    rw [F_X12_tray_49] at hF
    refine mw_iload 3 C dX12_tray_49 rfl ?_
    refine mw_iload_n 2 C dX12_tray_51 rfl rfl ?_
    obtain ⟨g1, hF⟩ := ck_some hF
    obtain ⟨g2, hF⟩ := ck_some hF
    rcases ite_some hF with ⟨c3, hF⟩ | ⟨c3, hF⟩
    · refine mw_icmp_ge_t (tgt := 74) C dX12_tray_52 (by decide) g1 g2 c3 ?_
      refine mw_aload_n 0 C dX12_tray_74 rfl rfl ?_
      refine mw_iconst C dX12_tray_75 ?_
      obtain ⟨q4, hq4, hF⟩ := bind_some hF
      refine mw_callV (c := 141) [iv 0] [] C dX12_tray_76 (T_X12_is (zl Z) (zX Z) 0 _ _ hq4) rfl zn141 zk141 (by decide) rfl wd960 wd961 wd1357 wd14 wd962 hd_X12_is rfl (by decide) (by decide) (Nat.le_of_ble_eq_true rfl) ⟨Nat.zero_le _, Nat.zero_le _⟩ ?_
      obtain ⟨g5, hF⟩ := ck_some hF
      cases hF
      exact mw_zret C dX12_tray_79 g5 rfl rfl
    · refine mw_icmp_ge_f (tgt := 74) C dX12_tray_52 (by decide) g1 g2 c3 ?_
      refine mw_aload_n 0 C dX12_tray_55 rfl rfl ?_
      refine mw_get (k := 6) (T := TX12) (v := rfv (xd (zX Z)) 145) C dX12_tray_56 zn141 zk141 (by decide) rfl inX12 (by decide) wd895 rfl (zfv_r rfl zg_141_6) ?_
      refine mw_bipush C dX12_tray_59 bp_60 ?_
      refine mw_iload_n 1 C dX12_tray_61 rfl rfl ?_
      refine mw_imul C dX12_tray_62 ?_
      refine mw_iload 3 C dX12_tray_63 rfl ?_
      refine mw_iadd C dX12_tray_65 ?_
      refine mw_lconst (a := 0) C dX12_tray_66 lc_0 ?_
      obtain ⟨g6, hF⟩ := ck_some hF
      obtain ⟨h7, eh7, hF⟩ := nx_some hF
      refine mw_last C dX12_tray_67 zn145 zk145 (by decide) g6 (mw_h eh7 ?_)
      refine mw_iinc 3 [(4, iv (x4 + 1)), (0, rfv (xd (zX Z)) 141), (1, iv x1), (3, iv x3)] C dX12_tray_68 rfl (by decide) rfl ?_
      refine mw_goto (tgt := 49) C dX12_tray_71 (by decide) ?_
      refine mw_sub [1, 2, 3, 0] rfl ?_
      exact ih x1 x3 (x4 + 1) _ _ hF
def F_X12_tray_0 (x1 : Int) (x2 : Int) (x3 : Int) (h : MH) : Option (Int × MH) :=
  (F_X12_isTray x1 h).bind fun q1 =>
  ck (in32 q1.1) <|
  if q1.1 = 0 then
    F_X12_tray_26 q1.2
  else
    ck (in32 x2) <|
    if x2 < 0 then
      F_X12_tray_26 q1.2
    else
      if 3 < x2 then
        F_X12_tray_26 q1.2
      else
        ck (in32 x3) <|
        if x3 < 0 then
          F_X12_tray_26 q1.2
        else
          if x3 ≤ 60 then
            ck (0 ≤ x1 ∧ x1 < 4) <|
            nx (hup q1.2 143 x1.toNat x2) fun h11 =>
            nx (hup h11 144 x1.toNat x3) fun h12 =>
            F_X12_tray_49 20000 x1 x3 0 h12
          else
            F_X12_tray_26 q1.2
set_option maxRecDepth 100000 in
theorem T_X12_tray_0 {Z : ZT} (C : Cx Z cX12_tray 5 RX12 2 (some .boolean)) (x1 : Int) (x2 : Int) (x3 : Int) (h : MH) (t : (Int × MH)) (hF : F_X12_tray_0 x1 x2 x3 h = some t) : MW Z (Qm Z (some (iv t.1)) zN zG t.2 0 0) 5 zN zG h 0 0 0 [(0, rfv (xd (zX Z)) 141), (1, iv x1), (2, iv x2), (3, iv x3)] [] := by
  unfold F_X12_tray_0 at hF
  refine mw_iload_n 1 C dX12_tray_0 rfl rfl ?_
  obtain ⟨q1, hq1, hF⟩ := bind_some hF
  refine mw_callS [iv x1] [] C dX12_tray_1 (T_X12_isTray (zl Z) (zX Z) x1 _ _ hq1) rfl wd957 wd958 wd14 wd959 hd_X12_isTray rfl (by decide) (by decide) (Nat.le_of_ble_eq_true rfl) ⟨Nat.zero_le _, Nat.zero_le _⟩ ?_
  obtain ⟨g2, hF⟩ := ck_some hF
  rcases ite_some hF with ⟨c3, hF⟩ | ⟨c3, hF⟩
  · refine mw_if_eq_t (tgt := 26) C dX12_tray_4 (by decide) g2 c3 ?_
    refine mw_sub [0] rfl ?_
    exact T_X12_tray_26 C _ _ hF
  · refine mw_if_eq_f (tgt := 26) C dX12_tray_4 (by decide) g2 c3 ?_
    refine mw_iload_n 2 C dX12_tray_7 rfl rfl ?_
    obtain ⟨g4, hF⟩ := ck_some hF
    rcases ite_some hF with ⟨c5, hF⟩ | ⟨c5, hF⟩
    · refine mw_if_lt_t (tgt := 26) C dX12_tray_8 (by decide) g4 c5 ?_
      refine mw_sub [0] rfl ?_
      exact T_X12_tray_26 C _ _ hF
    · refine mw_if_lt_f (tgt := 26) C dX12_tray_8 (by decide) g4 c5 ?_
      refine mw_iload_n 2 C dX12_tray_11 rfl rfl ?_
      refine mw_iconst C dX12_tray_12 ?_
      rcases ite_some hF with ⟨c6, hF⟩ | ⟨c6, hF⟩
      · refine mw_icmp_gt_t (tgt := 26) C dX12_tray_13 (by decide) g4 (by decide) c6 ?_
        refine mw_sub [0] rfl ?_
        exact T_X12_tray_26 C _ _ hF
      · refine mw_icmp_gt_f (tgt := 26) C dX12_tray_13 (by decide) g4 (by decide) c6 ?_
        refine mw_iload_n 3 C dX12_tray_16 rfl rfl ?_
        obtain ⟨g7, hF⟩ := ck_some hF
        rcases ite_some hF with ⟨c8, hF⟩ | ⟨c8, hF⟩
        · refine mw_if_lt_t (tgt := 26) C dX12_tray_17 (by decide) g7 c8 ?_
          refine mw_sub [0] rfl ?_
          exact T_X12_tray_26 C _ _ hF
        · refine mw_if_lt_f (tgt := 26) C dX12_tray_17 (by decide) g7 c8 ?_
          refine mw_iload_n 3 C dX12_tray_20 rfl rfl ?_
          refine mw_bipush C dX12_tray_21 bp_60 ?_
          rcases ite_some hF with ⟨c9, hF⟩ | ⟨c9, hF⟩
          · refine mw_icmp_le_t (tgt := 32) C dX12_tray_23 (by decide) g7 (by decide) c9 ?_
            refine mw_aload_n 0 C dX12_tray_32 rfl rfl ?_
            refine mw_get (k := 4) (T := TX12) (v := rfv (xd (zX Z)) 143) C dX12_tray_33 zn141 zk141 (by decide) rfl inX12 (by decide) wd893 rfl (zfv_r rfl zg_141_4) ?_
            refine mw_iload_n 1 C dX12_tray_36 rfl rfl ?_
            refine mw_iload_n 2 C dX12_tray_37 rfl rfl ?_
            obtain ⟨g10, hF⟩ := ck_some hF
            obtain ⟨h11, eh11, hF⟩ := nx_some hF
            refine mw_iast C dX12_tray_38 zn143 zk143 (by decide) g10 (mw_h eh11 ?_)
            refine mw_aload_n 0 C dX12_tray_39 rfl rfl ?_
            refine mw_get (k := 5) (T := TX12) (v := rfv (xd (zX Z)) 144) C dX12_tray_40 zn141 zk141 (by decide) rfl inX12 (by decide) wd894 rfl (zfv_r rfl zg_141_5) ?_
            refine mw_iload_n 1 C dX12_tray_43 rfl rfl ?_
            refine mw_iload_n 3 C dX12_tray_44 rfl rfl ?_
            obtain ⟨h12, eh12, hF⟩ := nx_some hF
            refine mw_iast C dX12_tray_45 zn144 zk144 (by decide) g10 (mw_h eh12 ?_)
            refine mw_iconst C dX12_tray_46 ?_
            refine mw_istore [(4, iv 0), (0, rfv (xd (zX Z)) 141), (1, iv x1), (2, iv x2), (3, iv x3)] C dX12_tray_47 (by decide) rfl ?_
            refine mw_sub [1, 2, 4, 0] rfl ?_
            exact T_X12_tray_49 C 20000 x1 x3 0 _ _ hF
          · refine mw_icmp_le_f (tgt := 32) C dX12_tray_23 (by decide) g7 (by decide) c9 ?_
            refine mw_sub [0] rfl ?_
            exact T_X12_tray_26 C _ _ hF
def F_X12_tray (x1 : Int) (x2 : Int) (x3 : Int) (h : MH) : Option (Int × MH) := F_X12_tray_0 x1 x2 x3 h
theorem T_X12_tray (l : Launch) (X : XT) (x1 : Int) (x2 : Int) (x3 : Int) (h : MH) (t : (Int × MH)) (hF : F_X12_tray x1 x2 x3 h = some t) : Ct l X yX12_tray cX12_tray 5 (some .boolean) 2 [rfv (xd X) 141, iv x1, iv x2, iv x3] zN zG h (some (iv t.1)) zN zG t.2 0 0 := by
  refine Ct.head (by decide) (Nat.le_of_ble_eq_true rfl) (fun Z hX hl _ _ _ C => ?_)
  subst hX
  subst hl
  exact (T_X12_tray_0 C x1 x2 x3 _ _ hF)
/-! BottleLineModel.wrongPlace(II)I -/
def F_X12_wrongPlace_0 (x1 : Int) (x2 : Int) (h : MH) : Option (Int × MH) :=
  (F_X12_isTray x1 h).bind fun q1 =>
  ck (in32 q1.1) <|
  if q1.1 ≠ 0 then
    ck (0 ≤ x1 ∧ x1 < 4) <|
    ck (in32 (q1.2 144 x1.toNat)) <|
    if (q1.2 144 x1.toNat) ≠ (-1) then
      ck (in32 x2) <|
      if x2 < 0 then
        some (3, q1.2)
      else
        if x2 < (q1.2 144 x1.toNat) then
          some (0, q1.2)
        else
          some (3, q1.2)
    else
      some (2, q1.2)
  else
    some (1, q1.2)
set_option maxRecDepth 100000 in
theorem T_X12_wrongPlace_0 {Z : ZT} (C : Cx Z cX12_wrongPlace 3 RX12 2 (some .int)) (x1 : Int) (x2 : Int) (h : MH) (t : (Int × MH)) (hF : F_X12_wrongPlace_0 x1 x2 h = some t) : MW Z (Qm Z (some (iv t.1)) zN zG t.2 0 0) 3 zN zG h 0 0 0 [(0, rfv (xd (zX Z)) 141), (1, iv x1), (2, iv x2)] [] := by
  unfold F_X12_wrongPlace_0 at hF
  refine mw_iload_n 1 C dX12_wrongPlace_0 rfl rfl ?_
  obtain ⟨q1, hq1, hF⟩ := bind_some hF
  refine mw_callS [iv x1] [] C dX12_wrongPlace_1 (T_X12_isTray (zl Z) (zX Z) x1 _ _ hq1) rfl wd957 wd958 wd14 wd959 hd_X12_isTray rfl (by decide) (by decide) (Nat.le_of_ble_eq_true rfl) ⟨Nat.zero_le _, Nat.zero_le _⟩ ?_
  obtain ⟨g2, hF⟩ := ck_some hF
  rcases ite_some hF with ⟨c3, hF⟩ | ⟨c3, hF⟩
  · refine mw_if_ne_t (tgt := 11) C dX12_wrongPlace_4 (by decide) g2 c3 ?_
    refine mw_aload_n 0 C dX12_wrongPlace_11 rfl rfl ?_
    refine mw_get (k := 5) (T := TX12) (v := rfv (xd (zX Z)) 144) C dX12_wrongPlace_12 zn141 zk141 (by decide) rfl inX12 (by decide) wd894 rfl (zfv_r rfl zg_141_5) ?_
    refine mw_iload_n 1 C dX12_wrongPlace_15 rfl rfl ?_
    obtain ⟨g4, hF⟩ := ck_some hF
    refine mw_iald C dX12_wrongPlace_16 zn144 zk144 (by decide) g4 ?_
    refine mw_iconst C dX12_wrongPlace_17 ?_
    obtain ⟨g5, hF⟩ := ck_some hF
    rcases ite_some hF with ⟨c6, hF⟩ | ⟨c6, hF⟩
    · refine mw_icmp_ne_t (tgt := 25) C dX12_wrongPlace_18 (by decide) g5 (by decide) c6 ?_
      refine mw_iload_n 2 C dX12_wrongPlace_25 rfl rfl ?_
      obtain ⟨g7, hF⟩ := ck_some hF
      rcases ite_some hF with ⟨c8, hF⟩ | ⟨c8, hF⟩
      · refine mw_if_lt_t (tgt := 39) C dX12_wrongPlace_26 (by decide) g7 c8 ?_
        refine mw_iconst C dX12_wrongPlace_39 ?_
        refine mw_goto (tgt := 44) C dX12_wrongPlace_40 (by decide) ?_
        cases hF
        exact mw_iret C dX12_wrongPlace_44 rfl rfl
      · refine mw_if_lt_f (tgt := 39) C dX12_wrongPlace_26 (by decide) g7 c8 ?_
        refine mw_iload_n 2 C dX12_wrongPlace_29 rfl rfl ?_
        refine mw_aload_n 0 C dX12_wrongPlace_30 rfl rfl ?_
        refine mw_get (k := 5) (T := TX12) (v := rfv (xd (zX Z)) 144) C dX12_wrongPlace_31 zn141 zk141 (by decide) rfl inX12 (by decide) wd894 rfl (zfv_r rfl zg_141_5) ?_
        refine mw_iload_n 1 C dX12_wrongPlace_34 rfl rfl ?_
        refine mw_iald C dX12_wrongPlace_35 zn144 zk144 (by decide) g4 ?_
        rcases ite_some hF with ⟨c9, hF⟩ | ⟨c9, hF⟩
        · refine mw_icmp_lt_t (tgt := 43) C dX12_wrongPlace_36 (by decide) g7 g5 c9 ?_
          refine mw_iconst C dX12_wrongPlace_43 ?_
          cases hF
          exact mw_iret C dX12_wrongPlace_44 rfl rfl
        · refine mw_icmp_lt_f (tgt := 43) C dX12_wrongPlace_36 (by decide) g7 g5 c9 ?_
          refine mw_iconst C dX12_wrongPlace_39 ?_
          refine mw_goto (tgt := 44) C dX12_wrongPlace_40 (by decide) ?_
          cases hF
          exact mw_iret C dX12_wrongPlace_44 rfl rfl
    · refine mw_icmp_ne_f (tgt := 25) C dX12_wrongPlace_18 (by decide) g5 (by decide) c6 ?_
      refine mw_iconst C dX12_wrongPlace_21 ?_
      refine mw_goto (tgt := 44) C dX12_wrongPlace_22 (by decide) ?_
      cases hF
      exact mw_iret C dX12_wrongPlace_44 rfl rfl
  · refine mw_if_ne_f (tgt := 11) C dX12_wrongPlace_4 (by decide) g2 c3 ?_
    refine mw_iconst C dX12_wrongPlace_7 ?_
    refine mw_goto (tgt := 44) C dX12_wrongPlace_8 (by decide) ?_
    cases hF
    exact mw_iret C dX12_wrongPlace_44 rfl rfl
def F_X12_wrongPlace (x1 : Int) (x2 : Int) (h : MH) : Option (Int × MH) := F_X12_wrongPlace_0 x1 x2 h
theorem T_X12_wrongPlace (l : Launch) (X : XT) (x1 : Int) (x2 : Int) (h : MH) (t : (Int × MH)) (hF : F_X12_wrongPlace x1 x2 h = some t) : Ct l X yX12_wrongPlace cX12_wrongPlace 3 (some .int) 2 [rfv (xd X) 141, iv x1, iv x2] zN zG h (some (iv t.1)) zN zG t.2 0 0 := by
  refine Ct.head (by decide) (Nat.le_of_ble_eq_true rfl) (fun Z hX hl _ _ _ C => ?_)
  subst hX
  subst hl
  exact (T_X12_wrongPlace_0 C x1 x2 _ _ hF)
/-! BottleLineModel.write(IIJ)Z -/
def F_X12_write_34 (x5 : Int) (h : MH) : Option (Int × MH) :=
  (F_X12_is x5 h).bind fun q1 =>
  ck (q1.1 = 0 ∨ q1.1 = 1) <|
  some (q1.1, q1.2)
set_option maxRecDepth 100000 in
theorem T_X12_write_34 {Z : ZT} (C : Cx Z cX12_write 6 RX12 3 (some .boolean)) (x5 : Int) (h : MH) (t : (Int × MH)) (hF : F_X12_write_34 x5 h = some t) : MW Z (Qm Z (some (iv t.1)) zN zG t.2 0 0) 6 zN zG h 0 0 34 [(0, rfv (xd (zX Z)) 141), (5, iv x5)] [] := by
  unfold F_X12_write_34 at hF
  refine mw_aload_n 0 C dX12_write_34 rfl rfl ?_
  refine mw_iload 1 C dX12_write_35 rfl ?_
  obtain ⟨q1, hq1, hF⟩ := bind_some hF
  refine mw_callV (c := 141) [iv x5] [] C dX12_write_37 (T_X12_is (zl Z) (zX Z) x5 _ _ hq1) rfl zn141 zk141 (by decide) rfl wd960 wd961 wd1357 wd14 wd962 hd_X12_is rfl (by decide) (by decide) (Nat.le_of_ble_eq_true rfl) ⟨Nat.zero_le _, Nat.zero_le _⟩ ?_
  obtain ⟨g2, hF⟩ := ck_some hF
  cases hF
  exact mw_zret C dX12_write_40 g2 rfl rfl
def F_X12_write_0 (x1 : Int) (x2 : Int) (x3 : Int) (h : MH) : Option (Int × MH) :=
  (F_X12_wrongPlace x1 x2 h).bind fun q1 =>
  ck (in32 q1.1) <|
  if q1.1 ≠ 0 then
    F_X12_write_34 q1.1 q1.2
  else
    ck (0 ≤ x1 ∧ x1 < 4) <|
    (F_X12_cut x3 (q1.2 143 x1.toNat) q1.2).bind fun q5 =>
    ck (0 ≤ ((60 * x1) + x2) ∧ ((60 * x1) + x2) < 240) <|
    nx (hup q5.2 145 ((60 * x1) + x2).toNat q5.1) fun h7 =>
    F_X12_write_34 q1.1 h7
set_option maxRecDepth 100000 in
theorem T_X12_write_0 {Z : ZT} (C : Cx Z cX12_write 6 RX12 3 (some .boolean)) (x1 : Int) (x2 : Int) (x3 : Int) (h : MH) (t : (Int × MH)) (hF : F_X12_write_0 x1 x2 x3 h = some t) : MW Z (Qm Z (some (iv t.1)) zN zG t.2 0 0) 6 zN zG h 0 0 0 [(0, rfv (xd (zX Z)) 141), (1, iv x1), (2, iv x2), (3, lvv x3)] [] := by
  unfold F_X12_write_0 at hF
  refine mw_aload_n 0 C dX12_write_0 rfl rfl ?_
  refine mw_iload_n 1 C dX12_write_1 rfl rfl ?_
  refine mw_iload_n 2 C dX12_write_2 rfl rfl ?_
  obtain ⟨q1, hq1, hF⟩ := bind_some hF
  refine mw_callV (c := 141) [iv x1, iv x2] [] C dX12_write_3 (T_X12_wrongPlace (zl Z) (zX Z) x1 x2 _ _ hq1) rfl zn141 zk141 (by decide) rfl wd967 wd968 wd1358 wd14 wd969 hd_X12_wrongPlace rfl (by decide) (by decide) (Nat.le_of_ble_eq_true rfl) ⟨Nat.zero_le _, Nat.zero_le _⟩ ?_
  refine mw_istore [(5, iv q1.1), (0, rfv (xd (zX Z)) 141), (1, iv x1), (2, iv x2), (3, lvv x3)] C dX12_write_6 (by decide) rfl ?_
  refine mw_iload 0 C dX12_write_8 rfl ?_
  obtain ⟨g2, hF⟩ := ck_some hF
  rcases ite_some hF with ⟨c3, hF⟩ | ⟨c3, hF⟩
  · refine mw_if_ne_t (tgt := 34) C dX12_write_10 (by decide) g2 c3 ?_
    refine mw_sub [1, 0] rfl ?_
    exact T_X12_write_34 C q1.1 _ _ hF
  · refine mw_if_ne_f (tgt := 34) C dX12_write_10 (by decide) g2 c3 ?_
    refine mw_aload_n 1 C dX12_write_13 rfl rfl ?_
    refine mw_get (k := 6) (T := TX12) (v := rfv (xd (zX Z)) 145) C dX12_write_14 zn141 zk141 (by decide) rfl inX12 (by decide) wd895 rfl (zfv_r rfl zg_141_6) ?_
    refine mw_bipush C dX12_write_17 bp_60 ?_
    refine mw_iload_n 2 C dX12_write_19 rfl rfl ?_
    refine mw_imul C dX12_write_20 ?_
    refine mw_iload_n 3 C dX12_write_21 rfl rfl ?_
    refine mw_iadd C dX12_write_22 ?_
    refine mw_lload_n 4 C dX12_write_23 rfl rfl ?_
    refine mw_aload_n 1 C dX12_write_24 rfl rfl ?_
    refine mw_get (k := 4) (T := TX12) (v := rfv (xd (zX Z)) 143) C dX12_write_25 zn141 zk141 (by decide) rfl inX12 (by decide) wd893 rfl (zfv_r rfl zg_141_4) ?_
    refine mw_iload_n 2 C dX12_write_28 rfl rfl ?_
    obtain ⟨g4, hF⟩ := ck_some hF
    refine mw_iald C dX12_write_29 zn143 zk143 (by decide) g4 ?_
    obtain ⟨q5, hq5, hF⟩ := bind_some hF
    refine mw_callS [lvv x3, iv (q1.2 143 x1.toNat)] [iv ((60 * x1) + x2), rfv (xd (zX Z)) 145] C dX12_write_30 (T_X12_cut (zl Z) (zX Z) x3 (q1.2 143 x1.toNat) _ _ hq5) rfl wd970 wd971 wd14 wd972 hd_X12_cut rfl (by decide) (by decide) (Nat.le_of_ble_eq_true rfl) ⟨Nat.zero_le _, Nat.zero_le _⟩ ?_
    obtain ⟨g6, hF⟩ := ck_some hF
    obtain ⟨h7, eh7, hF⟩ := nx_some hF
    refine mw_last C dX12_write_33 zn145 zk145 (by decide) g6 (mw_h eh7 ?_)
    refine mw_sub [1, 0] rfl ?_
    exact T_X12_write_34 C q1.1 _ _ hF
def F_X12_write (x1 : Int) (x2 : Int) (x3 : Int) (h : MH) : Option (Int × MH) := F_X12_write_0 x1 x2 x3 h
theorem T_X12_write (l : Launch) (X : XT) (x1 : Int) (x2 : Int) (x3 : Int) (h : MH) (t : (Int × MH)) (hF : F_X12_write x1 x2 x3 h = some t) : Ct l X yX12_write cX12_write 6 (some .boolean) 3 [rfv (xd X) 141, iv x1, iv x2, lvv x3] zN zG h (some (iv t.1)) zN zG t.2 0 0 := by
  refine Ct.head (by decide) (Nat.le_of_ble_eq_true rfl) (fun Z hX hl _ _ _ C => ?_)
  subst hX
  subst hl
  exact (T_X12_write_0 C x1 x2 x3 _ _ hF)
/-! BottleLineModel.read(II)J -/
def F_X12_read_0 (x1 : Int) (x2 : Int) (h : MH) : Option (Int × MH) :=
  (F_X12_wrongPlace x1 x2 h).bind fun q1 =>
  nx (hup q1.2 141 1 q1.1) fun h2 =>
  ck (in32 (h2 141 1)) <|
  if (h2 141 1) ≤ 0 then
    ck (0 ≤ ((60 * x1) + x2) ∧ ((60 * x1) + x2) < 240) <|
    some ((h2 145 ((60 * x1) + x2).toNat), h2)
  else
    some ((-1), h2)
set_option maxRecDepth 100000 in
theorem T_X12_read_0 {Z : ZT} (C : Cx Z cX12_read 3 RX12 3 (some .long)) (x1 : Int) (x2 : Int) (h : MH) (t : (Int × MH)) (hF : F_X12_read_0 x1 x2 h = some t) : MW Z (Qm Z (some (lvv t.1)) zN zG t.2 0 0) 3 zN zG h 0 0 0 [(0, rfv (xd (zX Z)) 141), (1, iv x1), (2, iv x2)] [] := by
  unfold F_X12_read_0 at hF
  refine mw_aload_n 0 C dX12_read_0 rfl rfl ?_
  refine mw_aload_n 0 C dX12_read_1 rfl rfl ?_
  refine mw_iload_n 1 C dX12_read_2 rfl rfl ?_
  refine mw_iload_n 2 C dX12_read_3 rfl rfl ?_
  obtain ⟨q1, hq1, hF⟩ := bind_some hF
  refine mw_callV (c := 141) [iv x1, iv x2] [rfv (xd (zX Z)) 141] C dX12_read_4 (T_X12_wrongPlace (zl Z) (zX Z) x1 x2 _ _ hq1) rfl zn141 zk141 (by decide) rfl wd967 wd968 wd1358 wd14 wd969 hd_X12_wrongPlace rfl (by decide) (by decide) (Nat.le_of_ble_eq_true rfl) ⟨Nat.zero_le _, Nat.zero_le _⟩ ?_
  obtain ⟨h2, eh2, hF⟩ := nx_some hF
  refine mw_put (k := 1) (T := TX12) (ty0 := tyX12) (x := q1.1) C dX12_read_7 zn141 zk141 (by decide) rfl inX12 tyX12_ok nmX12 (by decide) wd890 rfl rfl rfl rfl rfl (by decide) (mw_h eh2 ?_)
  refine mw_aload_n 0 C dX12_read_10 rfl rfl ?_
  refine mw_get (k := 1) (T := TX12) (v := iv (h2 141 1)) C dX12_read_11 zn141 zk141 (by decide) rfl inX12 (by decide) wd890 rfl rfl ?_
  obtain ⟨g3, hF⟩ := ck_some hF
  rcases ite_some hF with ⟨c4, hF⟩ | ⟨c4, hF⟩
  · refine mw_if_le_t (tgt := 23) C dX12_read_14 (by decide) g3 c4 ?_
    refine mw_aload_n 0 C dX12_read_23 rfl rfl ?_
    refine mw_get (k := 6) (T := TX12) (v := rfv (xd (zX Z)) 145) C dX12_read_24 zn141 zk141 (by decide) rfl inX12 (by decide) wd895 rfl (zfv_r rfl zg_141_6) ?_
    refine mw_bipush C dX12_read_27 bp_60 ?_
    refine mw_iload_n 1 C dX12_read_29 rfl rfl ?_
    refine mw_imul C dX12_read_30 ?_
    refine mw_iload_n 2 C dX12_read_31 rfl rfl ?_
    refine mw_iadd C dX12_read_32 ?_
    obtain ⟨g5, hF⟩ := ck_some hF
    refine mw_lald C dX12_read_33 zn145 zk145 (by decide) g5 ?_
    cases hF
    exact mw_lret C dX12_read_34 rfl rfl
  · refine mw_if_le_f (tgt := 23) C dX12_read_14 (by decide) g3 c4 ?_
    refine mw_ldc2 (a := (-1)) C dX12_read_17 wd977 rfl ?_
    refine mw_goto (tgt := 34) C dX12_read_20 (by decide) ?_
    cases hF
    exact mw_lret C dX12_read_34 rfl rfl
def F_X12_read (x1 : Int) (x2 : Int) (h : MH) : Option (Int × MH) := F_X12_read_0 x1 x2 h
theorem T_X12_read (l : Launch) (X : XT) (x1 : Int) (x2 : Int) (h : MH) (t : (Int × MH)) (hF : F_X12_read x1 x2 h = some t) : Ct l X yX12_read cX12_read 3 (some .long) 3 [rfv (xd X) 141, iv x1, iv x2] zN zG h (some (lvv t.1)) zN zG t.2 0 0 := by
  refine Ct.head (by decide) (Nat.le_of_ble_eq_true rfl) (fun Z hX hl _ _ _ C => ?_)
  subst hX
  subst hl
  exact (T_X12_read_0 C x1 x2 _ _ hF)
/-! BottleLineModel.pour(IIIII)Z -/
def F_X12_pour_28 (h : MH) : Option (Int × MH) :=
  (F_X12_is 1 h).bind fun q1 =>
  ck (q1.1 = 0 ∨ q1.1 = 1) <|
  some (q1.1, q1.2)
set_option maxRecDepth 100000 in
theorem T_X12_pour_28 {Z : ZT} (C : Cx Z cX12_pour 8 RX12 2 (some .boolean)) (h : MH) (t : (Int × MH)) (hF : F_X12_pour_28 h = some t) : MW Z (Qm Z (some (iv t.1)) zN zG t.2 0 0) 8 zN zG h 0 0 28 [(0, rfv (xd (zX Z)) 141)] [] := by
  unfold F_X12_pour_28 at hF
  refine mw_aload_n 0 C dX12_pour_28 rfl rfl ?_
  refine mw_iconst C dX12_pour_29 ?_
  obtain ⟨q1, hq1, hF⟩ := bind_some hF
  refine mw_callV (c := 141) [iv 1] [] C dX12_pour_30 (T_X12_is (zl Z) (zX Z) 1 _ _ hq1) rfl zn141 zk141 (by decide) rfl wd960 wd961 wd1357 wd14 wd962 hd_X12_is rfl (by decide) (by decide) (Nat.le_of_ble_eq_true rfl) ⟨Nat.zero_le _, Nat.zero_le _⟩ ?_
  obtain ⟨g2, hF⟩ := ck_some hF
  cases hF
  exact mw_zret C dX12_pour_33 g2 rfl rfl
def F_X12_pour_54 (h : MH) : Option (Int × MH) :=
  (F_X12_is 2 h).bind fun q1 =>
  ck (q1.1 = 0 ∨ q1.1 = 1) <|
  some (q1.1, q1.2)
set_option maxRecDepth 100000 in
theorem T_X12_pour_54 {Z : ZT} (C : Cx Z cX12_pour 8 RX12 2 (some .boolean)) (h : MH) (t : (Int × MH)) (hF : F_X12_pour_54 h = some t) : MW Z (Qm Z (some (iv t.1)) zN zG t.2 0 0) 8 zN zG h 0 0 54 [(0, rfv (xd (zX Z)) 141)] [] := by
  unfold F_X12_pour_54 at hF
  refine mw_aload_n 0 C dX12_pour_54 rfl rfl ?_
  refine mw_iconst C dX12_pour_55 ?_
  obtain ⟨q1, hq1, hF⟩ := bind_some hF
  refine mw_callV (c := 141) [iv 2] [] C dX12_pour_56 (T_X12_is (zl Z) (zX Z) 2 _ _ hq1) rfl zn141 zk141 (by decide) rfl wd960 wd961 wd1357 wd14 wd962 hd_X12_is rfl (by decide) (by decide) (Nat.le_of_ble_eq_true rfl) ⟨Nat.zero_le _, Nat.zero_le _⟩ ?_
  obtain ⟨g2, hF⟩ := ck_some hF
  cases hF
  exact mw_zret C dX12_pour_59 g2 rfl rfl
def F_X12_pour_109 (h : MH) : Option (Int × MH) :=
  (F_X12_is 3 h).bind fun q1 =>
  ck (q1.1 = 0 ∨ q1.1 = 1) <|
  some (q1.1, q1.2)
set_option maxRecDepth 100000 in
theorem T_X12_pour_109 {Z : ZT} (C : Cx Z cX12_pour 8 RX12 2 (some .boolean)) (h : MH) (t : (Int × MH)) (hF : F_X12_pour_109 h = some t) : MW Z (Qm Z (some (iv t.1)) zN zG t.2 0 0) 8 zN zG h 0 0 109 [(0, rfv (xd (zX Z)) 141)] [] := by
  unfold F_X12_pour_109 at hF
  refine mw_aload_n 0 C dX12_pour_109 rfl rfl ?_
  refine mw_iconst C dX12_pour_110 ?_
  obtain ⟨q1, hq1, hF⟩ := bind_some hF
  refine mw_callV (c := 141) [iv 3] [] C dX12_pour_111 (T_X12_is (zl Z) (zX Z) 3 _ _ hq1) rfl zn141 zk141 (by decide) rfl wd960 wd961 wd1357 wd14 wd962 hd_X12_is rfl (by decide) (by decide) (Nat.le_of_ble_eq_true rfl) ⟨Nat.zero_le _, Nat.zero_le _⟩ ?_
  obtain ⟨g2, hF⟩ := ck_some hF
  cases hF
  exact mw_zret C dX12_pour_114 g2 rfl rfl
def F_X12_pour_143 (k118 : Int → Int → Int → Int → Int → Int → MH → Option (Int × MH)) (x1 : Int) (x2 : Int) (x3 : Int) (x4 : Int) (x5 : Int) (x6 : Int) (s0 : Int) (h : MH) : Option (Int × MH) :=
  ck (0 ≤ (((60 * x1) + x2) + s0) ∧ (((60 * x1) + x2) + s0) < 240) <|
  ck (0 ≤ (((60 * x3) + x4) + s0) ∧ (((60 * x3) + x4) + s0) < 240) <|
  nx (hup h 145 (((60 * x3) + x4) + s0).toNat (h 145 (((60 * x1) + x2) + s0).toNat)) fun h3 =>
  k118 x1 x2 x3 x4 x5 (x6 + 1) h3
set_option maxRecDepth 100000 in
theorem T_X12_pour_143 {Z : ZT} (C : Cx Z cX12_pour 8 RX12 2 (some .boolean)) (k118 : Int → Int → Int → Int → Int → Int → MH → Option (Int × MH)) (hk118 : ∀ (x1 : Int) (x2 : Int) (x3 : Int) (x4 : Int) (x5 : Int) (x6 : Int) (h : MH) (t : (Int × MH)), k118 x1 x2 x3 x4 x5 x6 h = some t → MW Z (Qm Z (some (iv t.1)) zN zG t.2 0 0) 8 zN zG h 0 0 118 [(0, rfv (xd (zX Z)) 141), (1, iv x1), (2, iv x2), (3, iv x3), (4, iv x4), (5, iv x5), (6, iv x6)] []) (x1 : Int) (x2 : Int) (x3 : Int) (x4 : Int) (x5 : Int) (x6 : Int) (s0 : Int) (h : MH) (t : (Int × MH)) (hF : F_X12_pour_143 k118 x1 x2 x3 x4 x5 x6 s0 h = some t) : MW Z (Qm Z (some (iv t.1)) zN zG t.2 0 0) 8 zN zG h 0 0 143 [(0, rfv (xd (zX Z)) 141), (1, iv x1), (2, iv x2), (3, iv x3), (4, iv x4), (5, iv x5), (6, iv x6)] [iv s0] := by
  unfold F_X12_pour_143 at hF
  refine mw_istore [(7, iv s0), (0, rfv (xd (zX Z)) 141), (1, iv x1), (2, iv x2), (3, iv x3), (4, iv x4), (5, iv x5), (6, iv x6)] C dX12_pour_143 (by decide) rfl ?_
  refine mw_aload_n 1 C dX12_pour_145 rfl rfl ?_
  refine mw_get (k := 6) (T := TX12) (v := rfv (xd (zX Z)) 145) C dX12_pour_146 zn141 zk141 (by decide) rfl inX12 (by decide) wd895 rfl (zfv_r rfl zg_141_6) ?_
  refine mw_bipush C dX12_pour_149 bp_60 ?_
  refine mw_iload_n 4 C dX12_pour_151 rfl rfl ?_
  refine mw_imul C dX12_pour_152 ?_
  refine mw_iload 5 C dX12_pour_153 rfl ?_
  refine mw_iadd C dX12_pour_155 ?_
  refine mw_iload 0 C dX12_pour_156 rfl ?_
  refine mw_iadd C dX12_pour_158 ?_
  refine mw_aload_n 1 C dX12_pour_159 rfl rfl ?_
  refine mw_get (k := 6) (T := TX12) (v := rfv (xd (zX Z)) 145) C dX12_pour_160 zn141 zk141 (by decide) rfl inX12 (by decide) wd895 rfl (zfv_r rfl zg_141_6) ?_
  refine mw_bipush C dX12_pour_163 bp_60 ?_
  refine mw_iload_n 2 C dX12_pour_165 rfl rfl ?_
  refine mw_imul C dX12_pour_166 ?_
  refine mw_iload_n 3 C dX12_pour_167 rfl rfl ?_
  refine mw_iadd C dX12_pour_168 ?_
  refine mw_iload 0 C dX12_pour_169 rfl ?_
  refine mw_iadd C dX12_pour_171 ?_
  obtain ⟨g1, hF⟩ := ck_some hF
  refine mw_lald C dX12_pour_172 zn145 zk145 (by decide) g1 ?_
  obtain ⟨g2, hF⟩ := ck_some hF
  obtain ⟨h3, eh3, hF⟩ := nx_some hF
  refine mw_last C dX12_pour_173 zn145 zk145 (by decide) g2 (mw_h eh3 ?_)
  refine mw_iinc 7 [(6, iv (x6 + 1)), (7, iv s0), (0, rfv (xd (zX Z)) 141), (1, iv x1), (2, iv x2), (3, iv x3), (4, iv x4), (5, iv x5)] C dX12_pour_174 rfl (by decide) rfl ?_
  refine mw_goto (tgt := 118) C dX12_pour_177 (by decide) ?_
  refine mw_sub [2, 3, 4, 5, 6, 7, 0] rfl ?_
  exact hk118 x1 x2 x3 x4 x5 (x6 + 1) _ _ hF
def F_X12_pour_118 : Nat → Int → Int → Int → Int → Int → Int → MH → Option (Int × MH)
  | 0, _, _, _, _, _, _, _ => none
  | n + 1, x1, x2, x3, x4, x5, x6, h =>
    ck (in32 x6) <|
    ck (in32 x5) <|
    if x5 ≤ x6 then
      (F_X12_is 0 h).bind fun q4 =>
      ck (q4.1 = 0 ∨ q4.1 = 1) <|
      some (q4.1, q4.2)
    else
      ck (in32 x2) <|
      ck (in32 x4) <|
      if x4 ≤ x2 then
        F_X12_pour_143 (F_X12_pour_118 n) x1 x2 x3 x4 x5 x6 x6 h
      else
        F_X12_pour_143 (F_X12_pour_118 n) x1 x2 x3 x4 x5 x6 ((x5 - 1) - x6) h
set_option maxRecDepth 100000 in
theorem T_X12_pour_118 {Z : ZT} (C : Cx Z cX12_pour 8 RX12 2 (some .boolean)) : ∀ (n : Nat) (x1 : Int) (x2 : Int) (x3 : Int) (x4 : Int) (x5 : Int) (x6 : Int) (h : MH) (t : (Int × MH)), F_X12_pour_118 n x1 x2 x3 x4 x5 x6 h = some t → MW Z (Qm Z (some (iv t.1)) zN zG t.2 0 0) 8 zN zG h 0 0 118 [(0, rfv (xd (zX Z)) 141), (1, iv x1), (2, iv x2), (3, iv x3), (4, iv x4), (5, iv x5), (6, iv x6)] [] := by
  intro n
  induction n with
  | zero =>
    intros
    rename_i hF
    exact absurd hF (by intro q; cases q)
  | succ n ih =>
    intro x1 x2 x3 x4 x5 x6 h t hF
    rw [F_X12_pour_118] at hF
    refine mw_iload 6 C dX12_pour_118 rfl ?_
    refine mw_iload 5 C dX12_pour_120 rfl ?_
    obtain ⟨g1, hF⟩ := ck_some hF
    obtain ⟨g2, hF⟩ := ck_some hF
    rcases ite_some hF with ⟨c3, hF⟩ | ⟨c3, hF⟩
    · refine mw_icmp_ge_t (tgt := 180) C dX12_pour_122 (by decide) g1 g2 c3 ?_
      refine mw_aload_n 0 C dX12_pour_180 rfl rfl ?_
      refine mw_iconst C dX12_pour_181 ?_
      obtain ⟨q4, hq4, hF⟩ := bind_some hF
      refine mw_callV (c := 141) [iv 0] [] C dX12_pour_182 (T_X12_is (zl Z) (zX Z) 0 _ _ hq4) rfl zn141 zk141 (by decide) rfl wd960 wd961 wd1357 wd14 wd962 hd_X12_is rfl (by decide) (by decide) (Nat.le_of_ble_eq_true rfl) ⟨Nat.zero_le _, Nat.zero_le _⟩ ?_
      obtain ⟨g5, hF⟩ := ck_some hF
      cases hF
      exact mw_zret C dX12_pour_185 g5 rfl rfl
    · refine mw_icmp_ge_f (tgt := 180) C dX12_pour_122 (by decide) g1 g2 c3 ?_
      refine mw_iload_n 2 C dX12_pour_125 rfl rfl ?_
      refine mw_iload 4 C dX12_pour_126 rfl ?_
      obtain ⟨g6, hF⟩ := ck_some hF
      obtain ⟨g7, hF⟩ := ck_some hF
      rcases ite_some hF with ⟨c8, hF⟩ | ⟨c8, hF⟩
      · refine mw_icmp_ge_t (tgt := 141) C dX12_pour_128 (by decide) g6 g7 c8 ?_
        refine mw_iload 6 C dX12_pour_141 rfl ?_
        exact T_X12_pour_143 C (F_X12_pour_118 n) ih x1 x2 x3 x4 x5 x6 x6 _ _ hF
      · refine mw_icmp_ge_f (tgt := 141) C dX12_pour_128 (by decide) g6 g7 c8 ?_
        refine mw_iload 5 C dX12_pour_131 rfl ?_
        refine mw_iconst C dX12_pour_133 ?_
        refine mw_isub C dX12_pour_134 ?_
        refine mw_iload 6 C dX12_pour_135 rfl ?_
        refine mw_isub C dX12_pour_137 ?_
        refine mw_goto (tgt := 143) C dX12_pour_138 (by decide) ?_
        exact T_X12_pour_143 C (F_X12_pour_118 n) ih x1 x2 x3 x4 x5 x6 ((x5 - 1) - x6) _ _ hF
def F_X12_pour_0 (x1 : Int) (x2 : Int) (x3 : Int) (x4 : Int) (x5 : Int) (h : MH) : Option (Int × MH) :=
  (F_X12_isTray x1 h).bind fun q1 =>
  ck (in32 q1.1) <|
  if q1.1 = 0 then
    F_X12_pour_28 q1.2
  else
    (F_X12_isTray x3 q1.2).bind fun q4 =>
    ck (in32 q4.1) <|
    if q4.1 = 0 then
      F_X12_pour_28 q4.2
    else
      ck (in32 x2) <|
      if x2 < 0 then
        F_X12_pour_28 q4.2
      else
        ck (in32 x4) <|
        if x4 < 0 then
          F_X12_pour_28 q4.2
        else
          ck (in32 x5) <|
          if 0 ≤ x5 then
            ck (0 ≤ x1 ∧ x1 < 4) <|
            ck (in32 (q4.2 144 x1.toNat)) <|
            if (q4.2 144 x1.toNat) = (-1) then
              F_X12_pour_54 q4.2
            else
              ck (0 ≤ x3 ∧ x3 < 4) <|
              ck (in32 (q4.2 144 x3.toNat)) <|
              if (q4.2 144 x3.toNat) ≠ (-1) then
                ck (in32 (q4.2 143 x1.toNat)) <|
                ck (in32 (q4.2 143 x3.toNat)) <|
                if (q4.2 143 x1.toNat) = (q4.2 143 x3.toNat) then
                  ck (in32 ((q4.2 144 x1.toNat) - x2)) <|
                  if ((q4.2 144 x1.toNat) - x2) < x5 then
                    F_X12_pour_109 q4.2
                  else
                    ck (in32 ((q4.2 144 x3.toNat) - x4)) <|
                    if x5 ≤ ((q4.2 144 x3.toNat) - x4) then
                      F_X12_pour_118 20000 x1 x2 x3 x4 x5 0 q4.2
                    else
                      F_X12_pour_109 q4.2
                else
                  (F_X12_is 8 q4.2).bind fun q26 =>
                  ck (q26.1 = 0 ∨ q26.1 = 1) <|
                  some (q26.1, q26.2)
              else
                F_X12_pour_54 q4.2
          else
            F_X12_pour_28 q4.2
set_option maxRecDepth 100000 in
theorem T_X12_pour_0 {Z : ZT} (C : Cx Z cX12_pour 8 RX12 2 (some .boolean)) (x1 : Int) (x2 : Int) (x3 : Int) (x4 : Int) (x5 : Int) (h : MH) (t : (Int × MH)) (hF : F_X12_pour_0 x1 x2 x3 x4 x5 h = some t) : MW Z (Qm Z (some (iv t.1)) zN zG t.2 0 0) 8 zN zG h 0 0 0 [(0, rfv (xd (zX Z)) 141), (1, iv x1), (2, iv x2), (3, iv x3), (4, iv x4), (5, iv x5)] [] := by
  unfold F_X12_pour_0 at hF
  refine mw_iload_n 1 C dX12_pour_0 rfl rfl ?_
  obtain ⟨q1, hq1, hF⟩ := bind_some hF
  refine mw_callS [iv x1] [] C dX12_pour_1 (T_X12_isTray (zl Z) (zX Z) x1 _ _ hq1) rfl wd957 wd958 wd14 wd959 hd_X12_isTray rfl (by decide) (by decide) (Nat.le_of_ble_eq_true rfl) ⟨Nat.zero_le _, Nat.zero_le _⟩ ?_
  obtain ⟨g2, hF⟩ := ck_some hF
  rcases ite_some hF with ⟨c3, hF⟩ | ⟨c3, hF⟩
  · refine mw_if_eq_t (tgt := 28) C dX12_pour_4 (by decide) g2 c3 ?_
    refine mw_sub [0] rfl ?_
    exact T_X12_pour_28 C _ _ hF
  · refine mw_if_eq_f (tgt := 28) C dX12_pour_4 (by decide) g2 c3 ?_
    refine mw_iload_n 3 C dX12_pour_7 rfl rfl ?_
    obtain ⟨q4, hq4, hF⟩ := bind_some hF
    refine mw_callS [iv x3] [] C dX12_pour_8 (T_X12_isTray (zl Z) (zX Z) x3 _ _ hq4) rfl wd957 wd958 wd14 wd959 hd_X12_isTray rfl (by decide) (by decide) (Nat.le_of_ble_eq_true rfl) ⟨Nat.zero_le _, Nat.zero_le _⟩ ?_
    obtain ⟨g5, hF⟩ := ck_some hF
    rcases ite_some hF with ⟨c6, hF⟩ | ⟨c6, hF⟩
    · refine mw_if_eq_t (tgt := 28) C dX12_pour_11 (by decide) g5 c6 ?_
      refine mw_sub [0] rfl ?_
      exact T_X12_pour_28 C _ _ hF
    · refine mw_if_eq_f (tgt := 28) C dX12_pour_11 (by decide) g5 c6 ?_
      refine mw_iload_n 2 C dX12_pour_14 rfl rfl ?_
      obtain ⟨g7, hF⟩ := ck_some hF
      rcases ite_some hF with ⟨c8, hF⟩ | ⟨c8, hF⟩
      · refine mw_if_lt_t (tgt := 28) C dX12_pour_15 (by decide) g7 c8 ?_
        refine mw_sub [0] rfl ?_
        exact T_X12_pour_28 C _ _ hF
      · refine mw_if_lt_f (tgt := 28) C dX12_pour_15 (by decide) g7 c8 ?_
        refine mw_iload 4 C dX12_pour_18 rfl ?_
        obtain ⟨g9, hF⟩ := ck_some hF
        rcases ite_some hF with ⟨c10, hF⟩ | ⟨c10, hF⟩
        · refine mw_if_lt_t (tgt := 28) C dX12_pour_20 (by decide) g9 c10 ?_
          refine mw_sub [0] rfl ?_
          exact T_X12_pour_28 C _ _ hF
        · refine mw_if_lt_f (tgt := 28) C dX12_pour_20 (by decide) g9 c10 ?_
          refine mw_iload 5 C dX12_pour_23 rfl ?_
          obtain ⟨g11, hF⟩ := ck_some hF
          rcases ite_some hF with ⟨c12, hF⟩ | ⟨c12, hF⟩
          · refine mw_if_ge_t (tgt := 34) C dX12_pour_25 (by decide) g11 c12 ?_
            refine mw_aload_n 0 C dX12_pour_34 rfl rfl ?_
            refine mw_get (k := 5) (T := TX12) (v := rfv (xd (zX Z)) 144) C dX12_pour_35 zn141 zk141 (by decide) rfl inX12 (by decide) wd894 rfl (zfv_r rfl zg_141_5) ?_
            refine mw_iload_n 1 C dX12_pour_38 rfl rfl ?_
            obtain ⟨g13, hF⟩ := ck_some hF
            refine mw_iald C dX12_pour_39 zn144 zk144 (by decide) g13 ?_
            refine mw_iconst C dX12_pour_40 ?_
            obtain ⟨g14, hF⟩ := ck_some hF
            rcases ite_some hF with ⟨c15, hF⟩ | ⟨c15, hF⟩
            · refine mw_icmp_eq_t (tgt := 54) C dX12_pour_41 (by decide) g14 (by decide) c15 ?_
              refine mw_sub [0] rfl ?_
              exact T_X12_pour_54 C _ _ hF
            · refine mw_icmp_eq_f (tgt := 54) C dX12_pour_41 (by decide) g14 (by decide) c15 ?_
              refine mw_aload_n 0 C dX12_pour_44 rfl rfl ?_
              refine mw_get (k := 5) (T := TX12) (v := rfv (xd (zX Z)) 144) C dX12_pour_45 zn141 zk141 (by decide) rfl inX12 (by decide) wd894 rfl (zfv_r rfl zg_141_5) ?_
              refine mw_iload_n 3 C dX12_pour_48 rfl rfl ?_
              obtain ⟨g16, hF⟩ := ck_some hF
              refine mw_iald C dX12_pour_49 zn144 zk144 (by decide) g16 ?_
              refine mw_iconst C dX12_pour_50 ?_
              obtain ⟨g17, hF⟩ := ck_some hF
              rcases ite_some hF with ⟨c18, hF⟩ | ⟨c18, hF⟩
              · refine mw_icmp_ne_t (tgt := 60) C dX12_pour_51 (by decide) g17 (by decide) c18 ?_
                refine mw_aload_n 0 C dX12_pour_60 rfl rfl ?_
                refine mw_get (k := 4) (T := TX12) (v := rfv (xd (zX Z)) 143) C dX12_pour_61 zn141 zk141 (by decide) rfl inX12 (by decide) wd893 rfl (zfv_r rfl zg_141_4) ?_
                refine mw_iload_n 1 C dX12_pour_64 rfl rfl ?_
                refine mw_iald C dX12_pour_65 zn143 zk143 (by decide) g13 ?_
                refine mw_aload_n 0 C dX12_pour_66 rfl rfl ?_
                refine mw_get (k := 4) (T := TX12) (v := rfv (xd (zX Z)) 143) C dX12_pour_67 zn141 zk141 (by decide) rfl inX12 (by decide) wd893 rfl (zfv_r rfl zg_141_4) ?_
                refine mw_iload_n 3 C dX12_pour_70 rfl rfl ?_
                refine mw_iald C dX12_pour_71 zn143 zk143 (by decide) g16 ?_
                obtain ⟨g19, hF⟩ := ck_some hF
                obtain ⟨g20, hF⟩ := ck_some hF
                rcases ite_some hF with ⟨c21, hF⟩ | ⟨c21, hF⟩
                · refine mw_icmp_eq_t (tgt := 82) C dX12_pour_72 (by decide) g19 g20 c21 ?_
                  refine mw_iload 5 C dX12_pour_82 rfl ?_
                  refine mw_aload_n 0 C dX12_pour_84 rfl rfl ?_
                  refine mw_get (k := 5) (T := TX12) (v := rfv (xd (zX Z)) 144) C dX12_pour_85 zn141 zk141 (by decide) rfl inX12 (by decide) wd894 rfl (zfv_r rfl zg_141_5) ?_
                  refine mw_iload_n 1 C dX12_pour_88 rfl rfl ?_
                  refine mw_iald C dX12_pour_89 zn144 zk144 (by decide) g13 ?_
                  refine mw_iload_n 2 C dX12_pour_90 rfl rfl ?_
                  refine mw_isub C dX12_pour_91 ?_
                  obtain ⟨g22, hF⟩ := ck_some hF
                  rcases ite_some hF with ⟨c23, hF⟩ | ⟨c23, hF⟩
                  · refine mw_icmp_gt_t (tgt := 109) C dX12_pour_92 (by decide) g11 g22 c23 ?_
                    refine mw_sub [0] rfl ?_
                    exact T_X12_pour_109 C _ _ hF
                  · refine mw_icmp_gt_f (tgt := 109) C dX12_pour_92 (by decide) g11 g22 c23 ?_
                    refine mw_iload 5 C dX12_pour_95 rfl ?_
                    refine mw_aload_n 0 C dX12_pour_97 rfl rfl ?_
                    refine mw_get (k := 5) (T := TX12) (v := rfv (xd (zX Z)) 144) C dX12_pour_98 zn141 zk141 (by decide) rfl inX12 (by decide) wd894 rfl (zfv_r rfl zg_141_5) ?_
                    refine mw_iload_n 3 C dX12_pour_101 rfl rfl ?_
                    refine mw_iald C dX12_pour_102 zn144 zk144 (by decide) g16 ?_
                    refine mw_iload 4 C dX12_pour_103 rfl ?_
                    refine mw_isub C dX12_pour_105 ?_
                    obtain ⟨g24, hF⟩ := ck_some hF
                    rcases ite_some hF with ⟨c25, hF⟩ | ⟨c25, hF⟩
                    · refine mw_icmp_le_t (tgt := 115) C dX12_pour_106 (by decide) g11 g24 c25 ?_
                      refine mw_iconst C dX12_pour_115 ?_
                      refine mw_istore [(6, iv 0), (0, rfv (xd (zX Z)) 141), (1, iv x1), (2, iv x2), (3, iv x3), (4, iv x4), (5, iv x5)] C dX12_pour_116 (by decide) rfl ?_
                      refine mw_sub [1, 2, 3, 4, 5, 6, 0] rfl ?_
                      exact T_X12_pour_118 C 20000 x1 x2 x3 x4 x5 0 _ _ hF
                    · refine mw_icmp_le_f (tgt := 115) C dX12_pour_106 (by decide) g11 g24 c25 ?_
                      refine mw_sub [0] rfl ?_
                      exact T_X12_pour_109 C _ _ hF
                · refine mw_icmp_eq_f (tgt := 82) C dX12_pour_72 (by decide) g19 g20 c21 ?_
                  refine mw_aload_n 0 C dX12_pour_75 rfl rfl ?_
                  refine mw_bipush C dX12_pour_76 bp_8 ?_
                  obtain ⟨q26, hq26, hF⟩ := bind_some hF
                  refine mw_callV (c := 141) [iv 8] [] C dX12_pour_78 (T_X12_is (zl Z) (zX Z) 8 _ _ hq26) rfl zn141 zk141 (by decide) rfl wd960 wd961 wd1357 wd14 wd962 hd_X12_is rfl (by decide) (by decide) (Nat.le_of_ble_eq_true rfl) ⟨Nat.zero_le _, Nat.zero_le _⟩ ?_
                  obtain ⟨g27, hF⟩ := ck_some hF
                  cases hF
                  exact mw_zret C dX12_pour_81 g27 rfl rfl
              · refine mw_icmp_ne_f (tgt := 60) C dX12_pour_51 (by decide) g17 (by decide) c18 ?_
                refine mw_sub [0] rfl ?_
                exact T_X12_pour_54 C _ _ hF
          · refine mw_if_ge_f (tgt := 34) C dX12_pour_25 (by decide) g11 c12 ?_
            refine mw_sub [0] rfl ?_
            exact T_X12_pour_28 C _ _ hF
def F_X12_pour (x1 : Int) (x2 : Int) (x3 : Int) (x4 : Int) (x5 : Int) (h : MH) : Option (Int × MH) := F_X12_pour_0 x1 x2 x3 x4 x5 h
theorem T_X12_pour (l : Launch) (X : XT) (x1 : Int) (x2 : Int) (x3 : Int) (x4 : Int) (x5 : Int) (h : MH) (t : (Int × MH)) (hF : F_X12_pour x1 x2 x3 x4 x5 h = some t) : Ct l X yX12_pour cX12_pour 8 (some .boolean) 2 [rfv (xd X) 141, iv x1, iv x2, iv x3, iv x4, iv x5] zN zG h (some (iv t.1)) zN zG t.2 0 0 := by
  refine Ct.head (by decide) (Nat.le_of_ble_eq_true rfl) (fun Z hX hl _ _ _ C => ?_)
  subst hX
  subst hl
  exact (T_X12_pour_0 C x1 x2 x3 x4 x5 _ _ hF)
/-! BottleLineModel.isFrom(JJJ)Z -/
def F_X12_isFrom_0 (x0 : Int) (x2 : Int) (x4 : Int) (h : MH) : Option (Int × MH) :=
  ck (in64 x0) <|
  ck (in64 x2) <|
  if x0 < x2 then
    some (0, h)
  else
    ck (in64 x4) <|
    if x4 < x0 then
      some (0, h)
    else
      some (1, h)
set_option maxRecDepth 100000 in
theorem T_X12_isFrom_0 {Z : ZT} (C : Cx Z cX12_isFrom 6 RX12 1 (some .boolean)) (x0 : Int) (x2 : Int) (x4 : Int) (h : MH) (t : (Int × MH)) (hF : F_X12_isFrom_0 x0 x2 x4 h = some t) : MW Z (Qm Z (some (iv t.1)) zN zG t.2 0 0) 6 zN zG h 0 0 0 [(0, lvv x0), (2, lvv x2), (4, lvv x4)] [] := by
  unfold F_X12_isFrom_0 at hF
  refine mw_lload_n 0 C dX12_isFrom_0 rfl rfl ?_
  refine mw_lload_n 1 C dX12_isFrom_1 rfl rfl ?_
  obtain ⟨g1, hF⟩ := ck_some hF
  obtain ⟨g2, hF⟩ := ck_some hF
  rcases ite_some hF with ⟨c3, hF⟩ | ⟨c3, hF⟩
  · refine mw_lcmp_lt_t (tgt := 17) C dX12_isFrom_2 dX12_isFrom_3 (by decide) g1 g2 c3 ?_
    refine mw_iconst C dX12_isFrom_17 ?_
    cases hF
    exact mw_zret C dX12_isFrom_18 (Or.inl rfl) rfl rfl
  · refine mw_lcmp_lt_f (tgt := 17) C dX12_isFrom_2 dX12_isFrom_3 (by decide) g1 g2 c3 ?_
    refine mw_lload_n 0 C dX12_isFrom_6 rfl rfl ?_
    refine mw_lload 2 C dX12_isFrom_7 rfl ?_
    obtain ⟨g4, hF⟩ := ck_some hF
    rcases ite_some hF with ⟨c5, hF⟩ | ⟨c5, hF⟩
    · refine mw_lcmp_gt_t (tgt := 17) C dX12_isFrom_9 dX12_isFrom_10 (by decide) g1 g4 c5 ?_
      refine mw_iconst C dX12_isFrom_17 ?_
      cases hF
      exact mw_zret C dX12_isFrom_18 (Or.inl rfl) rfl rfl
    · refine mw_lcmp_gt_f (tgt := 17) C dX12_isFrom_9 dX12_isFrom_10 (by decide) g1 g4 c5 ?_
      refine mw_iconst C dX12_isFrom_13 ?_
      refine mw_goto (tgt := 18) C dX12_isFrom_14 (by decide) ?_
      cases hF
      exact mw_zret C dX12_isFrom_18 (Or.inr rfl) rfl rfl
def F_X12_isFrom (x0 : Int) (x2 : Int) (x4 : Int) (h : MH) : Option (Int × MH) := F_X12_isFrom_0 x0 x2 x4 h
theorem T_X12_isFrom (l : Launch) (X : XT) (x0 : Int) (x2 : Int) (x4 : Int) (h : MH) (t : (Int × MH)) (hF : F_X12_isFrom x0 x2 x4 h = some t) : Ct l X yX12_isFrom cX12_isFrom 6 (some .boolean) 1 [lvv x0, lvv x2, lvv x4] zN zG h (some (iv t.1)) zN zG t.2 0 0 := by
  refine Ct.head (by decide) (Nat.le_of_ble_eq_true rfl) (fun Z hX hl _ _ _ C => ?_)
  subst hX
  subst hl
  exact (T_X12_isFrom_0 C x0 x2 x4 _ _ hF)
/-! BottleLineModel.wrongRow(ZIIJJ)I -/
def F_X12_wrongRow_81 (k43 : Int → Int → Int → Int → Int → Int → MH → Option (Int × MH)) (x2 : Int) (x3 : Int) (x4 : Int) (x6 : Int) (x9 : Int) (s0 : Int) (h : MH) : Option (Int × MH) :=
  k43 x2 x3 x4 x6 s0 (x9 + 1) h
set_option maxRecDepth 100000 in
theorem T_X12_wrongRow_81 {Z : ZT} (C : Cx Z cX12_wrongRow 10 RX12 2 (some .int)) (k43 : Int → Int → Int → Int → Int → Int → MH → Option (Int × MH)) (hk43 : ∀ (x2 : Int) (x3 : Int) (x4 : Int) (x6 : Int) (x8 : Int) (x9 : Int) (h : MH) (t : (Int × MH)), k43 x2 x3 x4 x6 x8 x9 h = some t → MW Z (Qm Z (some (iv t.1)) zN zG t.2 0 0) 10 zN zG h 0 0 43 [(0, rfv (xd (zX Z)) 141), (2, iv x2), (3, iv x3), (4, lvv x4), (6, lvv x6), (8, iv x8), (9, iv x9)] []) (x2 : Int) (x3 : Int) (x4 : Int) (x6 : Int) (x9 : Int) (s0 : Int) (h : MH) (t : (Int × MH)) (hF : F_X12_wrongRow_81 k43 x2 x3 x4 x6 x9 s0 h = some t) : MW Z (Qm Z (some (iv t.1)) zN zG t.2 0 0) 10 zN zG h 0 0 81 [(0, rfv (xd (zX Z)) 141), (2, iv x2), (3, iv x3), (4, lvv x4), (6, lvv x6), (9, iv x9)] [iv s0] := by
  unfold F_X12_wrongRow_81 at hF
  refine mw_istore [(8, iv s0), (0, rfv (xd (zX Z)) 141), (2, iv x2), (3, iv x3), (4, lvv x4), (6, lvv x6), (9, iv x9)] C dX12_wrongRow_81 (by decide) rfl ?_
  refine mw_iinc 6 [(9, iv (x9 + 1)), (8, iv s0), (0, rfv (xd (zX Z)) 141), (2, iv x2), (3, iv x3), (4, lvv x4), (6, lvv x6)] C dX12_wrongRow_83 rfl (by decide) rfl ?_
  refine mw_goto (tgt := 43) C dX12_wrongRow_86 (by decide) ?_
  refine mw_sub [2, 3, 4, 5, 6, 1, 0] rfl ?_
  exact hk43 x2 x3 x4 x6 s0 (x9 + 1) _ _ hF
def F_X12_wrongRow_80 (k43 : Int → Int → Int → Int → Int → Int → MH → Option (Int × MH)) (x2 : Int) (x3 : Int) (x4 : Int) (x6 : Int) (x9 : Int) (h : MH) : Option (Int × MH) :=
  F_X12_wrongRow_81 k43 x2 x3 x4 x6 x9 0 h
set_option maxRecDepth 100000 in
theorem T_X12_wrongRow_80 {Z : ZT} (C : Cx Z cX12_wrongRow 10 RX12 2 (some .int)) (k43 : Int → Int → Int → Int → Int → Int → MH → Option (Int × MH)) (hk43 : ∀ (x2 : Int) (x3 : Int) (x4 : Int) (x6 : Int) (x8 : Int) (x9 : Int) (h : MH) (t : (Int × MH)), k43 x2 x3 x4 x6 x8 x9 h = some t → MW Z (Qm Z (some (iv t.1)) zN zG t.2 0 0) 10 zN zG h 0 0 43 [(0, rfv (xd (zX Z)) 141), (2, iv x2), (3, iv x3), (4, lvv x4), (6, lvv x6), (8, iv x8), (9, iv x9)] []) (x2 : Int) (x3 : Int) (x4 : Int) (x6 : Int) (x9 : Int) (h : MH) (t : (Int × MH)) (hF : F_X12_wrongRow_80 k43 x2 x3 x4 x6 x9 h = some t) : MW Z (Qm Z (some (iv t.1)) zN zG t.2 0 0) 10 zN zG h 0 0 80 [(0, rfv (xd (zX Z)) 141), (2, iv x2), (3, iv x3), (4, lvv x4), (6, lvv x6), (9, iv x9)] [] := by
  unfold F_X12_wrongRow_80 at hF
  refine mw_iconst C dX12_wrongRow_80 ?_
  exact T_X12_wrongRow_81 C k43 hk43 x2 x3 x4 x6 x9 0 _ _ hF
def F_X12_wrongRow_43 : Nat → Int → Int → Int → Int → Int → Int → MH → Option (Int × MH)
  | 0, _, _, _, _, _, _, _ => none
  | n + 1, x2, x3, x4, x6, x8, x9, h =>
    ck (in32 x9) <|
    ck (in32 x3) <|
    if x3 ≤ x9 then
      ck (in32 x8) <|
      if x8 = 0 then
        some (5, h)
      else
        some (0, h)
    else
      ck (in32 x8) <|
      if x8 = 0 then
        F_X12_wrongRow_80 (F_X12_wrongRow_43 n) x2 x3 x4 x6 x9 h
      else
        ck (0 ≤ ((60 * x2) + x9) ∧ ((60 * x2) + x9) < 240) <|
        (F_X12_isFrom (h 145 ((60 * x2) + x9).toNat) x4 x6 h).bind fun q9 =>
        ck (in32 q9.1) <|
        if q9.1 = 0 then
          F_X12_wrongRow_80 (F_X12_wrongRow_43 n) x2 x3 x4 x6 x9 q9.2
        else
          F_X12_wrongRow_81 (F_X12_wrongRow_43 n) x2 x3 x4 x6 x9 1 q9.2
set_option maxRecDepth 100000 in
theorem T_X12_wrongRow_43 {Z : ZT} (C : Cx Z cX12_wrongRow 10 RX12 2 (some .int)) : ∀ (n : Nat) (x2 : Int) (x3 : Int) (x4 : Int) (x6 : Int) (x8 : Int) (x9 : Int) (h : MH) (t : (Int × MH)), F_X12_wrongRow_43 n x2 x3 x4 x6 x8 x9 h = some t → MW Z (Qm Z (some (iv t.1)) zN zG t.2 0 0) 10 zN zG h 0 0 43 [(0, rfv (xd (zX Z)) 141), (2, iv x2), (3, iv x3), (4, lvv x4), (6, lvv x6), (8, iv x8), (9, iv x9)] [] := by
  intro n
  induction n with
  | zero =>
    intros
    rename_i hF
    exact absurd hF (by intro q; cases q)
  | succ n ih =>
    intro x2 x3 x4 x6 x8 x9 h t hF
    rw [F_X12_wrongRow_43] at hF
    refine mw_iload 6 C dX12_wrongRow_43 rfl ?_
    refine mw_iload_n 2 C dX12_wrongRow_45 rfl rfl ?_
    obtain ⟨g1, hF⟩ := ck_some hF
    obtain ⟨g2, hF⟩ := ck_some hF
    rcases ite_some hF with ⟨c3, hF⟩ | ⟨c3, hF⟩
    · refine mw_icmp_ge_t (tgt := 89) C dX12_wrongRow_46 (by decide) g1 g2 c3 ?_
      refine mw_iload 5 C dX12_wrongRow_89 rfl ?_
      obtain ⟨g4, hF⟩ := ck_some hF
      rcases ite_some hF with ⟨c5, hF⟩ | ⟨c5, hF⟩
      · refine mw_if_eq_t (tgt := 98) C dX12_wrongRow_91 (by decide) g4 c5 ?_
        refine mw_iconst C dX12_wrongRow_98 ?_
        cases hF
        exact mw_iret C dX12_wrongRow_99 rfl rfl
      · refine mw_if_eq_f (tgt := 98) C dX12_wrongRow_91 (by decide) g4 c5 ?_
        refine mw_iconst C dX12_wrongRow_94 ?_
        refine mw_goto (tgt := 99) C dX12_wrongRow_95 (by decide) ?_
        cases hF
        exact mw_iret C dX12_wrongRow_99 rfl rfl
    · refine mw_icmp_ge_f (tgt := 89) C dX12_wrongRow_46 (by decide) g1 g2 c3 ?_
      refine mw_iload 5 C dX12_wrongRow_49 rfl ?_
      obtain ⟨g6, hF⟩ := ck_some hF
      rcases ite_some hF with ⟨c7, hF⟩ | ⟨c7, hF⟩
      · refine mw_if_eq_t (tgt := 80) C dX12_wrongRow_51 (by decide) g6 c7 ?_
        refine mw_sub [0, 1, 2, 3, 4, 6] rfl ?_
        exact T_X12_wrongRow_80 C (F_X12_wrongRow_43 n) ih x2 x3 x4 x6 x9 _ _ hF
      · refine mw_if_eq_f (tgt := 80) C dX12_wrongRow_51 (by decide) g6 c7 ?_
        refine mw_aload_n 0 C dX12_wrongRow_54 rfl rfl ?_
        refine mw_get (k := 6) (T := TX12) (v := rfv (xd (zX Z)) 145) C dX12_wrongRow_55 zn141 zk141 (by decide) rfl inX12 (by decide) wd895 rfl (zfv_r rfl zg_141_6) ?_
        refine mw_bipush C dX12_wrongRow_58 bp_60 ?_
        refine mw_iload_n 1 C dX12_wrongRow_60 rfl rfl ?_
        refine mw_imul C dX12_wrongRow_61 ?_
        refine mw_iload 6 C dX12_wrongRow_62 rfl ?_
        refine mw_iadd C dX12_wrongRow_64 ?_
        obtain ⟨g8, hF⟩ := ck_some hF
        refine mw_lald C dX12_wrongRow_65 zn145 zk145 (by decide) g8 ?_
        refine mw_lload 3 C dX12_wrongRow_66 rfl ?_
        refine mw_lload 4 C dX12_wrongRow_68 rfl ?_
        obtain ⟨q9, hq9, hF⟩ := bind_some hF
        refine mw_callS [lvv (h 145 ((60 * x2) + x9).toNat), lvv x4, lvv x6] [] C dX12_wrongRow_70 (T_X12_isFrom (zl Z) (zX Z) (h 145 ((60 * x2) + x9).toNat) x4 x6 _ _ hq9) rfl wd1116 wd1117 wd14 wd1118 hd_X12_isFrom rfl (by decide) (by decide) (Nat.le_of_ble_eq_true rfl) ⟨Nat.zero_le _, Nat.zero_le _⟩ ?_
        obtain ⟨g10, hF⟩ := ck_some hF
        rcases ite_some hF with ⟨c11, hF⟩ | ⟨c11, hF⟩
        · refine mw_if_eq_t (tgt := 80) C dX12_wrongRow_73 (by decide) g10 c11 ?_
          refine mw_sub [0, 1, 2, 3, 4, 6] rfl ?_
          exact T_X12_wrongRow_80 C (F_X12_wrongRow_43 n) ih x2 x3 x4 x6 x9 _ _ hF
        · refine mw_if_eq_f (tgt := 80) C dX12_wrongRow_73 (by decide) g10 c11 ?_
          refine mw_iconst C dX12_wrongRow_76 ?_
          refine mw_goto (tgt := 81) C dX12_wrongRow_77 (by decide) ?_
          refine mw_sub [0, 1, 2, 3, 4, 6] rfl ?_
          exact T_X12_wrongRow_81 C (F_X12_wrongRow_43 n) ih x2 x3 x4 x6 x9 1 _ _ hF
def F_X12_wrongRow_0 (x1 : Int) (x2 : Int) (x3 : Int) (x4 : Int) (x6 : Int) (h : MH) : Option (Int × MH) :=
  ck (in32 x1) <|
  if x1 = 0 then
    some (1, h)
  else
    (F_X12_isTray x2 h).bind fun q3 =>
    ck (in32 q3.1) <|
    if q3.1 ≠ 0 then
      ck (0 ≤ x2 ∧ x2 < 4) <|
      ck (in32 (q3.2 144 x2.toNat)) <|
      if (q3.2 144 x2.toNat) ≠ (-1) then
        ck (in32 x3) <|
        if x3 ≤ (q3.2 144 x2.toNat) then
          F_X12_wrongRow_43 20000 x2 x3 x4 x6 1 0 q3.2
        else
          some (3, q3.2)
      else
        some (2, q3.2)
    else
      some (1, q3.2)
set_option maxRecDepth 100000 in
theorem T_X12_wrongRow_0 {Z : ZT} (C : Cx Z cX12_wrongRow 10 RX12 2 (some .int)) (x1 : Int) (x2 : Int) (x3 : Int) (x4 : Int) (x6 : Int) (h : MH) (t : (Int × MH)) (hF : F_X12_wrongRow_0 x1 x2 x3 x4 x6 h = some t) : MW Z (Qm Z (some (iv t.1)) zN zG t.2 0 0) 10 zN zG h 0 0 0 [(0, rfv (xd (zX Z)) 141), (1, iv x1), (2, iv x2), (3, iv x3), (4, lvv x4), (6, lvv x6)] [] := by
  unfold F_X12_wrongRow_0 at hF
  refine mw_iload_n 1 C dX12_wrongRow_0 rfl rfl ?_
  obtain ⟨g1, hF⟩ := ck_some hF
  rcases ite_some hF with ⟨c2, hF⟩ | ⟨c2, hF⟩
  · refine mw_if_eq_t (tgt := 11) C dX12_wrongRow_1 (by decide) g1 c2 ?_
    refine mw_iconst C dX12_wrongRow_11 ?_
    cases hF
    exact mw_iret C dX12_wrongRow_12 rfl rfl
  · refine mw_if_eq_f (tgt := 11) C dX12_wrongRow_1 (by decide) g1 c2 ?_
    refine mw_iload_n 2 C dX12_wrongRow_4 rfl rfl ?_
    obtain ⟨q3, hq3, hF⟩ := bind_some hF
    refine mw_callS [iv x2] [] C dX12_wrongRow_5 (T_X12_isTray (zl Z) (zX Z) x2 _ _ hq3) rfl wd957 wd958 wd14 wd959 hd_X12_isTray rfl (by decide) (by decide) (Nat.le_of_ble_eq_true rfl) ⟨Nat.zero_le _, Nat.zero_le _⟩ ?_
    obtain ⟨g4, hF⟩ := ck_some hF
    rcases ite_some hF with ⟨c5, hF⟩ | ⟨c5, hF⟩
    · refine mw_if_ne_t (tgt := 13) C dX12_wrongRow_8 (by decide) g4 c5 ?_
      refine mw_aload_n 0 C dX12_wrongRow_13 rfl rfl ?_
      refine mw_get (k := 5) (T := TX12) (v := rfv (xd (zX Z)) 144) C dX12_wrongRow_14 zn141 zk141 (by decide) rfl inX12 (by decide) wd894 rfl (zfv_r rfl zg_141_5) ?_
      refine mw_iload_n 2 C dX12_wrongRow_17 rfl rfl ?_
      obtain ⟨g6, hF⟩ := ck_some hF
      refine mw_iald C dX12_wrongRow_18 zn144 zk144 (by decide) g6 ?_
      refine mw_iconst C dX12_wrongRow_19 ?_
      obtain ⟨g7, hF⟩ := ck_some hF
      rcases ite_some hF with ⟨c8, hF⟩ | ⟨c8, hF⟩
      · refine mw_icmp_ne_t (tgt := 25) C dX12_wrongRow_20 (by decide) g7 (by decide) c8 ?_
        refine mw_aload_n 0 C dX12_wrongRow_25 rfl rfl ?_
        refine mw_get (k := 5) (T := TX12) (v := rfv (xd (zX Z)) 144) C dX12_wrongRow_26 zn141 zk141 (by decide) rfl inX12 (by decide) wd894 rfl (zfv_r rfl zg_141_5) ?_
        refine mw_iload_n 2 C dX12_wrongRow_29 rfl rfl ?_
        refine mw_iald C dX12_wrongRow_30 zn144 zk144 (by decide) g6 ?_
        refine mw_iload_n 3 C dX12_wrongRow_31 rfl rfl ?_
        obtain ⟨g9, hF⟩ := ck_some hF
        rcases ite_some hF with ⟨c10, hF⟩ | ⟨c10, hF⟩
        · refine mw_icmp_ge_t (tgt := 37) C dX12_wrongRow_32 (by decide) g7 g9 c10 ?_
          refine mw_iconst C dX12_wrongRow_37 ?_
          refine mw_istore [(8, iv 1), (0, rfv (xd (zX Z)) 141), (1, iv x1), (2, iv x2), (3, iv x3), (4, lvv x4), (6, lvv x6)] C dX12_wrongRow_38 (by decide) rfl ?_
          refine mw_iconst C dX12_wrongRow_40 ?_
          refine mw_istore [(9, iv 0), (8, iv 1), (0, rfv (xd (zX Z)) 141), (1, iv x1), (2, iv x2), (3, iv x3), (4, lvv x4), (6, lvv x6)] C dX12_wrongRow_41 (by decide) rfl ?_
          refine mw_sub [2, 4, 5, 6, 7, 1, 0] rfl ?_
          exact T_X12_wrongRow_43 C 20000 x2 x3 x4 x6 1 0 _ _ hF
        · refine mw_icmp_ge_f (tgt := 37) C dX12_wrongRow_32 (by decide) g7 g9 c10 ?_
          refine mw_iconst C dX12_wrongRow_35 ?_
          cases hF
          exact mw_iret C dX12_wrongRow_36 rfl rfl
      · refine mw_icmp_ne_f (tgt := 25) C dX12_wrongRow_20 (by decide) g7 (by decide) c8 ?_
        refine mw_iconst C dX12_wrongRow_23 ?_
        cases hF
        exact mw_iret C dX12_wrongRow_24 rfl rfl
    · refine mw_if_ne_f (tgt := 13) C dX12_wrongRow_8 (by decide) g4 c5 ?_
      refine mw_iconst C dX12_wrongRow_11 ?_
      cases hF
      exact mw_iret C dX12_wrongRow_12 rfl rfl
def F_X12_wrongRow (x1 : Int) (x2 : Int) (x3 : Int) (x4 : Int) (x6 : Int) (h : MH) : Option (Int × MH) := F_X12_wrongRow_0 x1 x2 x3 x4 x6 h
theorem T_X12_wrongRow (l : Launch) (X : XT) (x1 : Int) (x2 : Int) (x3 : Int) (x4 : Int) (x6 : Int) (h : MH) (t : (Int × MH)) (hF : F_X12_wrongRow x1 x2 x3 x4 x6 h = some t) : Ct l X yX12_wrongRow cX12_wrongRow 10 (some .int) 2 [rfv (xd X) 141, iv x1, iv x2, iv x3, lvv x4, lvv x6] zN zG h (some (iv t.1)) zN zG t.2 0 0 := by
  refine Ct.head (by decide) (Nat.le_of_ble_eq_true rfl) (fun Z hX hl _ _ _ C => ?_)
  subst hX
  subst hl
  exact (T_X12_wrongRow_0 C x1 x2 x3 x4 x6 _ _ hF)
/-! BottleLineModel.four(I)V -/
def F_X12_four_3 : Nat → Int → Int → MH → Option MH
  | 0, _, _, _ => none
  | n + 1, x1, x2, h =>
    ck (in32 x2) <|
    if x2 < 0 then
      some h
    else
      ck (0 ≤ (h 141 9) ∧ (h 141 9) < 700) <|
      nx (hup h 146 (h 141 9).toNat (w8 (w8 (shr32 x1 x2)))) fun h4 =>
      nx (hup h4 141 9 ((h4 141 9) + 1)) fun h5 =>
      F_X12_four_3 n x1 (x2 + (-8)) h5
set_option maxRecDepth 100000 in
theorem T_X12_four_3 {Z : ZT} (C : Cx Z cX12_four 3 RX12 1 none) : ∀ (n : Nat) (x1 : Int) (x2 : Int) (h : MH) (t : MH), F_X12_four_3 n x1 x2 h = some t → MW Z (Qm Z none zN zG t 0 0) 3 zN zG h 0 0 3 [(0, rfv (xd (zX Z)) 141), (1, iv x1), (2, iv x2)] [] := by
  intro n
  induction n with
  | zero =>
    intros
    rename_i hF
    exact absurd hF (by intro q; cases q)
  | succ n ih =>
    intro x1 x2 h t hF
    rw [F_X12_four_3] at hF
    refine mw_iload_n 2 C dX12_four_3 rfl rfl ?_
    obtain ⟨g1, hF⟩ := ck_some hF
    rcases ite_some hF with ⟨c2, hF⟩ | ⟨c2, hF⟩
    · refine mw_if_lt_t (tgt := 36) C dX12_four_4 (by decide) g1 c2 ?_
      cases hF
      exact mw_vret C dX12_four_36 rfl rfl
    · refine mw_if_lt_f (tgt := 36) C dX12_four_4 (by decide) g1 c2 ?_
      refine mw_aload_n 0 C dX12_four_7 rfl rfl ?_
      refine mw_get (k := 7) (T := TX12) (v := rfv (xd (zX Z)) 146) C dX12_four_8 zn141 zk141 (by decide) rfl inX12 (by decide) wd896 rfl (zfv_r rfl zg_141_7) ?_
      refine mw_aload_n 0 C dX12_four_11 rfl rfl ?_
      refine mw_get (k := 9) (T := TX12) (v := iv (h 141 9)) C dX12_four_12 zn141 zk141 (by decide) rfl inX12 (by decide) wd898 rfl rfl ?_
      refine mw_iload_n 1 C dX12_four_15 rfl rfl ?_
      refine mw_iload_n 2 C dX12_four_16 rfl rfl ?_
      refine mw_ishr C dX12_four_17 ?_
      refine mw_i2b C dX12_four_18 ?_
      obtain ⟨g3, hF⟩ := ck_some hF
      obtain ⟨h4, eh4, hF⟩ := nx_some hF
      refine mw_bast C dX12_four_19 zn146 zk146 (by decide) g3 (mw_h eh4 ?_)
      refine mw_aload_n 0 C dX12_four_20 rfl rfl ?_
      refine mw_dup C dX12_four_21 rfl ?_
      refine mw_get (k := 9) (T := TX12) (v := iv (h4 141 9)) C dX12_four_22 zn141 zk141 (by decide) rfl inX12 (by decide) wd898 rfl rfl ?_
      refine mw_iconst C dX12_four_25 ?_
      refine mw_iadd C dX12_four_26 ?_
      obtain ⟨h5, eh5, hF⟩ := nx_some hF
      refine mw_put (k := 9) (T := TX12) (ty0 := tyX12) (x := ((h4 141 9) + 1)) C dX12_four_27 zn141 zk141 (by decide) rfl inX12 tyX12_ok nmX12 (by decide) wd898 rfl rfl rfl rfl rfl (by decide) (mw_h eh5 ?_)
      refine mw_iinc 2 [(2, iv (x2 + (-8))), (0, rfv (xd (zX Z)) 141), (1, iv x1)] C dX12_four_30 rfl (by decide) rfl ?_
      refine mw_goto (tgt := 3) C dX12_four_33 (by decide) ?_
      refine mw_sub [1, 2, 0] rfl ?_
      exact ih x1 (x2 + (-8)) _ _ hF
def F_X12_four_0 (x1 : Int) (h : MH) : Option MH :=
  F_X12_four_3 20000 x1 24 h
set_option maxRecDepth 100000 in
theorem T_X12_four_0 {Z : ZT} (C : Cx Z cX12_four 3 RX12 1 none) (x1 : Int) (h : MH) (t : MH) (hF : F_X12_four_0 x1 h = some t) : MW Z (Qm Z none zN zG t 0 0) 3 zN zG h 0 0 0 [(0, rfv (xd (zX Z)) 141), (1, iv x1)] [] := by
  unfold F_X12_four_0 at hF
  refine mw_bipush C dX12_four_0 bp_24 ?_
  refine mw_istore_n [(2, iv 24), (0, rfv (xd (zX Z)) 141), (1, iv x1)] C dX12_four_2 rfl (by decide) rfl ?_
  refine mw_sub [1, 2, 0] rfl ?_
  exact T_X12_four_3 C 20000 x1 24 _ _ hF
def F_X12_four (x1 : Int) (h : MH) : Option MH := F_X12_four_0 x1 h
theorem T_X12_four (l : Launch) (X : XT) (x1 : Int) (h : MH) (t : MH) (hF : F_X12_four x1 h = some t) : Ct l X yX12_four cX12_four 3 none 1 [rfv (xd X) 141, iv x1] zN zG h none zN zG t 0 0 := by
  refine Ct.head (by decide) (Nat.le_of_ble_eq_true rfl) (fun Z hX hl _ _ _ C => ?_)
  subst hX
  subst hl
  exact (T_X12_four_0 C x1 _ _ hF)
/-! BottleLineModel.feed(IIIII)I -/
def F_X12_feed_0 (x1 : Int) (x2 : Int) (x3 : Int) (x4 : Int) (x5 : Int) (h : MH) : Option (Int × MH) :=
  ck (in32 ((h 141 9) + 20)) <|
  if ((h 141 9) + 20) ≤ 700 then
    (F_X12_four x1 h).bind fun q3 =>
    (F_X12_four x2 q3).bind fun q4 =>
    (F_X12_four x3 q4).bind fun q5 =>
    (F_X12_four x4 q5).bind fun q6 =>
    (F_X12_four x5 q6).bind fun q7 =>
    some ((q7 141 9), q7)
  else
    some ((-1), h)
set_option maxRecDepth 100000 in
theorem T_X12_feed_0 {Z : ZT} (C : Cx Z cX12_feed 6 RX12 2 (some .int)) (x1 : Int) (x2 : Int) (x3 : Int) (x4 : Int) (x5 : Int) (h : MH) (t : (Int × MH)) (hF : F_X12_feed_0 x1 x2 x3 x4 x5 h = some t) : MW Z (Qm Z (some (iv t.1)) zN zG t.2 0 0) 6 zN zG h 0 0 0 [(0, rfv (xd (zX Z)) 141), (1, iv x1), (2, iv x2), (3, iv x3), (4, iv x4), (5, iv x5)] [] := by
  unfold F_X12_feed_0 at hF
  refine mw_aload_n 0 C dX12_feed_0 rfl rfl ?_
  refine mw_get (k := 9) (T := TX12) (v := iv (h 141 9)) C dX12_feed_1 zn141 zk141 (by decide) rfl inX12 (by decide) wd898 rfl rfl ?_
  refine mw_bipush C dX12_feed_4 bp_20 ?_
  refine mw_iadd C dX12_feed_6 ?_
  refine mw_sipush C dX12_feed_7 sp_700 ?_
  obtain ⟨g1, hF⟩ := ck_some hF
  rcases ite_some hF with ⟨c2, hF⟩ | ⟨c2, hF⟩
  · refine mw_icmp_le_t (tgt := 15) C dX12_feed_10 (by decide) g1 (by decide) c2 ?_
    refine mw_aload_n 0 C dX12_feed_15 rfl rfl ?_
    refine mw_iload_n 1 C dX12_feed_16 rfl rfl ?_
    obtain ⟨q3, hq3, hF⟩ := bind_some hF
    refine mw_callV (c := 141) [iv x1] [] C dX12_feed_17 (T_X12_four (zl Z) (zX Z) x1 _ _ hq3) rfl zn141 zk141 (by decide) rfl wd986 wd987 wd1359 wd14 wd988 hd_X12_four rfl (by decide) (by decide) (Nat.le_of_ble_eq_true rfl) ⟨Nat.zero_le _, Nat.zero_le _⟩ ?_
    refine mw_aload_n 0 C dX12_feed_20 rfl rfl ?_
    refine mw_iload_n 2 C dX12_feed_21 rfl rfl ?_
    obtain ⟨q4, hq4, hF⟩ := bind_some hF
    refine mw_callV (c := 141) [iv x2] [] C dX12_feed_22 (T_X12_four (zl Z) (zX Z) x2 _ _ hq4) rfl zn141 zk141 (by decide) rfl wd986 wd987 wd1359 wd14 wd988 hd_X12_four rfl (by decide) (by decide) (Nat.le_of_ble_eq_true rfl) ⟨Nat.zero_le _, Nat.zero_le _⟩ ?_
    refine mw_aload_n 0 C dX12_feed_25 rfl rfl ?_
    refine mw_iload_n 3 C dX12_feed_26 rfl rfl ?_
    obtain ⟨q5, hq5, hF⟩ := bind_some hF
    refine mw_callV (c := 141) [iv x3] [] C dX12_feed_27 (T_X12_four (zl Z) (zX Z) x3 _ _ hq5) rfl zn141 zk141 (by decide) rfl wd986 wd987 wd1359 wd14 wd988 hd_X12_four rfl (by decide) (by decide) (Nat.le_of_ble_eq_true rfl) ⟨Nat.zero_le _, Nat.zero_le _⟩ ?_
    refine mw_aload_n 0 C dX12_feed_30 rfl rfl ?_
    refine mw_iload 4 C dX12_feed_31 rfl ?_
    obtain ⟨q6, hq6, hF⟩ := bind_some hF
    refine mw_callV (c := 141) [iv x4] [] C dX12_feed_33 (T_X12_four (zl Z) (zX Z) x4 _ _ hq6) rfl zn141 zk141 (by decide) rfl wd986 wd987 wd1359 wd14 wd988 hd_X12_four rfl (by decide) (by decide) (Nat.le_of_ble_eq_true rfl) ⟨Nat.zero_le _, Nat.zero_le _⟩ ?_
    refine mw_aload_n 0 C dX12_feed_36 rfl rfl ?_
    refine mw_iload 5 C dX12_feed_37 rfl ?_
    obtain ⟨q7, hq7, hF⟩ := bind_some hF
    refine mw_callV (c := 141) [iv x5] [] C dX12_feed_39 (T_X12_four (zl Z) (zX Z) x5 _ _ hq7) rfl zn141 zk141 (by decide) rfl wd986 wd987 wd1359 wd14 wd988 hd_X12_four rfl (by decide) (by decide) (Nat.le_of_ble_eq_true rfl) ⟨Nat.zero_le _, Nat.zero_le _⟩ ?_
    refine mw_aload_n 0 C dX12_feed_42 rfl rfl ?_
    refine mw_get (k := 9) (T := TX12) (v := iv (q7 141 9)) C dX12_feed_43 zn141 zk141 (by decide) rfl inX12 (by decide) wd898 rfl rfl ?_
    cases hF
    exact mw_iret C dX12_feed_46 rfl rfl
  · refine mw_icmp_le_f (tgt := 15) C dX12_feed_10 (by decide) g1 (by decide) c2 ?_
    refine mw_iconst C dX12_feed_13 ?_
    cases hF
    exact mw_iret C dX12_feed_14 rfl rfl
def F_X12_feed (x1 : Int) (x2 : Int) (x3 : Int) (x4 : Int) (x5 : Int) (h : MH) : Option (Int × MH) := F_X12_feed_0 x1 x2 x3 x4 x5 h
theorem T_X12_feed (l : Launch) (X : XT) (x1 : Int) (x2 : Int) (x3 : Int) (x4 : Int) (x5 : Int) (h : MH) (t : (Int × MH)) (hF : F_X12_feed x1 x2 x3 x4 x5 h = some t) : Ct l X yX12_feed cX12_feed 6 (some .int) 2 [rfv (xd X) 141, iv x1, iv x2, iv x3, iv x4, iv x5] zN zG h (some (iv t.1)) zN zG t.2 0 0 := by
  refine Ct.head (by decide) (Nat.le_of_ble_eq_true rfl) (fun Z hX hl _ _ _ C => ?_)
  subst hX
  subst hl
  exact (T_X12_feed_0 C x1 x2 x3 x4 x5 _ _ hF)
/-! BottleLineModel.byteAt(I)I -/
def F_X12_byteAt_0 (x1 : Int) (h : MH) : Option (Int × MH) :=
  ck (in32 x1) <|
  ck (in32 (h 141 10)) <|
  if (h 141 10) ≤ x1 then
    some ((-1), h)
  else
    ck (0 ≤ x1 ∧ x1 < 700) <|
    some ((land32 (h 147 x1.toNat) 255), h)
set_option maxRecDepth 100000 in
theorem T_X12_byteAt_0 {Z : ZT} (C : Cx Z cX12_byteAt 2 RX12 1 (some .int)) (x1 : Int) (h : MH) (t : (Int × MH)) (hF : F_X12_byteAt_0 x1 h = some t) : MW Z (Qm Z (some (iv t.1)) zN zG t.2 0 0) 2 zN zG h 0 0 0 [(0, rfv (xd (zX Z)) 141), (1, iv x1)] [] := by
  unfold F_X12_byteAt_0 at hF
  refine mw_iload_n 1 C dX12_byteAt_0 rfl rfl ?_
  refine mw_aload_n 0 C dX12_byteAt_1 rfl rfl ?_
  refine mw_get (k := 10) (T := TX12) (v := iv (h 141 10)) C dX12_byteAt_2 zn141 zk141 (by decide) rfl inX12 (by decide) wd899 rfl rfl ?_
  obtain ⟨g1, hF⟩ := ck_some hF
  obtain ⟨g2, hF⟩ := ck_some hF
  rcases ite_some hF with ⟨c3, hF⟩ | ⟨c3, hF⟩
  · refine mw_icmp_ge_t (tgt := 21) C dX12_byteAt_5 (by decide) g1 g2 c3 ?_
    refine mw_iconst C dX12_byteAt_21 ?_
    cases hF
    exact mw_iret C dX12_byteAt_22 rfl rfl
  · refine mw_icmp_ge_f (tgt := 21) C dX12_byteAt_5 (by decide) g1 g2 c3 ?_
    refine mw_aload_n 0 C dX12_byteAt_8 rfl rfl ?_
    refine mw_get (k := 8) (T := TX12) (v := rfv (xd (zX Z)) 147) C dX12_byteAt_9 zn141 zk141 (by decide) rfl inX12 (by decide) wd897 rfl (zfv_r rfl zg_141_8) ?_
    refine mw_iload_n 1 C dX12_byteAt_12 rfl rfl ?_
    obtain ⟨g4, hF⟩ := ck_some hF
    refine mw_bald C dX12_byteAt_13 zn147 zk147 (by decide) g4 ?_
    refine mw_sipush C dX12_byteAt_14 sp_255 ?_
    refine mw_iand C dX12_byteAt_17 ?_
    refine mw_goto (tgt := 22) C dX12_byteAt_18 (by decide) ?_
    cases hF
    exact mw_iret C dX12_byteAt_22 rfl rfl
def F_X12_byteAt (x1 : Int) (h : MH) : Option (Int × MH) := F_X12_byteAt_0 x1 h
theorem T_X12_byteAt (l : Launch) (X : XT) (x1 : Int) (h : MH) (t : (Int × MH)) (hF : F_X12_byteAt x1 h = some t) : Ct l X yX12_byteAt cX12_byteAt 2 (some .int) 1 [rfv (xd X) 141, iv x1] zN zG h (some (iv t.1)) zN zG t.2 0 0 := by
  refine Ct.head (by decide) (Nat.le_of_ble_eq_true rfl) (fun Z hX hl _ _ _ C => ?_)
  subst hX
  subst hl
  exact (T_X12_byteAt_0 C x1 _ _ hF)
/-! BottleLineModel.isSmall(I)Z -/
def F_X12_isSmall_0 (x0 : Int) (h : MH) : Option (Int × MH) :=
  ck (in32 x0) <|
  if x0 < 97 then
    some (0, h)
  else
    if 122 < x0 then
      some (0, h)
    else
      some (1, h)
set_option maxRecDepth 100000 in
theorem T_X12_isSmall_0 {Z : ZT} (C : Cx Z cX12_isSmall 1 RX12 1 (some .boolean)) (x0 : Int) (h : MH) (t : (Int × MH)) (hF : F_X12_isSmall_0 x0 h = some t) : MW Z (Qm Z (some (iv t.1)) zN zG t.2 0 0) 1 zN zG h 0 0 0 [(0, iv x0)] [] := by
  unfold F_X12_isSmall_0 at hF
  refine mw_iload_n 0 C dX12_isSmall_0 rfl rfl ?_
  refine mw_bipush C dX12_isSmall_1 bp_97 ?_
  obtain ⟨g1, hF⟩ := ck_some hF
  rcases ite_some hF with ⟨c2, hF⟩ | ⟨c2, hF⟩
  · refine mw_icmp_lt_t (tgt := 16) C dX12_isSmall_3 (by decide) g1 (by decide) c2 ?_
    refine mw_iconst C dX12_isSmall_16 ?_
    cases hF
    exact mw_zret C dX12_isSmall_17 (Or.inl rfl) rfl rfl
  · refine mw_icmp_lt_f (tgt := 16) C dX12_isSmall_3 (by decide) g1 (by decide) c2 ?_
    refine mw_iload_n 0 C dX12_isSmall_6 rfl rfl ?_
    refine mw_bipush C dX12_isSmall_7 bp_122 ?_
    rcases ite_some hF with ⟨c3, hF⟩ | ⟨c3, hF⟩
    · refine mw_icmp_gt_t (tgt := 16) C dX12_isSmall_9 (by decide) g1 (by decide) c3 ?_
      refine mw_iconst C dX12_isSmall_16 ?_
      cases hF
      exact mw_zret C dX12_isSmall_17 (Or.inl rfl) rfl rfl
    · refine mw_icmp_gt_f (tgt := 16) C dX12_isSmall_9 (by decide) g1 (by decide) c3 ?_
      refine mw_iconst C dX12_isSmall_12 ?_
      refine mw_goto (tgt := 17) C dX12_isSmall_13 (by decide) ?_
      cases hF
      exact mw_zret C dX12_isSmall_17 (Or.inr rfl) rfl rfl
def F_X12_isSmall (x0 : Int) (h : MH) : Option (Int × MH) := F_X12_isSmall_0 x0 h
theorem T_X12_isSmall (l : Launch) (X : XT) (x0 : Int) (h : MH) (t : (Int × MH)) (hF : F_X12_isSmall x0 h = some t) : Ct l X yX12_isSmall cX12_isSmall 1 (some .boolean) 1 [iv x0] zN zG h (some (iv t.1)) zN zG t.2 0 0 := by
  refine Ct.head (by decide) (Nat.le_of_ble_eq_true rfl) (fun Z hX hl _ _ _ C => ?_)
  subst hX
  subst hl
  exact (T_X12_isSmall_0 C x0 _ _ hF)
/-! BottleLineModel.isDigit(I)Z -/
def F_X12_isDigit_0 (x0 : Int) (h : MH) : Option (Int × MH) :=
  ck (in32 x0) <|
  if x0 < 48 then
    some (0, h)
  else
    if 57 < x0 then
      some (0, h)
    else
      some (1, h)
set_option maxRecDepth 100000 in
theorem T_X12_isDigit_0 {Z : ZT} (C : Cx Z cX12_isDigit 1 RX12 1 (some .boolean)) (x0 : Int) (h : MH) (t : (Int × MH)) (hF : F_X12_isDigit_0 x0 h = some t) : MW Z (Qm Z (some (iv t.1)) zN zG t.2 0 0) 1 zN zG h 0 0 0 [(0, iv x0)] [] := by
  unfold F_X12_isDigit_0 at hF
  refine mw_iload_n 0 C dX12_isDigit_0 rfl rfl ?_
  refine mw_bipush C dX12_isDigit_1 bp_48 ?_
  obtain ⟨g1, hF⟩ := ck_some hF
  rcases ite_some hF with ⟨c2, hF⟩ | ⟨c2, hF⟩
  · refine mw_icmp_lt_t (tgt := 16) C dX12_isDigit_3 (by decide) g1 (by decide) c2 ?_
    refine mw_iconst C dX12_isDigit_16 ?_
    cases hF
    exact mw_zret C dX12_isDigit_17 (Or.inl rfl) rfl rfl
  · refine mw_icmp_lt_f (tgt := 16) C dX12_isDigit_3 (by decide) g1 (by decide) c2 ?_
    refine mw_iload_n 0 C dX12_isDigit_6 rfl rfl ?_
    refine mw_bipush C dX12_isDigit_7 bp_57 ?_
    rcases ite_some hF with ⟨c3, hF⟩ | ⟨c3, hF⟩
    · refine mw_icmp_gt_t (tgt := 16) C dX12_isDigit_9 (by decide) g1 (by decide) c3 ?_
      refine mw_iconst C dX12_isDigit_16 ?_
      cases hF
      exact mw_zret C dX12_isDigit_17 (Or.inl rfl) rfl rfl
    · refine mw_icmp_gt_f (tgt := 16) C dX12_isDigit_9 (by decide) g1 (by decide) c3 ?_
      refine mw_iconst C dX12_isDigit_12 ?_
      refine mw_goto (tgt := 17) C dX12_isDigit_13 (by decide) ?_
      cases hF
      exact mw_zret C dX12_isDigit_17 (Or.inr rfl) rfl rfl
def F_X12_isDigit (x0 : Int) (h : MH) : Option (Int × MH) := F_X12_isDigit_0 x0 h
theorem T_X12_isDigit (l : Launch) (X : XT) (x0 : Int) (h : MH) (t : (Int × MH)) (hF : F_X12_isDigit x0 h = some t) : Ct l X yX12_isDigit cX12_isDigit 1 (some .boolean) 1 [iv x0] zN zG h (some (iv t.1)) zN zG t.2 0 0 := by
  refine Ct.head (by decide) (Nat.le_of_ble_eq_true rfl) (fun Z hX hl _ _ _ C => ?_)
  subst hX
  subst hl
  exact (T_X12_isDigit_0 C x0 _ _ hF)
/-! BottleLineModel.ahead()V -/
def F_X12_ahead_26 (k0 : MH → Option MH) (h : MH) : Option MH :=
  nx (hup h 141 13 ((h 141 13) + 1)) fun h1 =>
  k0 h1
set_option maxRecDepth 100000 in
theorem T_X12_ahead_26 {Z : ZT} (C : Cx Z cX12_ahead 2 RX12 2 none) (k0 : MH → Option MH) (hk0 : ∀ (h : MH) (t : MH), k0 h = some t → MW Z (Qm Z none zN zG t 0 0) 2 zN zG h 0 0 0 [(0, rfv (xd (zX Z)) 141)] []) (h : MH) (t : MH) (hF : F_X12_ahead_26 k0 h = some t) : MW Z (Qm Z none zN zG t 0 0) 2 zN zG h 0 0 26 [(0, rfv (xd (zX Z)) 141)] [] := by
  unfold F_X12_ahead_26 at hF
  refine mw_aload_n 0 C dX12_ahead_26 rfl rfl ?_
  refine mw_dup C dX12_ahead_27 rfl ?_
  refine mw_get (k := 13) (T := TX12) (v := iv (h 141 13)) C dX12_ahead_28 zn141 zk141 (by decide) rfl inX12 (by decide) wd902 rfl rfl ?_
  refine mw_iconst C dX12_ahead_31 ?_
  refine mw_iadd C dX12_ahead_32 ?_
  obtain ⟨h1, eh1, hF⟩ := nx_some hF
  refine mw_put (k := 13) (T := TX12) (ty0 := tyX12) (x := ((h 141 13) + 1)) C dX12_ahead_33 zn141 zk141 (by decide) rfl inX12 tyX12_ok nmX12 (by decide) wd902 rfl rfl rfl rfl rfl (by decide) (mw_h eh1 ?_)
  refine mw_goto (tgt := 0) C dX12_ahead_36 (by decide) ?_
  exact hk0 _ _ hF
def F_X12_ahead_128 : Nat → MH → Option MH
  | 0, _ => none
  | n + 1, h =>
    (F_X12_byteAt (h 141 13) h).bind fun q1 =>
    (F_X12_isDigit q1.1 q1.2).bind fun q2 =>
    ck (in32 q2.1) <|
    if q2.1 = 0 then
      ck (in32 ((q2.2 141 13) - (q2.2 141 12))) <|
      if ((q2.2 141 13) - (q2.2 141 12)) ≤ 4 then
        nx (hup q2.2 141 11 3) fun h7 =>
        some h7
      else
        nx (hup q2.2 141 11 1) fun h8 =>
        some h8
    else
      (F_X12_byteAt (q2.2 141 13) q2.2).bind fun q9 =>
      ck (in32 (((10 * (q2.2 141 14)) + q9.1) - 48)) <|
      nx (hup q9.2 141 14 (min 100000 (((10 * (q2.2 141 14)) + q9.1) - 48))) fun h11 =>
      nx (hup h11 141 13 ((h11 141 13) + 1)) fun h12 =>
      F_X12_ahead_128 n h12
set_option maxRecDepth 100000 in
theorem T_X12_ahead_128 {Z : ZT} (C : Cx Z cX12_ahead 2 RX12 2 none) : ∀ (n : Nat) (h : MH) (t : MH), F_X12_ahead_128 n h = some t → MW Z (Qm Z none zN zG t 0 0) 2 zN zG h 0 0 128 [(0, rfv (xd (zX Z)) 141)] [] := by
  intro n
  induction n with
  | zero =>
    intros
    rename_i hF
    exact absurd hF (by intro q; cases q)
  | succ n ih =>
    intro h t hF
    rw [F_X12_ahead_128] at hF
    refine mw_aload_n 0 C dX12_ahead_128 rfl rfl ?_
    refine mw_aload_n 0 C dX12_ahead_129 rfl rfl ?_
    refine mw_get (k := 13) (T := TX12) (v := iv (h 141 13)) C dX12_ahead_130 zn141 zk141 (by decide) rfl inX12 (by decide) wd902 rfl rfl ?_
    obtain ⟨q1, hq1, hF⟩ := bind_some hF
    refine mw_callV (c := 141) [iv (h 141 13)] [] C dX12_ahead_133 (T_X12_byteAt (zl Z) (zX Z) (h 141 13) _ _ hq1) rfl zn141 zk141 (by decide) rfl wd1006 wd1007 wd1363 wd14 wd1008 hd_X12_byteAt rfl (by decide) (by decide) (Nat.le_of_ble_eq_true rfl) ⟨Nat.zero_le _, Nat.zero_le _⟩ ?_
    obtain ⟨q2, hq2, hF⟩ := bind_some hF
    refine mw_callS [iv q1.1] [] C dX12_ahead_136 (T_X12_isDigit (zl Z) (zX Z) q1.1 _ _ hq2) rfl wd1012 wd1013 wd14 wd1014 hd_X12_isDigit rfl (by decide) (by decide) (Nat.le_of_ble_eq_true rfl) ⟨Nat.zero_le _, Nat.zero_le _⟩ ?_
    obtain ⟨g3, hF⟩ := ck_some hF
    rcases ite_some hF with ⟨c4, hF⟩ | ⟨c4, hF⟩
    · refine mw_if_eq_t (tgt := 183) C dX12_ahead_139 (by decide) g3 c4 ?_
      refine mw_aload_n 0 C dX12_ahead_183 rfl rfl ?_
      refine mw_aload_n 0 C dX12_ahead_184 rfl rfl ?_
      refine mw_get (k := 13) (T := TX12) (v := iv (q2.2 141 13)) C dX12_ahead_185 zn141 zk141 (by decide) rfl inX12 (by decide) wd902 rfl rfl ?_
      refine mw_aload_n 0 C dX12_ahead_188 rfl rfl ?_
      refine mw_get (k := 12) (T := TX12) (v := iv (q2.2 141 12)) C dX12_ahead_189 zn141 zk141 (by decide) rfl inX12 (by decide) wd901 rfl rfl ?_
      refine mw_isub C dX12_ahead_192 ?_
      refine mw_iconst C dX12_ahead_193 ?_
      obtain ⟨g5, hF⟩ := ck_some hF
      rcases ite_some hF with ⟨c6, hF⟩ | ⟨c6, hF⟩
      · refine mw_icmp_le_t (tgt := 201) C dX12_ahead_194 (by decide) g5 (by decide) c6 ?_
        refine mw_iconst C dX12_ahead_201 ?_
        obtain ⟨h7, eh7, hF⟩ := nx_some hF
        refine mw_put (k := 11) (T := TX12) (ty0 := tyX12) (x := 3) C dX12_ahead_202 zn141 zk141 (by decide) rfl inX12 tyX12_ok nmX12 (by decide) wd900 rfl rfl rfl rfl rfl (by decide) (mw_h eh7 ?_)
        refine mw_goto (tgt := 233) C dX12_ahead_205 (by decide) ?_
        cases hF
        exact mw_vret C dX12_ahead_233 rfl rfl
      · refine mw_icmp_le_f (tgt := 201) C dX12_ahead_194 (by decide) g5 (by decide) c6 ?_
        refine mw_iconst C dX12_ahead_197 ?_
        refine mw_goto (tgt := 202) C dX12_ahead_198 (by decide) ?_
        obtain ⟨h8, eh8, hF⟩ := nx_some hF
        refine mw_put (k := 11) (T := TX12) (ty0 := tyX12) (x := 1) C dX12_ahead_202 zn141 zk141 (by decide) rfl inX12 tyX12_ok nmX12 (by decide) wd900 rfl rfl rfl rfl rfl (by decide) (mw_h eh8 ?_)
        refine mw_goto (tgt := 233) C dX12_ahead_205 (by decide) ?_
        cases hF
        exact mw_vret C dX12_ahead_233 rfl rfl
    · refine mw_if_eq_f (tgt := 183) C dX12_ahead_139 (by decide) g3 c4 ?_
      refine mw_aload_n 0 C dX12_ahead_142 rfl rfl ?_
      refine mw_ldc (a := 100000) C dX12_ahead_143 wd1015 rfl ?_
      refine mw_bipush C dX12_ahead_145 bp_10 ?_
      refine mw_aload_n 0 C dX12_ahead_147 rfl rfl ?_
      refine mw_get (k := 14) (T := TX12) (v := iv (q2.2 141 14)) C dX12_ahead_148 zn141 zk141 (by decide) rfl inX12 (by decide) wd903 rfl rfl ?_
      refine mw_imul C dX12_ahead_151 ?_
      refine mw_aload_n 0 C dX12_ahead_152 rfl rfl ?_
      refine mw_aload_n 0 C dX12_ahead_153 rfl rfl ?_
      refine mw_get (k := 13) (T := TX12) (v := iv (q2.2 141 13)) C dX12_ahead_154 zn141 zk141 (by decide) rfl inX12 (by decide) wd902 rfl rfl ?_
      obtain ⟨q9, hq9, hF⟩ := bind_some hF
      refine mw_callV (c := 141) [iv (q2.2 141 13)] [iv (10 * (q2.2 141 14)), iv 100000, rfv (xd (zX Z)) 141] C dX12_ahead_157 (T_X12_byteAt (zl Z) (zX Z) (q2.2 141 13) _ _ hq9) rfl zn141 zk141 (by decide) rfl wd1006 wd1007 wd1363 wd14 wd1008 hd_X12_byteAt rfl (by decide) (by decide) (Nat.le_of_ble_eq_true rfl) ⟨Nat.zero_le _, Nat.zero_le _⟩ ?_
      refine mw_iadd C dX12_ahead_160 ?_
      refine mw_bipush C dX12_ahead_161 bp_48 ?_
      refine mw_isub C dX12_ahead_163 ?_
      obtain ⟨g10, hF⟩ := ck_some hF
      refine mw_mmin C dX12_ahead_164 wd1016 wd356 wd16 wd357 (by decide) (Nat.le_of_ble_eq_true rfl) ⟨Nat.zero_le _, Nat.zero_le _⟩ (by decide) g10 ?_
      obtain ⟨h11, eh11, hF⟩ := nx_some hF
      refine mw_put (k := 14) (T := TX12) (ty0 := tyX12) (x := (min 100000 (((10 * (q2.2 141 14)) + q9.1) - 48))) C dX12_ahead_167 zn141 zk141 (by decide) rfl inX12 tyX12_ok nmX12 (by decide) wd903 rfl rfl rfl rfl rfl (by decide) (mw_h eh11 ?_)
      refine mw_aload_n 0 C dX12_ahead_170 rfl rfl ?_
      refine mw_dup C dX12_ahead_171 rfl ?_
      refine mw_get (k := 13) (T := TX12) (v := iv (h11 141 13)) C dX12_ahead_172 zn141 zk141 (by decide) rfl inX12 (by decide) wd902 rfl rfl ?_
      refine mw_iconst C dX12_ahead_175 ?_
      refine mw_iadd C dX12_ahead_176 ?_
      obtain ⟨h12, eh12, hF⟩ := nx_some hF
      refine mw_put (k := 13) (T := TX12) (ty0 := tyX12) (x := ((h11 141 13) + 1)) C dX12_ahead_177 zn141 zk141 (by decide) rfl inX12 tyX12_ok nmX12 (by decide) wd902 rfl rfl rfl rfl rfl (by decide) (mw_h eh12 ?_)
      refine mw_goto (tgt := 128) C dX12_ahead_180 (by decide) ?_
      exact ih _ _ hF
def F_X12_ahead_81 : Nat → MH → Option MH
  | 0, _ => none
  | n + 1, h =>
    (F_X12_byteAt (h 141 13) h).bind fun q1 =>
    (F_X12_isSmall q1.1 q1.2).bind fun q2 =>
    ck (in32 q2.1) <|
    if q2.1 = 0 then
      nx (hup q2.2 141 11 2) fun h5 =>
      some h5
    else
      nx (hup q2.2 141 13 ((q2.2 141 13) + 1)) fun h6 =>
      F_X12_ahead_81 n h6
set_option maxRecDepth 100000 in
theorem T_X12_ahead_81 {Z : ZT} (C : Cx Z cX12_ahead 2 RX12 2 none) : ∀ (n : Nat) (h : MH) (t : MH), F_X12_ahead_81 n h = some t → MW Z (Qm Z none zN zG t 0 0) 2 zN zG h 0 0 81 [(0, rfv (xd (zX Z)) 141)] [] := by
  intro n
  induction n with
  | zero =>
    intros
    rename_i hF
    exact absurd hF (by intro q; cases q)
  | succ n ih =>
    intro h t hF
    rw [F_X12_ahead_81] at hF
    refine mw_aload_n 0 C dX12_ahead_81 rfl rfl ?_
    refine mw_aload_n 0 C dX12_ahead_82 rfl rfl ?_
    refine mw_get (k := 13) (T := TX12) (v := iv (h 141 13)) C dX12_ahead_83 zn141 zk141 (by decide) rfl inX12 (by decide) wd902 rfl rfl ?_
    obtain ⟨q1, hq1, hF⟩ := bind_some hF
    refine mw_callV (c := 141) [iv (h 141 13)] [] C dX12_ahead_86 (T_X12_byteAt (zl Z) (zX Z) (h 141 13) _ _ hq1) rfl zn141 zk141 (by decide) rfl wd1006 wd1007 wd1363 wd14 wd1008 hd_X12_byteAt rfl (by decide) (by decide) (Nat.le_of_ble_eq_true rfl) ⟨Nat.zero_le _, Nat.zero_le _⟩ ?_
    obtain ⟨q2, hq2, hF⟩ := bind_some hF
    refine mw_callS [iv q1.1] [] C dX12_ahead_89 (T_X12_isSmall (zl Z) (zX Z) q1.1 _ _ hq2) rfl wd1009 wd1010 wd14 wd1011 hd_X12_isSmall rfl (by decide) (by decide) (Nat.le_of_ble_eq_true rfl) ⟨Nat.zero_le _, Nat.zero_le _⟩ ?_
    obtain ⟨g3, hF⟩ := ck_some hF
    rcases ite_some hF with ⟨c4, hF⟩ | ⟨c4, hF⟩
    · refine mw_if_eq_t (tgt := 108) C dX12_ahead_92 (by decide) g3 c4 ?_
      refine mw_aload_n 0 C dX12_ahead_108 rfl rfl ?_
      refine mw_iconst C dX12_ahead_109 ?_
      obtain ⟨h5, eh5, hF⟩ := nx_some hF
      refine mw_put (k := 11) (T := TX12) (ty0 := tyX12) (x := 2) C dX12_ahead_110 zn141 zk141 (by decide) rfl inX12 tyX12_ok nmX12 (by decide) wd900 rfl rfl rfl rfl rfl (by decide) (mw_h eh5 ?_)
      refine mw_goto (tgt := 233) C dX12_ahead_113 (by decide) ?_
      cases hF
      exact mw_vret C dX12_ahead_233 rfl rfl
    · refine mw_if_eq_f (tgt := 108) C dX12_ahead_92 (by decide) g3 c4 ?_
      refine mw_aload_n 0 C dX12_ahead_95 rfl rfl ?_
      refine mw_dup C dX12_ahead_96 rfl ?_
      refine mw_get (k := 13) (T := TX12) (v := iv (q2.2 141 13)) C dX12_ahead_97 zn141 zk141 (by decide) rfl inX12 (by decide) wd902 rfl rfl ?_
      refine mw_iconst C dX12_ahead_100 ?_
      refine mw_iadd C dX12_ahead_101 ?_
      obtain ⟨h6, eh6, hF⟩ := nx_some hF
      refine mw_put (k := 13) (T := TX12) (ty0 := tyX12) (x := ((q2.2 141 13) + 1)) C dX12_ahead_102 zn141 zk141 (by decide) rfl inX12 tyX12_ok nmX12 (by decide) wd902 rfl rfl rfl rfl rfl (by decide) (mw_h eh6 ?_)
      refine mw_goto (tgt := 81) C dX12_ahead_105 (by decide) ?_
      exact ih _ _ hF
def F_X12_ahead_0 : Nat → MH → Option MH
  | 0, _ => none
  | n + 1, h =>
    (F_X12_byteAt (h 141 13) h).bind fun q1 =>
    ck (in32 q1.1) <|
    if q1.1 = 32 then
      F_X12_ahead_26 (F_X12_ahead_0 n) q1.2
    else
      (F_X12_byteAt (q1.2 141 13) q1.2).bind fun q4 =>
      ck (in32 q4.1) <|
      if q4.1 ≠ 10 then
        nx (hup q4.2 141 12 (q4.2 141 13)) fun h7 =>
        (F_X12_byteAt (h7 141 13) h7).bind fun q8 =>
        nx (hup q8.2 141 14 q8.1) fun h9 =>
        ck (in32 q8.1) <|
        if q8.1 ≠ (-1) then
          (F_X12_isSmall q8.1 h9).bind fun q12 =>
          ck (in32 q12.1) <|
          if q12.1 = 0 then
            (F_X12_isDigit q8.1 q12.2).bind fun q15 =>
            ck (in32 q15.1) <|
            if q15.1 = 0 then
              nx (hup q15.2 141 13 ((q15.2 141 13) + 1)) fun h18 =>
              if q8.1 ≠ 59 then
                nx (hup h18 141 11 1) fun h20 =>
                some h20
              else
                nx (hup h18 141 11 4) fun h21 =>
                some h21
            else
              nx (hup q15.2 141 14 0) fun h22 =>
              F_X12_ahead_128 20000 h22
          else
            F_X12_ahead_81 20000 q12.2
        else
          nx (hup h9 141 11 0) fun h23 =>
          some h23
      else
        F_X12_ahead_26 (F_X12_ahead_0 n) q4.2
set_option maxRecDepth 100000 in
theorem T_X12_ahead_0 {Z : ZT} (C : Cx Z cX12_ahead 2 RX12 2 none) : ∀ (n : Nat) (h : MH) (t : MH), F_X12_ahead_0 n h = some t → MW Z (Qm Z none zN zG t 0 0) 2 zN zG h 0 0 0 [(0, rfv (xd (zX Z)) 141)] [] := by
  intro n
  induction n with
  | zero =>
    intros
    rename_i hF
    exact absurd hF (by intro q; cases q)
  | succ n ih =>
    intro h t hF
    rw [F_X12_ahead_0] at hF
    refine mw_aload_n 0 C dX12_ahead_0 rfl rfl ?_
    refine mw_aload_n 0 C dX12_ahead_1 rfl rfl ?_
    refine mw_get (k := 13) (T := TX12) (v := iv (h 141 13)) C dX12_ahead_2 zn141 zk141 (by decide) rfl inX12 (by decide) wd902 rfl rfl ?_
    obtain ⟨q1, hq1, hF⟩ := bind_some hF
    refine mw_callV (c := 141) [iv (h 141 13)] [] C dX12_ahead_5 (T_X12_byteAt (zl Z) (zX Z) (h 141 13) _ _ hq1) rfl zn141 zk141 (by decide) rfl wd1006 wd1007 wd1363 wd14 wd1008 hd_X12_byteAt rfl (by decide) (by decide) (Nat.le_of_ble_eq_true rfl) ⟨Nat.zero_le _, Nat.zero_le _⟩ ?_
    refine mw_bipush C dX12_ahead_8 bp_32 ?_
    obtain ⟨g2, hF⟩ := ck_some hF
    rcases ite_some hF with ⟨c3, hF⟩ | ⟨c3, hF⟩
    · refine mw_icmp_eq_t (tgt := 26) C dX12_ahead_10 (by decide) g2 (by decide) c3 ?_
      exact T_X12_ahead_26 C (F_X12_ahead_0 n) ih _ _ hF
    · refine mw_icmp_eq_f (tgt := 26) C dX12_ahead_10 (by decide) g2 (by decide) c3 ?_
      refine mw_aload_n 0 C dX12_ahead_13 rfl rfl ?_
      refine mw_aload_n 0 C dX12_ahead_14 rfl rfl ?_
      refine mw_get (k := 13) (T := TX12) (v := iv (q1.2 141 13)) C dX12_ahead_15 zn141 zk141 (by decide) rfl inX12 (by decide) wd902 rfl rfl ?_
      obtain ⟨q4, hq4, hF⟩ := bind_some hF
      refine mw_callV (c := 141) [iv (q1.2 141 13)] [] C dX12_ahead_18 (T_X12_byteAt (zl Z) (zX Z) (q1.2 141 13) _ _ hq4) rfl zn141 zk141 (by decide) rfl wd1006 wd1007 wd1363 wd14 wd1008 hd_X12_byteAt rfl (by decide) (by decide) (Nat.le_of_ble_eq_true rfl) ⟨Nat.zero_le _, Nat.zero_le _⟩ ?_
      refine mw_bipush C dX12_ahead_21 bp_10 ?_
      obtain ⟨g5, hF⟩ := ck_some hF
      rcases ite_some hF with ⟨c6, hF⟩ | ⟨c6, hF⟩
      · refine mw_icmp_ne_t (tgt := 39) C dX12_ahead_23 (by decide) g5 (by decide) c6 ?_
        refine mw_aload_n 0 C dX12_ahead_39 rfl rfl ?_
        refine mw_aload_n 0 C dX12_ahead_40 rfl rfl ?_
        refine mw_get (k := 13) (T := TX12) (v := iv (q4.2 141 13)) C dX12_ahead_41 zn141 zk141 (by decide) rfl inX12 (by decide) wd902 rfl rfl ?_
        obtain ⟨h7, eh7, hF⟩ := nx_some hF
        refine mw_put (k := 12) (T := TX12) (ty0 := tyX12) (x := (q4.2 141 13)) C dX12_ahead_44 zn141 zk141 (by decide) rfl inX12 tyX12_ok nmX12 (by decide) wd901 rfl rfl rfl rfl rfl (by decide) (mw_h eh7 ?_)
        refine mw_aload_n 0 C dX12_ahead_47 rfl rfl ?_
        refine mw_aload_n 0 C dX12_ahead_48 rfl rfl ?_
        refine mw_get (k := 13) (T := TX12) (v := iv (h7 141 13)) C dX12_ahead_49 zn141 zk141 (by decide) rfl inX12 (by decide) wd902 rfl rfl ?_
        obtain ⟨q8, hq8, hF⟩ := bind_some hF
        refine mw_callV (c := 141) [iv (h7 141 13)] [] C dX12_ahead_52 (T_X12_byteAt (zl Z) (zX Z) (h7 141 13) _ _ hq8) rfl zn141 zk141 (by decide) rfl wd1006 wd1007 wd1363 wd14 wd1008 hd_X12_byteAt rfl (by decide) (by decide) (Nat.le_of_ble_eq_true rfl) ⟨Nat.zero_le _, Nat.zero_le _⟩ ?_
        refine mw_istore_n [(1, iv q8.1), (0, rfv (xd (zX Z)) 141)] C dX12_ahead_55 rfl (by decide) rfl ?_
        refine mw_aload_n 1 C dX12_ahead_56 rfl rfl ?_
        refine mw_iload_n 0 C dX12_ahead_57 rfl rfl ?_
        obtain ⟨h9, eh9, hF⟩ := nx_some hF
        refine mw_put (k := 14) (T := TX12) (ty0 := tyX12) (x := q8.1) C dX12_ahead_58 zn141 zk141 (by decide) rfl inX12 tyX12_ok nmX12 (by decide) wd903 rfl rfl rfl rfl rfl (by decide) (mw_h eh9 ?_)
        refine mw_iload_n 0 C dX12_ahead_61 rfl rfl ?_
        refine mw_iconst C dX12_ahead_62 ?_
        obtain ⟨g10, hF⟩ := ck_some hF
        rcases ite_some hF with ⟨c11, hF⟩ | ⟨c11, hF⟩
        · refine mw_icmp_ne_t (tgt := 74) C dX12_ahead_63 (by decide) g10 (by decide) c11 ?_
          refine mw_iload_n 0 C dX12_ahead_74 rfl rfl ?_
          obtain ⟨q12, hq12, hF⟩ := bind_some hF
          refine mw_callS [iv q8.1] [] C dX12_ahead_75 (T_X12_isSmall (zl Z) (zX Z) q8.1 _ _ hq12) rfl wd1009 wd1010 wd14 wd1011 hd_X12_isSmall rfl (by decide) (by decide) (Nat.le_of_ble_eq_true rfl) ⟨Nat.zero_le _, Nat.zero_le _⟩ ?_
          obtain ⟨g13, hF⟩ := ck_some hF
          rcases ite_some hF with ⟨c14, hF⟩ | ⟨c14, hF⟩
          · refine mw_if_eq_t (tgt := 116) C dX12_ahead_78 (by decide) g13 c14 ?_
            refine mw_iload_n 0 C dX12_ahead_116 rfl rfl ?_
            obtain ⟨q15, hq15, hF⟩ := bind_some hF
            refine mw_callS [iv q8.1] [] C dX12_ahead_117 (T_X12_isDigit (zl Z) (zX Z) q8.1 _ _ hq15) rfl wd1012 wd1013 wd14 wd1014 hd_X12_isDigit rfl (by decide) (by decide) (Nat.le_of_ble_eq_true rfl) ⟨Nat.zero_le _, Nat.zero_le _⟩ ?_
            obtain ⟨g16, hF⟩ := ck_some hF
            rcases ite_some hF with ⟨c17, hF⟩ | ⟨c17, hF⟩
            · refine mw_if_eq_t (tgt := 208) C dX12_ahead_120 (by decide) g16 c17 ?_
              refine mw_aload_n 1 C dX12_ahead_208 rfl rfl ?_
              refine mw_dup C dX12_ahead_209 rfl ?_
              refine mw_get (k := 13) (T := TX12) (v := iv (q15.2 141 13)) C dX12_ahead_210 zn141 zk141 (by decide) rfl inX12 (by decide) wd902 rfl rfl ?_
              refine mw_iconst C dX12_ahead_213 ?_
              refine mw_iadd C dX12_ahead_214 ?_
              obtain ⟨h18, eh18, hF⟩ := nx_some hF
              refine mw_put (k := 13) (T := TX12) (ty0 := tyX12) (x := ((q15.2 141 13) + 1)) C dX12_ahead_215 zn141 zk141 (by decide) rfl inX12 tyX12_ok nmX12 (by decide) wd902 rfl rfl rfl rfl rfl (by decide) (mw_h eh18 ?_)
              refine mw_aload_n 1 C dX12_ahead_218 rfl rfl ?_
              refine mw_iload_n 0 C dX12_ahead_219 rfl rfl ?_
              refine mw_bipush C dX12_ahead_220 bp_59 ?_
              rcases ite_some hF with ⟨c19, hF⟩ | ⟨c19, hF⟩
              · refine mw_icmp_ne_t (tgt := 229) C dX12_ahead_222 (by decide) g10 (by decide) c19 ?_
                refine mw_iconst C dX12_ahead_229 ?_
                obtain ⟨h20, eh20, hF⟩ := nx_some hF
                refine mw_put (k := 11) (T := TX12) (ty0 := tyX12) (x := 1) C dX12_ahead_230 zn141 zk141 (by decide) rfl inX12 tyX12_ok nmX12 (by decide) wd900 rfl rfl rfl rfl rfl (by decide) (mw_h eh20 ?_)
                cases hF
                exact mw_vret C dX12_ahead_233 rfl rfl
              · refine mw_icmp_ne_f (tgt := 229) C dX12_ahead_222 (by decide) g10 (by decide) c19 ?_
                refine mw_iconst C dX12_ahead_225 ?_
                refine mw_goto (tgt := 230) C dX12_ahead_226 (by decide) ?_
                obtain ⟨h21, eh21, hF⟩ := nx_some hF
                refine mw_put (k := 11) (T := TX12) (ty0 := tyX12) (x := 4) C dX12_ahead_230 zn141 zk141 (by decide) rfl inX12 tyX12_ok nmX12 (by decide) wd900 rfl rfl rfl rfl rfl (by decide) (mw_h eh21 ?_)
                cases hF
                exact mw_vret C dX12_ahead_233 rfl rfl
            · refine mw_if_eq_f (tgt := 208) C dX12_ahead_120 (by decide) g16 c17 ?_
              refine mw_aload_n 1 C dX12_ahead_123 rfl rfl ?_
              refine mw_iconst C dX12_ahead_124 ?_
              obtain ⟨h22, eh22, hF⟩ := nx_some hF
              refine mw_put (k := 14) (T := TX12) (ty0 := tyX12) (x := 0) C dX12_ahead_125 zn141 zk141 (by decide) rfl inX12 tyX12_ok nmX12 (by decide) wd903 rfl rfl rfl rfl rfl (by decide) (mw_h eh22 ?_)
              refine mw_sub [1] rfl ?_
              exact T_X12_ahead_128 C 20000 _ _ hF
          · refine mw_if_eq_f (tgt := 116) C dX12_ahead_78 (by decide) g13 c14 ?_
            refine mw_sub [1] rfl ?_
            exact T_X12_ahead_81 C 20000 _ _ hF
        · refine mw_icmp_ne_f (tgt := 74) C dX12_ahead_63 (by decide) g10 (by decide) c11 ?_
          refine mw_aload_n 1 C dX12_ahead_66 rfl rfl ?_
          refine mw_iconst C dX12_ahead_67 ?_
          obtain ⟨h23, eh23, hF⟩ := nx_some hF
          refine mw_put (k := 11) (T := TX12) (ty0 := tyX12) (x := 0) C dX12_ahead_68 zn141 zk141 (by decide) rfl inX12 tyX12_ok nmX12 (by decide) wd900 rfl rfl rfl rfl rfl (by decide) (mw_h eh23 ?_)
          refine mw_goto (tgt := 233) C dX12_ahead_71 (by decide) ?_
          cases hF
          exact mw_vret C dX12_ahead_233 rfl rfl
      · refine mw_icmp_ne_f (tgt := 39) C dX12_ahead_23 (by decide) g5 (by decide) c6 ?_
        exact T_X12_ahead_26 C (F_X12_ahead_0 n) ih _ _ hF
def F_X12_ahead (h : MH) : Option MH := F_X12_ahead_0 20000 h
theorem T_X12_ahead (l : Launch) (X : XT) (h : MH) (t : MH) (hF : F_X12_ahead h = some t) : Ct l X yX12_ahead cX12_ahead 2 none 2 [rfv (xd X) 141] zN zG h none zN zG t 0 0 := by
  refine Ct.head (by decide) (Nat.le_of_ble_eq_true rfl) (fun Z hX hl _ _ _ C => ?_)
  subst hX
  subst hl
  exact (T_X12_ahead_0 C 20000 _ _ hF)
/-! BottleLineModel.inWords(Ljava/lang/String;)I -/
def F_X12_inWords_115 (k14 : Nat → Int → Int → MH → Option (Int × MH)) (x1 : Nat) (x2 : Int) (x4 : Int) (x5 : Int) (h : MH) : Option (Int × MH) :=
  ck (in32 x5) <|
  if x5 = 0 then
    nx (x4 + 1) fun v3 =>
    k14 x1 (x2 + 1) v3 h
  else
    some (x2, h)
set_option maxRecDepth 100000 in
theorem T_X12_inWords_115 {Z : ZT} (C : Cx Z cX12_inWords 7 RX12 6 (some .int)) (k14 : Nat → Int → Int → MH → Option (Int × MH)) (hk14 : ∀ (x1 : Nat) (x2 : Int) (x3 : Int) (hk_x1 : x1 < 21) (h : MH) (t : (Int × MH)), k14 x1 x2 x3 h = some t → MW Z (Qm Z (some (iv t.1)) zN zG t.2 0 0) 7 zN zG h 0 0 14 [(0, rfv (xd (zX Z)) 141), (1, .ref (xa (zX Z) x1)), (2, iv x2), (3, iv x3)] []) (x1 : Nat) (x2 : Int) (x4 : Int) (x5 : Int) (hk_x1 : x1 < 21) (h : MH) (t : (Int × MH)) (hF : F_X12_inWords_115 k14 x1 x2 x4 x5 h = some t) : MW Z (Qm Z (some (iv t.1)) zN zG t.2 0 0) 7 zN zG h 0 0 115 [(0, rfv (xd (zX Z)) 141), (1, .ref (xa (zX Z) x1)), (2, iv x2), (4, iv x4), (5, iv x5)] [] := by
  unfold F_X12_inWords_115 at hF
  refine mw_iload 4 C dX12_inWords_115 rfl ?_
  obtain ⟨g1, hF⟩ := ck_some hF
  rcases ite_some hF with ⟨c2, hF⟩ | ⟨c2, hF⟩
  · refine mw_if_eq_t (tgt := 122) C dX12_inWords_117 (by decide) g1 c2 ?_
    refine mw_iinc 2 [(2, iv (x2 + 1)), (0, rfv (xd (zX Z)) 141), (1, .ref (xa (zX Z) x1)), (4, iv x4), (5, iv x5)] C dX12_inWords_122 rfl (by decide) rfl ?_
    refine mw_iload 3 C dX12_inWords_125 rfl ?_
    refine mw_iconst C dX12_inWords_127 ?_
    refine mw_iadd C dX12_inWords_128 ?_
    obtain ⟨v3, ev3, hF⟩ := nx_some hF
    refine mw_ti ev3 ?_
    refine mw_istore_n [(3, iv v3), (2, iv (x2 + 1)), (0, rfv (xd (zX Z)) 141), (1, .ref (xa (zX Z) x1)), (4, iv x4), (5, iv x5)] C dX12_inWords_129 rfl (by decide) rfl ?_
    refine mw_goto (tgt := 14) C dX12_inWords_130 (by decide) ?_
    refine mw_sub [2, 3, 1, 0] rfl ?_
    exact hk14 x1 (x2 + 1) v3 hk_x1 _ _ hF
  · refine mw_if_eq_f (tgt := 122) C dX12_inWords_117 (by decide) g1 c2 ?_
    refine mw_iload_n 2 C dX12_inWords_120 rfl rfl ?_
    cases hF
    exact mw_iret C dX12_inWords_121 rfl rfl
def F_X12_inWords_107 (k14 : Nat → Int → Int → MH → Option (Int × MH)) (k68 : Nat → Int → Int → Int → Int → Int → MH → Option (Int × MH)) (x1 : Nat) (x2 : Int) (x3 : Int) (x4 : Int) (x6 : Int) (s0 : Int) (h : MH) : Option (Int × MH) :=
  k68 x1 x2 x3 x4 s0 (x6 + 1) h
set_option maxRecDepth 100000 in
theorem T_X12_inWords_107 {Z : ZT} (C : Cx Z cX12_inWords 7 RX12 6 (some .int)) (k14 : Nat → Int → Int → MH → Option (Int × MH)) (hk14 : ∀ (x1 : Nat) (x2 : Int) (x3 : Int) (hk_x1 : x1 < 21) (h : MH) (t : (Int × MH)), k14 x1 x2 x3 h = some t → MW Z (Qm Z (some (iv t.1)) zN zG t.2 0 0) 7 zN zG h 0 0 14 [(0, rfv (xd (zX Z)) 141), (1, .ref (xa (zX Z) x1)), (2, iv x2), (3, iv x3)] []) (k68 : Nat → Int → Int → Int → Int → Int → MH → Option (Int × MH)) (hk68 : ∀ (x1 : Nat) (x2 : Int) (x3 : Int) (x4 : Int) (x5 : Int) (x6 : Int) (hk_x1 : x1 < 21) (h : MH) (t : (Int × MH)), k68 x1 x2 x3 x4 x5 x6 h = some t → MW Z (Qm Z (some (iv t.1)) zN zG t.2 0 0) 7 zN zG h 0 0 68 [(0, rfv (xd (zX Z)) 141), (1, .ref (xa (zX Z) x1)), (2, iv x2), (3, iv x3), (4, iv x4), (5, iv x5), (6, iv x6)] []) (x1 : Nat) (x2 : Int) (x3 : Int) (x4 : Int) (x6 : Int) (s0 : Int) (hk_x1 : x1 < 21) (h : MH) (t : (Int × MH)) (hF : F_X12_inWords_107 k14 k68 x1 x2 x3 x4 x6 s0 h = some t) : MW Z (Qm Z (some (iv t.1)) zN zG t.2 0 0) 7 zN zG h 0 0 107 [(0, rfv (xd (zX Z)) 141), (1, .ref (xa (zX Z) x1)), (2, iv x2), (3, iv x3), (4, iv x4), (6, iv x6)] [iv s0] := by
  unfold F_X12_inWords_107 at hF
  refine mw_istore [(5, iv s0), (0, rfv (xd (zX Z)) 141), (1, .ref (xa (zX Z) x1)), (2, iv x2), (3, iv x3), (4, iv x4), (6, iv x6)] C dX12_inWords_107 (by decide) rfl ?_
  refine mw_iinc 6 [(6, iv (x6 + 1)), (5, iv s0), (0, rfv (xd (zX Z)) 141), (1, .ref (xa (zX Z) x1)), (2, iv x2), (3, iv x3), (4, iv x4)] C dX12_inWords_109 rfl (by decide) rfl ?_
  refine mw_goto (tgt := 68) C dX12_inWords_112 (by decide) ?_
  refine mw_sub [2, 3, 4, 5, 6, 1, 0] rfl ?_
  exact hk68 x1 x2 x3 x4 s0 (x6 + 1) hk_x1 _ _ hF
def F_X12_inWords_68 (k14 : Nat → Int → Int → MH → Option (Int × MH)) : Nat → Nat → Int → Int → Int → Int → Int → MH → Option (Int × MH)
  | 0, _, _, _, _, _, _, _ => none
  | n + 1, x1, x2, x3, x4, x5, x6, h =>
    ck (in32 x6) <|
    ck (in32 x4) <|
    if x4 ≤ x6 then
      F_X12_inWords_115 k14 x1 x2 x4 x5 h
    else
      ck (in32 x5) <|
      if x5 = 0 then
        F_X12_inWords_115 k14 x1 x2 x4 x5 h
      else
        ck (0 ≤ x6 ∧ x6 < slen x1) <|
        (F_X12_byteAt (((h 141 12) + x6) - x3) h).bind fun q7 =>
        ck (in32 (sch x1 x6.toNat)) <|
        ck (in32 q7.1) <|
        if (sch x1 x6.toNat) ≠ q7.1 then
          F_X12_inWords_107 k14 (F_X12_inWords_68 k14 n) x1 x2 x3 x4 x6 0 q7.2
        else
          F_X12_inWords_107 k14 (F_X12_inWords_68 k14 n) x1 x2 x3 x4 x6 1 q7.2
set_option maxRecDepth 100000 in
theorem T_X12_inWords_68 {Z : ZT} (C : Cx Z cX12_inWords 7 RX12 6 (some .int)) (k14 : Nat → Int → Int → MH → Option (Int × MH)) (hk14 : ∀ (x1 : Nat) (x2 : Int) (x3 : Int) (hk_x1 : x1 < 21) (h : MH) (t : (Int × MH)), k14 x1 x2 x3 h = some t → MW Z (Qm Z (some (iv t.1)) zN zG t.2 0 0) 7 zN zG h 0 0 14 [(0, rfv (xd (zX Z)) 141), (1, .ref (xa (zX Z) x1)), (2, iv x2), (3, iv x3)] []) : ∀ (n : Nat) (x1 : Nat) (x2 : Int) (x3 : Int) (x4 : Int) (x5 : Int) (x6 : Int) (hk_x1 : x1 < 21) (h : MH) (t : (Int × MH)), F_X12_inWords_68 k14 n x1 x2 x3 x4 x5 x6 h = some t → MW Z (Qm Z (some (iv t.1)) zN zG t.2 0 0) 7 zN zG h 0 0 68 [(0, rfv (xd (zX Z)) 141), (1, .ref (xa (zX Z) x1)), (2, iv x2), (3, iv x3), (4, iv x4), (5, iv x5), (6, iv x6)] [] := by
  intro n
  induction n with
  | zero =>
    intros
    rename_i hF
    exact absurd hF (by intro q; cases q)
  | succ n ih =>
    intro x1 x2 x3 x4 x5 x6 hk_x1 h t hF
    rw [F_X12_inWords_68] at hF
    refine mw_iload 6 C dX12_inWords_68 rfl ?_
    refine mw_iload 4 C dX12_inWords_70 rfl ?_
    obtain ⟨g1, hF⟩ := ck_some hF
    obtain ⟨g2, hF⟩ := ck_some hF
    rcases ite_some hF with ⟨c3, hF⟩ | ⟨c3, hF⟩
    · refine mw_icmp_ge_t (tgt := 115) C dX12_inWords_72 (by decide) g1 g2 c3 ?_
      refine mw_sub [0, 1, 2, 4, 5] rfl ?_
      exact T_X12_inWords_115 C k14 hk14 x1 x2 x4 x5 hk_x1 _ _ hF
    · refine mw_icmp_ge_f (tgt := 115) C dX12_inWords_72 (by decide) g1 g2 c3 ?_
      refine mw_iload 5 C dX12_inWords_75 rfl ?_
      obtain ⟨g4, hF⟩ := ck_some hF
      rcases ite_some hF with ⟨c5, hF⟩ | ⟨c5, hF⟩
      · refine mw_if_eq_t (tgt := 115) C dX12_inWords_77 (by decide) g4 c5 ?_
        refine mw_sub [0, 1, 2, 4, 5] rfl ?_
        exact T_X12_inWords_115 C k14 hk14 x1 x2 x4 x5 hk_x1 _ _ hF
      · refine mw_if_eq_f (tgt := 115) C dX12_inWords_77 (by decide) g4 c5 ?_
        refine mw_aload_n 1 C dX12_inWords_80 rfl rfl ?_
        refine mw_iload 6 C dX12_inWords_81 rfl ?_
        obtain ⟨g6, hF⟩ := ck_some hF
        refine mw_charAt C dX12_inWords_83 wd1025 hk_x1 g6 (by decide) (Nat.le_of_ble_eq_true rfl) ?_
        refine mw_aload_n 0 C dX12_inWords_86 rfl rfl ?_
        refine mw_aload_n 0 C dX12_inWords_87 rfl rfl ?_
        refine mw_get (k := 12) (T := TX12) (v := iv (h 141 12)) C dX12_inWords_88 zn141 zk141 (by decide) rfl inX12 (by decide) wd901 rfl rfl ?_
        refine mw_iload 6 C dX12_inWords_91 rfl ?_
        refine mw_iadd C dX12_inWords_93 ?_
        refine mw_iload_n 3 C dX12_inWords_94 rfl rfl ?_
        refine mw_isub C dX12_inWords_95 ?_
        obtain ⟨q7, hq7, hF⟩ := bind_some hF
        refine mw_callV (c := 141) [iv (((h 141 12) + x6) - x3)] [iv (sch x1 x6.toNat)] C dX12_inWords_96 (T_X12_byteAt (zl Z) (zX Z) (((h 141 12) + x6) - x3) _ _ hq7) rfl zn141 zk141 (by decide) rfl wd1006 wd1007 wd1363 wd14 wd1008 hd_X12_byteAt rfl (by decide) (by decide) (Nat.le_of_ble_eq_true rfl) ⟨Nat.zero_le _, Nat.zero_le _⟩ ?_
        obtain ⟨g8, hF⟩ := ck_some hF
        obtain ⟨g9, hF⟩ := ck_some hF
        rcases ite_some hF with ⟨c10, hF⟩ | ⟨c10, hF⟩
        · refine mw_icmp_ne_t (tgt := 106) C dX12_inWords_99 (by decide) g8 g9 c10 ?_
          refine mw_iconst C dX12_inWords_106 ?_
          refine mw_sub [0, 1, 2, 3, 4, 6] rfl ?_
          exact T_X12_inWords_107 C k14 hk14 (F_X12_inWords_68 k14 n) ih x1 x2 x3 x4 x6 0 hk_x1 _ _ hF
        · refine mw_icmp_ne_f (tgt := 106) C dX12_inWords_99 (by decide) g8 g9 c10 ?_
          refine mw_iconst C dX12_inWords_102 ?_
          refine mw_goto (tgt := 107) C dX12_inWords_103 (by decide) ?_
          refine mw_sub [0, 1, 2, 3, 4, 6] rfl ?_
          exact T_X12_inWords_107 C k14 hk14 (F_X12_inWords_68 k14 n) ih x1 x2 x3 x4 x6 1 hk_x1 _ _ hF
def F_X12_inWords_63 (k14 : Nat → Int → Int → MH → Option (Int × MH)) (x1 : Nat) (x2 : Int) (x3 : Int) (x4 : Int) (s0 : Int) (h : MH) : Option (Int × MH) :=
  F_X12_inWords_68 k14 20000 x1 x2 x3 x4 s0 x3 h
set_option maxRecDepth 100000 in
theorem T_X12_inWords_63 {Z : ZT} (C : Cx Z cX12_inWords 7 RX12 6 (some .int)) (k14 : Nat → Int → Int → MH → Option (Int × MH)) (hk14 : ∀ (x1 : Nat) (x2 : Int) (x3 : Int) (hk_x1 : x1 < 21) (h : MH) (t : (Int × MH)), k14 x1 x2 x3 h = some t → MW Z (Qm Z (some (iv t.1)) zN zG t.2 0 0) 7 zN zG h 0 0 14 [(0, rfv (xd (zX Z)) 141), (1, .ref (xa (zX Z) x1)), (2, iv x2), (3, iv x3)] []) (x1 : Nat) (x2 : Int) (x3 : Int) (x4 : Int) (s0 : Int) (hk_x1 : x1 < 21) (h : MH) (t : (Int × MH)) (hF : F_X12_inWords_63 k14 x1 x2 x3 x4 s0 h = some t) : MW Z (Qm Z (some (iv t.1)) zN zG t.2 0 0) 7 zN zG h 0 0 63 [(0, rfv (xd (zX Z)) 141), (1, .ref (xa (zX Z) x1)), (2, iv x2), (3, iv x3), (4, iv x4)] [iv s0] := by
  unfold F_X12_inWords_63 at hF
  refine mw_istore [(5, iv s0), (0, rfv (xd (zX Z)) 141), (1, .ref (xa (zX Z) x1)), (2, iv x2), (3, iv x3), (4, iv x4)] C dX12_inWords_63 (by decide) rfl ?_
  refine mw_iload_n 4 C dX12_inWords_65 rfl rfl ?_
  refine mw_istore [(6, iv x3), (5, iv s0), (0, rfv (xd (zX Z)) 141), (1, .ref (xa (zX Z) x1)), (2, iv x2), (3, iv x3), (4, iv x4)] C dX12_inWords_66 (by decide) rfl ?_
  refine mw_sub [2, 3, 4, 5, 6, 1, 0] rfl ?_
  exact T_X12_inWords_68 C k14 hk14 20000 x1 x2 x3 x4 s0 x3 hk_x1 _ _ hF
def F_X12_inWords_25 (k14 : Nat → Int → Int → MH → Option (Int × MH)) : Nat → Nat → Int → Int → Int → MH → Option (Int × MH)
  | 0, _, _, _, _, _ => none
  | n + 1, x1, x2, x3, x4, h =>
    ck (0 ≤ x4 ∧ x4 < slen x1) <|
    ck (in32 (sch x1 x4.toNat)) <|
    if (sch x1 x4.toNat) = 32 then
      ck (in32 (x4 - x3)) <|
      ck (in32 ((h 141 13) - (h 141 12))) <|
      if (x4 - x3) ≠ ((h 141 13) - (h 141 12)) then
        F_X12_inWords_63 k14 x1 x2 x3 x4 0 h
      else
        F_X12_inWords_63 k14 x1 x2 x3 x4 1 h
    else
      F_X12_inWords_25 k14 n x1 x2 x3 (x4 + 1) h
set_option maxRecDepth 100000 in
theorem T_X12_inWords_25 {Z : ZT} (C : Cx Z cX12_inWords 7 RX12 6 (some .int)) (k14 : Nat → Int → Int → MH → Option (Int × MH)) (hk14 : ∀ (x1 : Nat) (x2 : Int) (x3 : Int) (hk_x1 : x1 < 21) (h : MH) (t : (Int × MH)), k14 x1 x2 x3 h = some t → MW Z (Qm Z (some (iv t.1)) zN zG t.2 0 0) 7 zN zG h 0 0 14 [(0, rfv (xd (zX Z)) 141), (1, .ref (xa (zX Z) x1)), (2, iv x2), (3, iv x3)] []) : ∀ (n : Nat) (x1 : Nat) (x2 : Int) (x3 : Int) (x4 : Int) (hk_x1 : x1 < 21) (h : MH) (t : (Int × MH)), F_X12_inWords_25 k14 n x1 x2 x3 x4 h = some t → MW Z (Qm Z (some (iv t.1)) zN zG t.2 0 0) 7 zN zG h 0 0 25 [(0, rfv (xd (zX Z)) 141), (1, .ref (xa (zX Z) x1)), (2, iv x2), (3, iv x3), (4, iv x4)] [] := by
  intro n
  induction n with
  | zero =>
    intros
    rename_i hF
    exact absurd hF (by intro q; cases q)
  | succ n ih =>
    intro x1 x2 x3 x4 hk_x1 h t hF
    rw [F_X12_inWords_25] at hF
    refine mw_aload_n 1 C dX12_inWords_25 rfl rfl ?_
    refine mw_iload 4 C dX12_inWords_26 rfl ?_
    obtain ⟨g1, hF⟩ := ck_some hF
    refine mw_charAt C dX12_inWords_28 wd1025 hk_x1 g1 (by decide) (Nat.le_of_ble_eq_true rfl) ?_
    refine mw_bipush C dX12_inWords_31 bp_32 ?_
    obtain ⟨g2, hF⟩ := ck_some hF
    rcases ite_some hF with ⟨c3, hF⟩ | ⟨c3, hF⟩
    · refine mw_icmp_eq_t (tgt := 42) C dX12_inWords_33 (by decide) g2 (by decide) c3 ?_
      refine mw_iload 4 C dX12_inWords_42 rfl ?_
      refine mw_iload_n 3 C dX12_inWords_44 rfl rfl ?_
      refine mw_isub C dX12_inWords_45 ?_
      refine mw_aload_n 0 C dX12_inWords_46 rfl rfl ?_
      refine mw_get (k := 13) (T := TX12) (v := iv (h 141 13)) C dX12_inWords_47 zn141 zk141 (by decide) rfl inX12 (by decide) wd902 rfl rfl ?_
      refine mw_aload_n 0 C dX12_inWords_50 rfl rfl ?_
      refine mw_get (k := 12) (T := TX12) (v := iv (h 141 12)) C dX12_inWords_51 zn141 zk141 (by decide) rfl inX12 (by decide) wd901 rfl rfl ?_
      refine mw_isub C dX12_inWords_54 ?_
      obtain ⟨g4, hF⟩ := ck_some hF
      obtain ⟨g5, hF⟩ := ck_some hF
      rcases ite_some hF with ⟨c6, hF⟩ | ⟨c6, hF⟩
      · refine mw_icmp_ne_t (tgt := 62) C dX12_inWords_55 (by decide) g4 g5 c6 ?_
        refine mw_iconst C dX12_inWords_62 ?_
        exact T_X12_inWords_63 C k14 hk14 x1 x2 x3 x4 0 hk_x1 _ _ hF
      · refine mw_icmp_ne_f (tgt := 62) C dX12_inWords_55 (by decide) g4 g5 c6 ?_
        refine mw_iconst C dX12_inWords_58 ?_
        refine mw_goto (tgt := 63) C dX12_inWords_59 (by decide) ?_
        exact T_X12_inWords_63 C k14 hk14 x1 x2 x3 x4 1 hk_x1 _ _ hF
    · refine mw_icmp_eq_f (tgt := 42) C dX12_inWords_33 (by decide) g2 (by decide) c3 ?_
      refine mw_iinc 4 [(4, iv (x4 + 1)), (0, rfv (xd (zX Z)) 141), (1, .ref (xa (zX Z) x1)), (2, iv x2), (3, iv x3)] C dX12_inWords_36 rfl (by decide) rfl ?_
      refine mw_goto (tgt := 25) C dX12_inWords_39 (by decide) ?_
      refine mw_sub [1, 2, 3, 4, 0] rfl ?_
      exact ih x1 x2 x3 (x4 + 1) hk_x1 _ _ hF
def F_X12_inWords_14 : Nat → Nat → Int → Int → MH → Option (Int × MH)
  | 0, _, _, _, _ => none
  | n + 1, x1, x2, x3, h =>
    ck (in32 x3) <|
    ck (in32 (slen x1)) <|
    if (slen x1) ≤ x3 then
      some ((-1), h)
    else
      F_X12_inWords_25 (F_X12_inWords_14 n) 20000 x1 x2 x3 x3 h
set_option maxRecDepth 100000 in
theorem T_X12_inWords_14 {Z : ZT} (C : Cx Z cX12_inWords 7 RX12 6 (some .int)) : ∀ (n : Nat) (x1 : Nat) (x2 : Int) (x3 : Int) (hk_x1 : x1 < 21) (h : MH) (t : (Int × MH)), F_X12_inWords_14 n x1 x2 x3 h = some t → MW Z (Qm Z (some (iv t.1)) zN zG t.2 0 0) 7 zN zG h 0 0 14 [(0, rfv (xd (zX Z)) 141), (1, .ref (xa (zX Z) x1)), (2, iv x2), (3, iv x3)] [] := by
  intro n
  induction n with
  | zero =>
    intros
    rename_i hF
    exact absurd hF (by intro q; cases q)
  | succ n ih =>
    intro x1 x2 x3 hk_x1 h t hF
    rw [F_X12_inWords_14] at hF
    refine mw_iload_n 3 C dX12_inWords_14 rfl rfl ?_
    refine mw_aload_n 1 C dX12_inWords_15 rfl rfl ?_
    refine mw_strlen C dX12_inWords_16 wd1024 hk_x1 (by decide) (Nat.le_of_ble_eq_true rfl) ?_
    obtain ⟨g1, hF⟩ := ck_some hF
    obtain ⟨g2, hF⟩ := ck_some hF
    rcases ite_some hF with ⟨c3, hF⟩ | ⟨c3, hF⟩
    · refine mw_icmp_ge_t (tgt := 133) C dX12_inWords_19 (by decide) g1 g2 c3 ?_
      refine mw_iconst C dX12_inWords_133 ?_
      cases hF
      exact mw_iret C dX12_inWords_134 rfl rfl
    · refine mw_icmp_ge_f (tgt := 133) C dX12_inWords_19 (by decide) g1 g2 c3 ?_
      refine mw_iload_n 3 C dX12_inWords_22 rfl rfl ?_
      refine mw_istore [(4, iv x3), (0, rfv (xd (zX Z)) 141), (1, .ref (xa (zX Z) x1)), (2, iv x2), (3, iv x3)] C dX12_inWords_23 (by decide) rfl ?_
      refine mw_sub [1, 2, 3, 4, 0] rfl ?_
      exact T_X12_inWords_25 C (F_X12_inWords_14 n) ih 20000 x1 x2 x3 x3 hk_x1 _ _ hF
def F_X12_inWords_0 (x1 : Nat) (h : MH) : Option (Int × MH) :=
  ck (in32 (h 141 11)) <|
  if (h 141 11) = 2 then
    F_X12_inWords_14 20000 x1 0 1 h
  else
    some ((-1), h)
set_option maxRecDepth 100000 in
theorem T_X12_inWords_0 {Z : ZT} (C : Cx Z cX12_inWords 7 RX12 6 (some .int)) (x1 : Nat) (hk_x1 : x1 < 21) (h : MH) (t : (Int × MH)) (hF : F_X12_inWords_0 x1 h = some t) : MW Z (Qm Z (some (iv t.1)) zN zG t.2 0 0) 7 zN zG h 0 0 0 [(0, rfv (xd (zX Z)) 141), (1, .ref (xa (zX Z) x1))] [] := by
  unfold F_X12_inWords_0 at hF
  refine mw_aload_n 0 C dX12_inWords_0 rfl rfl ?_
  refine mw_get (k := 11) (T := TX12) (v := iv (h 141 11)) C dX12_inWords_1 zn141 zk141 (by decide) rfl inX12 (by decide) wd900 rfl rfl ?_
  refine mw_iconst C dX12_inWords_4 ?_
  obtain ⟨g1, hF⟩ := ck_some hF
  rcases ite_some hF with ⟨c2, hF⟩ | ⟨c2, hF⟩
  · refine mw_icmp_eq_t (tgt := 10) C dX12_inWords_5 (by decide) g1 (by decide) c2 ?_
    refine mw_iconst C dX12_inWords_10 ?_
    refine mw_istore_n [(2, iv 0), (0, rfv (xd (zX Z)) 141), (1, .ref (xa (zX Z) x1))] C dX12_inWords_11 rfl (by decide) rfl ?_
    refine mw_iconst C dX12_inWords_12 ?_
    refine mw_istore_n [(3, iv 1), (2, iv 0), (0, rfv (xd (zX Z)) 141), (1, .ref (xa (zX Z) x1))] C dX12_inWords_13 rfl (by decide) rfl ?_
    refine mw_sub [2, 3, 1, 0] rfl ?_
    exact T_X12_inWords_14 C 20000 x1 0 1 hk_x1 _ _ hF
  · refine mw_icmp_eq_f (tgt := 10) C dX12_inWords_5 (by decide) g1 (by decide) c2 ?_
    refine mw_iconst C dX12_inWords_8 ?_
    cases hF
    exact mw_iret C dX12_inWords_9 rfl rfl
def F_X12_inWords (x1 : Nat) (h : MH) : Option (Int × MH) := F_X12_inWords_0 x1 h
theorem T_X12_inWords (l : Launch) (X : XT) (x1 : Nat) (hk_x1 : x1 < 21) (h : MH) (t : (Int × MH)) (hF : F_X12_inWords x1 h = some t) : Ct l X yX12_inWords cX12_inWords 7 (some .int) 6 [rfv (xd X) 141, .ref ((xa X) x1)] zN zG h (some (iv t.1)) zN zG t.2 0 0 := by
  refine Ct.head (by decide) (Nat.le_of_ble_eq_true rfl) (fun Z hX hl _ _ _ C => ?_)
  subst hX
  subst hl
  exact (T_X12_inWords_0 C x1 hk_x1 _ _ hF)
/-! BottleLineModel.fails(I)Z -/
def F_X12_fails_0 (x1 : Int) (h : MH) : Option (Int × MH) :=
  ck (in32 (h 141 17)) <|
  if (h 141 17) ≠ 0 then
    some (0, h)
  else
    ck (in32 (h 141 11)) <|
    if (h 141 11) ≠ 1 then
      nx (hup h 141 17 x1) fun h5 =>
      nx (hup h5 141 16 (h5 141 12)) fun h6 =>
      some (0, h6)
    else
      nx (hup h 141 17 1) fun h7 =>
      nx (hup h7 141 16 (h7 141 12)) fun h8 =>
      some (0, h8)
set_option maxRecDepth 100000 in
theorem T_X12_fails_0 {Z : ZT} (C : Cx Z cX12_fails 2 RX12 1 (some .boolean)) (x1 : Int) (h : MH) (t : (Int × MH)) (hF : F_X12_fails_0 x1 h = some t) : MW Z (Qm Z (some (iv t.1)) zN zG t.2 0 0) 2 zN zG h 0 0 0 [(0, rfv (xd (zX Z)) 141), (1, iv x1)] [] := by
  unfold F_X12_fails_0 at hF
  refine mw_aload_n 0 C dX12_fails_0 rfl rfl ?_
  refine mw_get (k := 17) (T := TX12) (v := iv (h 141 17)) C dX12_fails_1 zn141 zk141 (by decide) rfl inX12 (by decide) wd906 rfl rfl ?_
  obtain ⟨g1, hF⟩ := ck_some hF
  rcases ite_some hF with ⟨c2, hF⟩ | ⟨c2, hF⟩
  · refine mw_if_ne_t (tgt := 32) C dX12_fails_4 (by decide) g1 c2 ?_
    refine mw_iconst C dX12_fails_32 ?_
    cases hF
    exact mw_zret C dX12_fails_33 (Or.inl rfl) rfl rfl
  · refine mw_if_ne_f (tgt := 32) C dX12_fails_4 (by decide) g1 c2 ?_
    refine mw_aload_n 0 C dX12_fails_7 rfl rfl ?_
    refine mw_aload_n 0 C dX12_fails_8 rfl rfl ?_
    refine mw_get (k := 11) (T := TX12) (v := iv (h 141 11)) C dX12_fails_9 zn141 zk141 (by decide) rfl inX12 (by decide) wd900 rfl rfl ?_
    refine mw_iconst C dX12_fails_12 ?_
    obtain ⟨g3, hF⟩ := ck_some hF
    rcases ite_some hF with ⟨c4, hF⟩ | ⟨c4, hF⟩
    · refine mw_icmp_ne_t (tgt := 20) C dX12_fails_13 (by decide) g3 (by decide) c4 ?_
      refine mw_iload_n 1 C dX12_fails_20 rfl rfl ?_
      obtain ⟨h5, eh5, hF⟩ := nx_some hF
      refine mw_put (k := 17) (T := TX12) (ty0 := tyX12) (x := x1) C dX12_fails_21 zn141 zk141 (by decide) rfl inX12 tyX12_ok nmX12 (by decide) wd906 rfl rfl rfl rfl rfl (by decide) (mw_h eh5 ?_)
      refine mw_aload_n 0 C dX12_fails_24 rfl rfl ?_
      refine mw_aload_n 0 C dX12_fails_25 rfl rfl ?_
      refine mw_get (k := 12) (T := TX12) (v := iv (h5 141 12)) C dX12_fails_26 zn141 zk141 (by decide) rfl inX12 (by decide) wd901 rfl rfl ?_
      obtain ⟨h6, eh6, hF⟩ := nx_some hF
      refine mw_put (k := 16) (T := TX12) (ty0 := tyX12) (x := (h5 141 12)) C dX12_fails_29 zn141 zk141 (by decide) rfl inX12 tyX12_ok nmX12 (by decide) wd905 rfl rfl rfl rfl rfl (by decide) (mw_h eh6 ?_)
      refine mw_iconst C dX12_fails_32 ?_
      cases hF
      exact mw_zret C dX12_fails_33 (Or.inl rfl) rfl rfl
    · refine mw_icmp_ne_f (tgt := 20) C dX12_fails_13 (by decide) g3 (by decide) c4 ?_
      refine mw_iconst C dX12_fails_16 ?_
      refine mw_goto (tgt := 21) C dX12_fails_17 (by decide) ?_
      obtain ⟨h7, eh7, hF⟩ := nx_some hF
      refine mw_put (k := 17) (T := TX12) (ty0 := tyX12) (x := 1) C dX12_fails_21 zn141 zk141 (by decide) rfl inX12 tyX12_ok nmX12 (by decide) wd906 rfl rfl rfl rfl rfl (by decide) (mw_h eh7 ?_)
      refine mw_aload_n 0 C dX12_fails_24 rfl rfl ?_
      refine mw_aload_n 0 C dX12_fails_25 rfl rfl ?_
      refine mw_get (k := 12) (T := TX12) (v := iv (h7 141 12)) C dX12_fails_26 zn141 zk141 (by decide) rfl inX12 (by decide) wd901 rfl rfl ?_
      obtain ⟨h8, eh8, hF⟩ := nx_some hF
      refine mw_put (k := 16) (T := TX12) (ty0 := tyX12) (x := (h7 141 12)) C dX12_fails_29 zn141 zk141 (by decide) rfl inX12 tyX12_ok nmX12 (by decide) wd905 rfl rfl rfl rfl rfl (by decide) (mw_h eh8 ?_)
      refine mw_iconst C dX12_fails_32 ?_
      cases hF
      exact mw_zret C dX12_fails_33 (Or.inl rfl) rfl rfl
def F_X12_fails (x1 : Int) (h : MH) : Option (Int × MH) := F_X12_fails_0 x1 h
theorem T_X12_fails (l : Launch) (X : XT) (x1 : Int) (h : MH) (t : (Int × MH)) (hF : F_X12_fails x1 h = some t) : Ct l X yX12_fails cX12_fails 2 (some .boolean) 1 [rfv (xd X) 141, iv x1] zN zG h (some (iv t.1)) zN zG t.2 0 0 := by
  refine Ct.head (by decide) (Nat.le_of_ble_eq_true rfl) (fun Z hX hl _ _ _ C => ?_)
  subst hX
  subst hl
  exact (T_X12_fails_0 C x1 _ _ hF)
/-! BottleLineModel.begins(I)V -/
def F_X12_begins_7 : Nat → Int → Int → MH → Option MH
  | 0, _, _, _ => none
  | n + 1, x1, x2, h =>
    ck (in32 x2) <|
    ck (in32 x1) <|
    if x1 ≤ x2 then
      nx (hup h 141 9 0) fun h4 =>
      nx (hup h4 141 17 0) fun h5 =>
      nx (hup h5 141 16 (-1)) fun h6 =>
      nx (hup h6 141 13 0) fun h7 =>
      (F_X12_ahead h7).bind fun q8 =>
      some q8
    else
      ck (0 ≤ x2 ∧ x2 < 700) <|
      nx (hup h 147 x2.toNat (w8 (h 146 x2.toNat))) fun h10 =>
      F_X12_begins_7 n x1 (x2 + 1) h10
set_option maxRecDepth 100000 in
theorem T_X12_begins_7 {Z : ZT} (C : Cx Z cX12_begins 3 RX12 3 none) : ∀ (n : Nat) (x1 : Int) (x2 : Int) (h : MH) (t : MH), F_X12_begins_7 n x1 x2 h = some t → MW Z (Qm Z none zN zG t 0 0) 3 zN zG h 0 0 7 [(0, rfv (xd (zX Z)) 141), (1, iv x1), (2, iv x2)] [] := by
  intro n
  induction n with
  | zero =>
    intros
    rename_i hF
    exact absurd hF (by intro q; cases q)
  | succ n ih =>
    intro x1 x2 h t hF
    rw [F_X12_begins_7] at hF
    refine mw_iload_n 2 C dX12_begins_7 rfl rfl ?_
    refine mw_iload_n 1 C dX12_begins_8 rfl rfl ?_
    obtain ⟨g1, hF⟩ := ck_some hF
    obtain ⟨g2, hF⟩ := ck_some hF
    rcases ite_some hF with ⟨c3, hF⟩ | ⟨c3, hF⟩
    · refine mw_icmp_ge_t (tgt := 30) C dX12_begins_9 (by decide) g1 g2 c3 ?_
      refine mw_aload_n 0 C dX12_begins_30 rfl rfl ?_
      refine mw_iconst C dX12_begins_31 ?_
      obtain ⟨h4, eh4, hF⟩ := nx_some hF
      refine mw_put (k := 9) (T := TX12) (ty0 := tyX12) (x := 0) C dX12_begins_32 zn141 zk141 (by decide) rfl inX12 tyX12_ok nmX12 (by decide) wd898 rfl rfl rfl rfl rfl (by decide) (mw_h eh4 ?_)
      refine mw_aload_n 0 C dX12_begins_35 rfl rfl ?_
      refine mw_iconst C dX12_begins_36 ?_
      obtain ⟨h5, eh5, hF⟩ := nx_some hF
      refine mw_put (k := 17) (T := TX12) (ty0 := tyX12) (x := 0) C dX12_begins_37 zn141 zk141 (by decide) rfl inX12 tyX12_ok nmX12 (by decide) wd906 rfl rfl rfl rfl rfl (by decide) (mw_h eh5 ?_)
      refine mw_aload_n 0 C dX12_begins_40 rfl rfl ?_
      refine mw_iconst C dX12_begins_41 ?_
      obtain ⟨h6, eh6, hF⟩ := nx_some hF
      refine mw_put (k := 16) (T := TX12) (ty0 := tyX12) (x := (-1)) C dX12_begins_42 zn141 zk141 (by decide) rfl inX12 tyX12_ok nmX12 (by decide) wd905 rfl rfl rfl rfl rfl (by decide) (mw_h eh6 ?_)
      refine mw_aload_n 0 C dX12_begins_45 rfl rfl ?_
      refine mw_iconst C dX12_begins_46 ?_
      obtain ⟨h7, eh7, hF⟩ := nx_some hF
      refine mw_put (k := 13) (T := TX12) (ty0 := tyX12) (x := 0) C dX12_begins_47 zn141 zk141 (by decide) rfl inX12 tyX12_ok nmX12 (by decide) wd902 rfl rfl rfl rfl rfl (by decide) (mw_h eh7 ?_)
      refine mw_aload_n 0 C dX12_begins_50 rfl rfl ?_
      obtain ⟨q8, hq8, hF⟩ := bind_some hF
      refine mw_callV (c := 141) [] [] C dX12_begins_51 (T_X12_ahead (zl Z) (zX Z) _ _ hq8) rfl zn141 zk141 (by decide) rfl wd1003 wd1004 wd1362 wd14 wd1005 hd_X12_ahead rfl (by decide) (by decide) (Nat.le_of_ble_eq_true rfl) ⟨Nat.zero_le _, Nat.zero_le _⟩ ?_
      cases hF
      exact mw_vret C dX12_begins_54 rfl rfl
    · refine mw_icmp_ge_f (tgt := 30) C dX12_begins_9 (by decide) g1 g2 c3 ?_
      refine mw_aload_n 0 C dX12_begins_12 rfl rfl ?_
      refine mw_get (k := 8) (T := TX12) (v := rfv (xd (zX Z)) 147) C dX12_begins_13 zn141 zk141 (by decide) rfl inX12 (by decide) wd897 rfl (zfv_r rfl zg_141_8) ?_
      refine mw_iload_n 2 C dX12_begins_16 rfl rfl ?_
      refine mw_aload_n 0 C dX12_begins_17 rfl rfl ?_
      refine mw_get (k := 7) (T := TX12) (v := rfv (xd (zX Z)) 146) C dX12_begins_18 zn141 zk141 (by decide) rfl inX12 (by decide) wd896 rfl (zfv_r rfl zg_141_7) ?_
      refine mw_iload_n 2 C dX12_begins_21 rfl rfl ?_
      obtain ⟨g9, hF⟩ := ck_some hF
      refine mw_bald C dX12_begins_22 zn146 zk146 (by decide) g9 ?_
      obtain ⟨h10, eh10, hF⟩ := nx_some hF
      refine mw_bast C dX12_begins_23 zn147 zk147 (by decide) g9 (mw_h eh10 ?_)
      refine mw_iinc 2 [(2, iv (x2 + 1)), (0, rfv (xd (zX Z)) 141), (1, iv x1)] C dX12_begins_24 rfl (by decide) rfl ?_
      refine mw_goto (tgt := 7) C dX12_begins_27 (by decide) ?_
      refine mw_sub [1, 2, 0] rfl ?_
      exact ih x1 (x2 + 1) _ _ hF
def F_X12_begins_0 (x1 : Int) (h : MH) : Option MH :=
  nx (hup h 141 10 x1) fun h1 =>
  F_X12_begins_7 20000 x1 0 h1
set_option maxRecDepth 100000 in
theorem T_X12_begins_0 {Z : ZT} (C : Cx Z cX12_begins 3 RX12 3 none) (x1 : Int) (h : MH) (t : MH) (hF : F_X12_begins_0 x1 h = some t) : MW Z (Qm Z none zN zG t 0 0) 3 zN zG h 0 0 0 [(0, rfv (xd (zX Z)) 141), (1, iv x1)] [] := by
  unfold F_X12_begins_0 at hF
  refine mw_aload_n 0 C dX12_begins_0 rfl rfl ?_
  refine mw_iload_n 1 C dX12_begins_1 rfl rfl ?_
  obtain ⟨h1, eh1, hF⟩ := nx_some hF
  refine mw_put (k := 10) (T := TX12) (ty0 := tyX12) (x := x1) C dX12_begins_2 zn141 zk141 (by decide) rfl inX12 tyX12_ok nmX12 (by decide) wd899 rfl rfl rfl rfl rfl (by decide) (mw_h eh1 ?_)
  refine mw_iconst C dX12_begins_5 ?_
  refine mw_istore_n [(2, iv 0), (0, rfv (xd (zX Z)) 141), (1, iv x1)] C dX12_begins_6 rfl (by decide) rfl ?_
  refine mw_sub [1, 2, 0] rfl ?_
  exact T_X12_begins_7 C 20000 x1 0 _ _ hF
def F_X12_begins (x1 : Int) (h : MH) : Option MH := F_X12_begins_0 x1 h
theorem T_X12_begins (l : Launch) (X : XT) (x1 : Int) (h : MH) (t : MH) (hF : F_X12_begins x1 h = some t) : Ct l X yX12_begins cX12_begins 3 none 3 [rfv (xd X) 141, iv x1] zN zG h none zN zG t 0 0 := by
  refine Ct.head (by decide) (Nat.le_of_ble_eq_true rfl) (fun Z hX hl _ _ _ C => ?_)
  subst hX
  subst hl
  exact (T_X12_begins_0 C x1 _ _ hF)
/-! BottleLineModel.ends()Z -/
def F_X12_ends_0 (h : MH) : Option (Int × MH) :=
  ck (in32 (h 141 11)) <|
  if (h 141 11) = 4 then
    (F_X12_ahead h).bind fun q3 =>
    some (1, q3)
  else
    (F_X12_fails 2 h).bind fun q4 =>
    ck (q4.1 = 0 ∨ q4.1 = 1) <|
    some (q4.1, q4.2)
set_option maxRecDepth 100000 in
theorem T_X12_ends_0 {Z : ZT} (C : Cx Z cX12_ends 1 RX12 3 (some .boolean)) (h : MH) (t : (Int × MH)) (hF : F_X12_ends_0 h = some t) : MW Z (Qm Z (some (iv t.1)) zN zG t.2 0 0) 1 zN zG h 0 0 0 [(0, rfv (xd (zX Z)) 141)] [] := by
  unfold F_X12_ends_0 at hF
  refine mw_aload_n 0 C dX12_ends_0 rfl rfl ?_
  refine mw_get (k := 11) (T := TX12) (v := iv (h 141 11)) C dX12_ends_1 zn141 zk141 (by decide) rfl inX12 (by decide) wd900 rfl rfl ?_
  refine mw_iconst C dX12_ends_4 ?_
  obtain ⟨g1, hF⟩ := ck_some hF
  rcases ite_some hF with ⟨c2, hF⟩ | ⟨c2, hF⟩
  · refine mw_icmp_eq_t (tgt := 14) C dX12_ends_5 (by decide) g1 (by decide) c2 ?_
    refine mw_aload_n 0 C dX12_ends_14 rfl rfl ?_
    obtain ⟨q3, hq3, hF⟩ := bind_some hF
    refine mw_callV (c := 141) [] [] C dX12_ends_15 (T_X12_ahead (zl Z) (zX Z) _ _ hq3) rfl zn141 zk141 (by decide) rfl wd1003 wd1004 wd1362 wd14 wd1005 hd_X12_ahead rfl (by decide) (by decide) (Nat.le_of_ble_eq_true rfl) ⟨Nat.zero_le _, Nat.zero_le _⟩ ?_
    refine mw_iconst C dX12_ends_18 ?_
    cases hF
    exact mw_zret C dX12_ends_19 (Or.inr rfl) rfl rfl
  · refine mw_icmp_eq_f (tgt := 14) C dX12_ends_5 (by decide) g1 (by decide) c2 ?_
    refine mw_aload_n 0 C dX12_ends_8 rfl rfl ?_
    refine mw_iconst C dX12_ends_9 ?_
    obtain ⟨q4, hq4, hF⟩ := bind_some hF
    refine mw_callV (c := 141) [iv 2] [] C dX12_ends_10 (T_X12_fails (zl Z) (zX Z) 2 _ _ hq4) rfl zn141 zk141 (by decide) rfl wd1029 wd1030 wd1367 wd14 wd1031 hd_X12_fails rfl (by decide) (by decide) (Nat.le_of_ble_eq_true rfl) ⟨Nat.zero_le _, Nat.zero_le _⟩ ?_
    obtain ⟨g5, hF⟩ := ck_some hF
    cases hF
    exact mw_zret C dX12_ends_13 g5 rfl rfl
def F_X12_ends (h : MH) : Option (Int × MH) := F_X12_ends_0 h
theorem T_X12_ends (l : Launch) (X : XT) (h : MH) (t : (Int × MH)) (hF : F_X12_ends h = some t) : Ct l X yX12_ends cX12_ends 1 (some .boolean) 3 [rfv (xd X) 141] zN zG h (some (iv t.1)) zN zG t.2 0 0 := by
  refine Ct.head (by decide) (Nat.le_of_ble_eq_true rfl) (fun Z hX hl _ _ _ C => ?_)
  subst hX
  subst hl
  exact (T_X12_ends_0 C _ _ hF)
/-! BottleLineModel.number(III)Z -/
def F_X12_number_30 (h : MH) : Option (Int × MH) :=
  (F_X12_fails 4 h).bind fun q1 =>
  ck (q1.1 = 0 ∨ q1.1 = 1) <|
  some (q1.1, q1.2)
set_option maxRecDepth 100000 in
theorem T_X12_number_30 {Z : ZT} (C : Cx Z cX12_number 4 RX12 3 (some .boolean)) (h : MH) (t : (Int × MH)) (hF : F_X12_number_30 h = some t) : MW Z (Qm Z (some (iv t.1)) zN zG t.2 0 0) 4 zN zG h 0 0 30 [(0, rfv (xd (zX Z)) 141)] [] := by
  unfold F_X12_number_30 at hF
  refine mw_aload_n 0 C dX12_number_30 rfl rfl ?_
  refine mw_iconst C dX12_number_31 ?_
  obtain ⟨q1, hq1, hF⟩ := bind_some hF
  refine mw_callV (c := 141) [iv 4] [] C dX12_number_32 (T_X12_fails (zl Z) (zX Z) 4 _ _ hq1) rfl zn141 zk141 (by decide) rfl wd1029 wd1030 wd1367 wd14 wd1031 hd_X12_fails rfl (by decide) (by decide) (Nat.le_of_ble_eq_true rfl) ⟨Nat.zero_le _, Nat.zero_le _⟩ ?_
  obtain ⟨g2, hF⟩ := ck_some hF
  cases hF
  exact mw_zret C dX12_number_35 g2 rfl rfl
def F_X12_number_0 (x1 : Int) (x2 : Int) (x3 : Int) (h : MH) : Option (Int × MH) :=
  ck (in32 (h 141 11)) <|
  if (h 141 11) = 3 then
    ck (in32 (h 141 14)) <|
    ck (in32 x2) <|
    if (h 141 14) < x2 then
      F_X12_number_30 h
    else
      ck (in32 x3) <|
      if (h 141 14) ≤ x3 then
        ck (0 ≤ x1 ∧ x1 < 2640) <|
        nx (hup h 142 x1.toNat (h 141 14)) fun h9 =>
        (F_X12_ahead h9).bind fun q10 =>
        some (1, q10)
      else
        F_X12_number_30 h
  else
    (F_X12_fails 2 h).bind fun q11 =>
    ck (q11.1 = 0 ∨ q11.1 = 1) <|
    some (q11.1, q11.2)
set_option maxRecDepth 100000 in
theorem T_X12_number_0 {Z : ZT} (C : Cx Z cX12_number 4 RX12 3 (some .boolean)) (x1 : Int) (x2 : Int) (x3 : Int) (h : MH) (t : (Int × MH)) (hF : F_X12_number_0 x1 x2 x3 h = some t) : MW Z (Qm Z (some (iv t.1)) zN zG t.2 0 0) 4 zN zG h 0 0 0 [(0, rfv (xd (zX Z)) 141), (1, iv x1), (2, iv x2), (3, iv x3)] [] := by
  unfold F_X12_number_0 at hF
  refine mw_aload_n 0 C dX12_number_0 rfl rfl ?_
  refine mw_get (k := 11) (T := TX12) (v := iv (h 141 11)) C dX12_number_1 zn141 zk141 (by decide) rfl inX12 (by decide) wd900 rfl rfl ?_
  refine mw_iconst C dX12_number_4 ?_
  obtain ⟨g1, hF⟩ := ck_some hF
  rcases ite_some hF with ⟨c2, hF⟩ | ⟨c2, hF⟩
  · refine mw_icmp_eq_t (tgt := 14) C dX12_number_5 (by decide) g1 (by decide) c2 ?_
    refine mw_aload_n 0 C dX12_number_14 rfl rfl ?_
    refine mw_get (k := 14) (T := TX12) (v := iv (h 141 14)) C dX12_number_15 zn141 zk141 (by decide) rfl inX12 (by decide) wd903 rfl rfl ?_
    refine mw_iload_n 2 C dX12_number_18 rfl rfl ?_
    obtain ⟨g3, hF⟩ := ck_some hF
    obtain ⟨g4, hF⟩ := ck_some hF
    rcases ite_some hF with ⟨c5, hF⟩ | ⟨c5, hF⟩
    · refine mw_icmp_lt_t (tgt := 30) C dX12_number_19 (by decide) g3 g4 c5 ?_
      refine mw_sub [0] rfl ?_
      exact T_X12_number_30 C _ _ hF
    · refine mw_icmp_lt_f (tgt := 30) C dX12_number_19 (by decide) g3 g4 c5 ?_
      refine mw_aload_n 0 C dX12_number_22 rfl rfl ?_
      refine mw_get (k := 14) (T := TX12) (v := iv (h 141 14)) C dX12_number_23 zn141 zk141 (by decide) rfl inX12 (by decide) wd903 rfl rfl ?_
      refine mw_iload_n 3 C dX12_number_26 rfl rfl ?_
      obtain ⟨g6, hF⟩ := ck_some hF
      rcases ite_some hF with ⟨c7, hF⟩ | ⟨c7, hF⟩
      · refine mw_icmp_le_t (tgt := 36) C dX12_number_27 (by decide) g3 g6 c7 ?_
        refine mw_aload_n 0 C dX12_number_36 rfl rfl ?_
        refine mw_get (k := 0) (T := TX12) (v := rfv (xd (zX Z)) 142) C dX12_number_37 zn141 zk141 (by decide) rfl inX12 (by decide) wd889 rfl (zfv_r rfl zg_141_0) ?_
        refine mw_iload_n 1 C dX12_number_40 rfl rfl ?_
        refine mw_aload_n 0 C dX12_number_41 rfl rfl ?_
        refine mw_get (k := 14) (T := TX12) (v := iv (h 141 14)) C dX12_number_42 zn141 zk141 (by decide) rfl inX12 (by decide) wd903 rfl rfl ?_
        refine mw_i2l C dX12_number_45 g3 ?_
        obtain ⟨g8, hF⟩ := ck_some hF
        obtain ⟨h9, eh9, hF⟩ := nx_some hF
        refine mw_last C dX12_number_46 zn142 zk142 (by decide) g8 (mw_h eh9 ?_)
        refine mw_aload_n 0 C dX12_number_47 rfl rfl ?_
        obtain ⟨q10, hq10, hF⟩ := bind_some hF
        refine mw_callV (c := 141) [] [] C dX12_number_48 (T_X12_ahead (zl Z) (zX Z) _ _ hq10) rfl zn141 zk141 (by decide) rfl wd1003 wd1004 wd1362 wd14 wd1005 hd_X12_ahead rfl (by decide) (by decide) (Nat.le_of_ble_eq_true rfl) ⟨Nat.zero_le _, Nat.zero_le _⟩ ?_
        refine mw_iconst C dX12_number_51 ?_
        cases hF
        exact mw_zret C dX12_number_52 (Or.inr rfl) rfl rfl
      · refine mw_icmp_le_f (tgt := 36) C dX12_number_27 (by decide) g3 g6 c7 ?_
        refine mw_sub [0] rfl ?_
        exact T_X12_number_30 C _ _ hF
  · refine mw_icmp_eq_f (tgt := 14) C dX12_number_5 (by decide) g1 (by decide) c2 ?_
    refine mw_aload_n 0 C dX12_number_8 rfl rfl ?_
    refine mw_iconst C dX12_number_9 ?_
    obtain ⟨q11, hq11, hF⟩ := bind_some hF
    refine mw_callV (c := 141) [iv 2] [] C dX12_number_10 (T_X12_fails (zl Z) (zX Z) 2 _ _ hq11) rfl zn141 zk141 (by decide) rfl wd1029 wd1030 wd1367 wd14 wd1031 hd_X12_fails rfl (by decide) (by decide) (Nat.le_of_ble_eq_true rfl) ⟨Nat.zero_le _, Nat.zero_le _⟩ ?_
    obtain ⟨g12, hF⟩ := ck_some hF
    cases hF
    exact mw_zret C dX12_number_13 g12 rfl rfl
def F_X12_number (x1 : Int) (x2 : Int) (x3 : Int) (h : MH) : Option (Int × MH) := F_X12_number_0 x1 x2 x3 h
theorem T_X12_number (l : Launch) (X : XT) (x1 : Int) (x2 : Int) (x3 : Int) (h : MH) (t : (Int × MH)) (hF : F_X12_number x1 x2 x3 h = some t) : Ct l X yX12_number cX12_number 4 (some .boolean) 3 [rfv (xd X) 141, iv x1, iv x2, iv x3] zN zG h (some (iv t.1)) zN zG t.2 0 0 := by
  refine Ct.head (by decide) (Nat.le_of_ble_eq_true rfl) (fun Z hX hl _ _ _ C => ?_)
  subst hX
  subst hl
  exact (T_X12_number_0 C x1 x2 x3 _ _ hF)
/-! BottleLineModel.wantWord(I)Z -/
def F_X12_wantWord_0 (x1 : Int) (h : MH) : Option (Int × MH) :=
  (F_X12_inWords 19 h).bind fun q1 =>
  ck (in32 q1.1) <|
  ck (in32 x1) <|
  if q1.1 = x1 then
    (F_X12_ahead q1.2).bind fun q5 =>
    some (1, q5)
  else
    (F_X12_fails 2 q1.2).bind fun q6 =>
    ck (q6.1 = 0 ∨ q6.1 = 1) <|
    some (q6.1, q6.2)
set_option maxRecDepth 100000 in
theorem T_X12_wantWord_0 {Z : ZT} (C : Cx Z cX12_wantWord 2 RX12 7 (some .boolean)) (x1 : Int) (h : MH) (t : (Int × MH)) (hF : F_X12_wantWord_0 x1 h = some t) : MW Z (Qm Z (some (iv t.1)) zN zG t.2 0 0) 2 zN zG h 0 0 0 [(0, rfv (xd (zX Z)) 141), (1, iv x1)] [] := by
  unfold F_X12_wantWord_0 at hF
  refine mw_aload_n 0 C dX12_wantWord_0 rfl rfl ?_
  refine mw_ldcS 19 (by decide) rfl rfl C dX12_wantWord_1 ?_
  obtain ⟨q1, hq1, hF⟩ := bind_some hF
  refine mw_callV (c := 141) [.ref (xa (zX Z) 19)] [] C dX12_wantWord_3 (T_X12_inWords (zl Z) (zX Z) 19 (by decide) _ _ hq1) rfl zn141 zk141 (by decide) rfl wd1021 wd1022 wd1365 wd14 wd1023 hd_X12_inWords rfl (by decide) (by decide) (Nat.le_of_ble_eq_true rfl) ⟨Nat.zero_le _, Nat.zero_le _⟩ ?_
  refine mw_iload_n 1 C dX12_wantWord_6 rfl rfl ?_
  obtain ⟨g2, hF⟩ := ck_some hF
  obtain ⟨g3, hF⟩ := ck_some hF
  rcases ite_some hF with ⟨c4, hF⟩ | ⟨c4, hF⟩
  · refine mw_icmp_eq_t (tgt := 16) C dX12_wantWord_7 (by decide) g2 g3 c4 ?_
    refine mw_aload_n 0 C dX12_wantWord_16 rfl rfl ?_
    obtain ⟨q5, hq5, hF⟩ := bind_some hF
    refine mw_callV (c := 141) [] [] C dX12_wantWord_17 (T_X12_ahead (zl Z) (zX Z) _ _ hq5) rfl zn141 zk141 (by decide) rfl wd1003 wd1004 wd1362 wd14 wd1005 hd_X12_ahead rfl (by decide) (by decide) (Nat.le_of_ble_eq_true rfl) ⟨Nat.zero_le _, Nat.zero_le _⟩ ?_
    refine mw_iconst C dX12_wantWord_20 ?_
    cases hF
    exact mw_zret C dX12_wantWord_21 (Or.inr rfl) rfl rfl
  · refine mw_icmp_eq_f (tgt := 16) C dX12_wantWord_7 (by decide) g2 g3 c4 ?_
    refine mw_aload_n 0 C dX12_wantWord_10 rfl rfl ?_
    refine mw_iconst C dX12_wantWord_11 ?_
    obtain ⟨q6, hq6, hF⟩ := bind_some hF
    refine mw_callV (c := 141) [iv 2] [] C dX12_wantWord_12 (T_X12_fails (zl Z) (zX Z) 2 _ _ hq6) rfl zn141 zk141 (by decide) rfl wd1029 wd1030 wd1367 wd14 wd1031 hd_X12_fails rfl (by decide) (by decide) (Nat.le_of_ble_eq_true rfl) ⟨Nat.zero_le _, Nat.zero_le _⟩ ?_
    obtain ⟨g7, hF⟩ := ck_some hF
    cases hF
    exact mw_zret C dX12_wantWord_15 g7 rfl rfl
def F_X12_wantWord (x1 : Int) (h : MH) : Option (Int × MH) := F_X12_wantWord_0 x1 h
theorem T_X12_wantWord (l : Launch) (X : XT) (x1 : Int) (h : MH) (t : (Int × MH)) (hF : F_X12_wantWord x1 h = some t) : Ct l X yX12_wantWord cX12_wantWord 2 (some .boolean) 7 [rfv (xd X) 141, iv x1] zN zG h (some (iv t.1)) zN zG t.2 0 0 := by
  refine Ct.head (by decide) (Nat.le_of_ble_eq_true rfl) (fun Z hX hl _ _ _ C => ?_)
  subst hX
  subst hl
  exact (T_X12_wantWord_0 C x1 _ _ hF)
/-! BottleLineModel.isName(Ljava/lang/String;)Z -/
def F_X12_isName_0 (x1 : Nat) (h : MH) : Option (Int × MH) :=
  ck (in32 (h 141 11)) <|
  if (h 141 11) ≠ 2 then
    some (0, h)
  else
    ck (in32 ((h 141 13) - (h 141 12))) <|
    if 8 < ((h 141 13) - (h 141 12)) then
      some (0, h)
    else
      (F_X12_inWords x1 h).bind fun q5 =>
      ck (in32 q5.1) <|
      if q5.1 ≠ (-1) then
        some (0, q5.2)
      else
        some (1, q5.2)
set_option maxRecDepth 100000 in
theorem T_X12_isName_0 {Z : ZT} (C : Cx Z cX12_isName 2 RX12 7 (some .boolean)) (x1 : Nat) (hk_x1 : x1 < 21) (h : MH) (t : (Int × MH)) (hF : F_X12_isName_0 x1 h = some t) : MW Z (Qm Z (some (iv t.1)) zN zG t.2 0 0) 2 zN zG h 0 0 0 [(0, rfv (xd (zX Z)) 141), (1, .ref (xa (zX Z) x1))] [] := by
  unfold F_X12_isName_0 at hF
  refine mw_aload_n 0 C dX12_isName_0 rfl rfl ?_
  refine mw_get (k := 11) (T := TX12) (v := iv (h 141 11)) C dX12_isName_1 zn141 zk141 (by decide) rfl inX12 (by decide) wd900 rfl rfl ?_
  refine mw_iconst C dX12_isName_4 ?_
  obtain ⟨g1, hF⟩ := ck_some hF
  rcases ite_some hF with ⟨c2, hF⟩ | ⟨c2, hF⟩
  · refine mw_icmp_ne_t (tgt := 35) C dX12_isName_5 (by decide) g1 (by decide) c2 ?_
    refine mw_iconst C dX12_isName_35 ?_
    cases hF
    exact mw_zret C dX12_isName_36 (Or.inl rfl) rfl rfl
  · refine mw_icmp_ne_f (tgt := 35) C dX12_isName_5 (by decide) g1 (by decide) c2 ?_
    refine mw_aload_n 0 C dX12_isName_8 rfl rfl ?_
    refine mw_get (k := 13) (T := TX12) (v := iv (h 141 13)) C dX12_isName_9 zn141 zk141 (by decide) rfl inX12 (by decide) wd902 rfl rfl ?_
    refine mw_aload_n 0 C dX12_isName_12 rfl rfl ?_
    refine mw_get (k := 12) (T := TX12) (v := iv (h 141 12)) C dX12_isName_13 zn141 zk141 (by decide) rfl inX12 (by decide) wd901 rfl rfl ?_
    refine mw_isub C dX12_isName_16 ?_
    refine mw_bipush C dX12_isName_17 bp_8 ?_
    obtain ⟨g3, hF⟩ := ck_some hF
    rcases ite_some hF with ⟨c4, hF⟩ | ⟨c4, hF⟩
    · refine mw_icmp_gt_t (tgt := 35) C dX12_isName_19 (by decide) g3 (by decide) c4 ?_
      refine mw_iconst C dX12_isName_35 ?_
      cases hF
      exact mw_zret C dX12_isName_36 (Or.inl rfl) rfl rfl
    · refine mw_icmp_gt_f (tgt := 35) C dX12_isName_19 (by decide) g3 (by decide) c4 ?_
      refine mw_aload_n 0 C dX12_isName_22 rfl rfl ?_
      refine mw_aload_n 1 C dX12_isName_23 rfl rfl ?_
      obtain ⟨q5, hq5, hF⟩ := bind_some hF
      refine mw_callV (c := 141) [.ref (xa (zX Z) x1)] [] C dX12_isName_24 (T_X12_inWords (zl Z) (zX Z) x1 hk_x1 _ _ hq5) rfl zn141 zk141 (by decide) rfl wd1021 wd1022 wd1365 wd14 wd1023 hd_X12_inWords rfl (by decide) (by decide) (Nat.le_of_ble_eq_true rfl) ⟨Nat.zero_le _, Nat.zero_le _⟩ ?_
      refine mw_iconst C dX12_isName_27 ?_
      obtain ⟨g6, hF⟩ := ck_some hF
      rcases ite_some hF with ⟨c7, hF⟩ | ⟨c7, hF⟩
      · refine mw_icmp_ne_t (tgt := 35) C dX12_isName_28 (by decide) g6 (by decide) c7 ?_
        refine mw_iconst C dX12_isName_35 ?_
        cases hF
        exact mw_zret C dX12_isName_36 (Or.inl rfl) rfl rfl
      · refine mw_icmp_ne_f (tgt := 35) C dX12_isName_28 (by decide) g6 (by decide) c7 ?_
        refine mw_iconst C dX12_isName_31 ?_
        refine mw_goto (tgt := 36) C dX12_isName_32 (by decide) ?_
        cases hF
        exact mw_zret C dX12_isName_36 (Or.inr rfl) rfl rfl
def F_X12_isName (x1 : Nat) (h : MH) : Option (Int × MH) := F_X12_isName_0 x1 h
theorem T_X12_isName (l : Launch) (X : XT) (x1 : Nat) (hk_x1 : x1 < 21) (h : MH) (t : (Int × MH)) (hF : F_X12_isName x1 h = some t) : Ct l X yX12_isName cX12_isName 2 (some .boolean) 7 [rfv (xd X) 141, .ref ((xa X) x1)] zN zG h (some (iv t.1)) zN zG t.2 0 0 := by
  refine Ct.head (by decide) (Nat.le_of_ble_eq_true rfl) (fun Z hX hl _ _ _ C => ?_)
  subst hX
  subst hl
  exact (T_X12_isName_0 C x1 hk_x1 _ _ hF)
/-! BottleLineModel.nameHere()J -/
def F_X12_nameHere_7 : Nat → Int → Int → MH → Option (Int × MH)
  | 0, _, _, _ => none
  | n + 1, x1, x3, h =>
    ck (in32 x3) <|
    ck (in32 (h 141 13)) <|
    if (h 141 13) ≤ x3 then
      some (x1, h)
    else
      (F_X12_byteAt x3 h).bind fun q4 =>
      ck (in32 q4.1) <|
      nx (lor64 (shl64 x1 8) q4.1) fun v6 =>
      F_X12_nameHere_7 n v6 (x3 + 1) q4.2
set_option maxRecDepth 100000 in
theorem T_X12_nameHere_7 {Z : ZT} (C : Cx Z cX12_nameHere 4 RX12 2 (some .long)) : ∀ (n : Nat) (x1 : Int) (x3 : Int) (h : MH) (t : (Int × MH)), F_X12_nameHere_7 n x1 x3 h = some t → MW Z (Qm Z (some (lvv t.1)) zN zG t.2 0 0) 4 zN zG h 0 0 7 [(0, rfv (xd (zX Z)) 141), (1, lvv x1), (3, iv x3)] [] := by
  intro n
  induction n with
  | zero =>
    intros
    rename_i hF
    exact absurd hF (by intro q; cases q)
  | succ n ih =>
    intro x1 x3 h t hF
    rw [F_X12_nameHere_7] at hF
    refine mw_iload_n 2 C dX12_nameHere_7 rfl rfl ?_
    refine mw_aload_n 0 C dX12_nameHere_8 rfl rfl ?_
    refine mw_get (k := 13) (T := TX12) (v := iv (h 141 13)) C dX12_nameHere_9 zn141 zk141 (by decide) rfl inX12 (by decide) wd902 rfl rfl ?_
    obtain ⟨g1, hF⟩ := ck_some hF
    obtain ⟨g2, hF⟩ := ck_some hF
    rcases ite_some hF with ⟨c3, hF⟩ | ⟨c3, hF⟩
    · refine mw_icmp_ge_t (tgt := 33) C dX12_nameHere_12 (by decide) g1 g2 c3 ?_
      refine mw_lload_n 1 C dX12_nameHere_33 rfl rfl ?_
      cases hF
      exact mw_lret C dX12_nameHere_34 rfl rfl
    · refine mw_icmp_ge_f (tgt := 33) C dX12_nameHere_12 (by decide) g1 g2 c3 ?_
      refine mw_lload_n 1 C dX12_nameHere_15 rfl rfl ?_
      refine mw_bipush C dX12_nameHere_16 bp_8 ?_
      refine mw_lshl C dX12_nameHere_18 ?_
      refine mw_aload_n 0 C dX12_nameHere_19 rfl rfl ?_
      refine mw_iload_n 2 C dX12_nameHere_20 rfl rfl ?_
      obtain ⟨q4, hq4, hF⟩ := bind_some hF
      refine mw_callV (c := 141) [iv x3] [lvv (shl64 x1 8)] C dX12_nameHere_21 (T_X12_byteAt (zl Z) (zX Z) x3 _ _ hq4) rfl zn141 zk141 (by decide) rfl wd1006 wd1007 wd1363 wd14 wd1008 hd_X12_byteAt rfl (by decide) (by decide) (Nat.le_of_ble_eq_true rfl) ⟨Nat.zero_le _, Nat.zero_le _⟩ ?_
      obtain ⟨g5, hF⟩ := ck_some hF
      refine mw_i2l C dX12_nameHere_24 g5 ?_
      refine mw_lor C dX12_nameHere_25 ?_
      obtain ⟨v6, ev6, hF⟩ := nx_some hF
      refine mw_tl ev6 ?_
      refine mw_lstore_n [(1, lvv v6), (0, rfv (xd (zX Z)) 141), (3, iv x3)] C dX12_nameHere_26 rfl (by decide) rfl ?_
      refine mw_iinc 2 [(3, iv (x3 + 1)), (1, lvv v6), (0, rfv (xd (zX Z)) 141)] C dX12_nameHere_27 rfl (by decide) rfl ?_
      refine mw_goto (tgt := 7) C dX12_nameHere_30 (by decide) ?_
      refine mw_sub [2, 1, 0] rfl ?_
      exact ih v6 (x3 + 1) _ _ hF
def F_X12_nameHere_0 (h : MH) : Option (Int × MH) :=
  nx (h 141 12) fun v1 =>
  F_X12_nameHere_7 20000 0 v1 h
set_option maxRecDepth 100000 in
theorem T_X12_nameHere_0 {Z : ZT} (C : Cx Z cX12_nameHere 4 RX12 2 (some .long)) (h : MH) (t : (Int × MH)) (hF : F_X12_nameHere_0 h = some t) : MW Z (Qm Z (some (lvv t.1)) zN zG t.2 0 0) 4 zN zG h 0 0 0 [(0, rfv (xd (zX Z)) 141)] [] := by
  unfold F_X12_nameHere_0 at hF
  refine mw_lconst (a := 0) C dX12_nameHere_0 lc_0 ?_
  refine mw_lstore_n [(1, lvv 0), (0, rfv (xd (zX Z)) 141)] C dX12_nameHere_1 rfl (by decide) rfl ?_
  refine mw_aload_n 1 C dX12_nameHere_2 rfl rfl ?_
  refine mw_get (k := 12) (T := TX12) (v := iv (h 141 12)) C dX12_nameHere_3 zn141 zk141 (by decide) rfl inX12 (by decide) wd901 rfl rfl ?_
  obtain ⟨v1, ev1, hF⟩ := nx_some hF
  refine mw_ti ev1 ?_
  refine mw_istore_n [(3, iv v1), (1, lvv 0), (0, rfv (xd (zX Z)) 141)] C dX12_nameHere_6 rfl (by decide) rfl ?_
  refine mw_sub [2, 1, 0] rfl ?_
  exact T_X12_nameHere_7 C 20000 0 v1 _ _ hF
def F_X12_nameHere (h : MH) : Option (Int × MH) := F_X12_nameHere_0 h
theorem T_X12_nameHere (l : Launch) (X : XT) (h : MH) (t : (Int × MH)) (hF : F_X12_nameHere h = some t) : Ct l X yX12_nameHere cX12_nameHere 4 (some .long) 2 [rfv (xd X) 141] zN zG h (some (lvv t.1)) zN zG t.2 0 0 := by
  refine Ct.head (by decide) (Nat.le_of_ble_eq_true rfl) (fun Z hX hl _ _ _ C => ?_)
  subst hX
  subst hl
  exact (T_X12_nameHere_0 C _ _ hF)
/-! BottleLineModel.fault(I)I -/
def F_X12_fault_0 (x1 : Int) (h : MH) : Option (Int × MH) :=
  ck (in32 x1) <|
  if x1 ≠ 0 then
    if x1 ≠ 1 then
      some ((-1), h)
    else
      some ((h 141 16), h)
  else
    some ((h 141 15), h)
set_option maxRecDepth 100000 in
theorem T_X12_fault_0 {Z : ZT} (C : Cx Z cX12_fault 2 RX12 1 (some .int)) (x1 : Int) (h : MH) (t : (Int × MH)) (hF : F_X12_fault_0 x1 h = some t) : MW Z (Qm Z (some (iv t.1)) zN zG t.2 0 0) 2 zN zG h 0 0 0 [(0, rfv (xd (zX Z)) 141), (1, iv x1)] [] := by
  unfold F_X12_fault_0 at hF
  refine mw_iload_n 1 C dX12_fault_0 rfl rfl ?_
  obtain ⟨g1, hF⟩ := ck_some hF
  rcases ite_some hF with ⟨c2, hF⟩ | ⟨c2, hF⟩
  · refine mw_if_ne_t (tgt := 11) C dX12_fault_1 (by decide) g1 c2 ?_
    refine mw_iload_n 1 C dX12_fault_11 rfl rfl ?_
    refine mw_iconst C dX12_fault_12 ?_
    rcases ite_some hF with ⟨c3, hF⟩ | ⟨c3, hF⟩
    · refine mw_icmp_ne_t (tgt := 23) C dX12_fault_13 (by decide) g1 (by decide) c3 ?_
      refine mw_iconst C dX12_fault_23 ?_
      cases hF
      exact mw_iret C dX12_fault_24 rfl rfl
    · refine mw_icmp_ne_f (tgt := 23) C dX12_fault_13 (by decide) g1 (by decide) c3 ?_
      refine mw_aload_n 0 C dX12_fault_16 rfl rfl ?_
      refine mw_get (k := 16) (T := TX12) (v := iv (h 141 16)) C dX12_fault_17 zn141 zk141 (by decide) rfl inX12 (by decide) wd905 rfl rfl ?_
      refine mw_goto (tgt := 24) C dX12_fault_20 (by decide) ?_
      cases hF
      exact mw_iret C dX12_fault_24 rfl rfl
  · refine mw_if_ne_f (tgt := 11) C dX12_fault_1 (by decide) g1 c2 ?_
    refine mw_aload_n 0 C dX12_fault_4 rfl rfl ?_
    refine mw_get (k := 15) (T := TX12) (v := iv (h 141 15)) C dX12_fault_5 zn141 zk141 (by decide) rfl inX12 (by decide) wd904 rfl rfl ?_
    refine mw_goto (tgt := 24) C dX12_fault_8 (by decide) ?_
    cases hF
    exact mw_iret C dX12_fault_24 rfl rfl
def F_X12_fault (x1 : Int) (h : MH) : Option (Int × MH) := F_X12_fault_0 x1 h
theorem T_X12_fault (l : Launch) (X : XT) (x1 : Int) (h : MH) (t : (Int × MH)) (hF : F_X12_fault x1 h = some t) : Ct l X yX12_fault cX12_fault 2 (some .int) 1 [rfv (xd X) 141, iv x1] zN zG h (some (iv t.1)) zN zG t.2 0 0 := by
  refine Ct.head (by decide) (Nat.le_of_ble_eq_true rfl) (fun Z hX hl _ _ _ C => ?_)
  subst hX
  subst hl
  exact (T_X12_fault_0 C x1 _ _ hF)
/-! BottleLineModel.machineAt(II)I -/
def F_X12_machineAt_0 (x0 : Int) (x1 : Int) (h : MH) : Option (Int × MH) :=
  some (((x0 + 8) + (16 * x1)), h)
set_option maxRecDepth 100000 in
theorem T_X12_machineAt_0 {Z : ZT} (C : Cx Z cX12_machineAt 2 RX12 1 (some .int)) (x0 : Int) (x1 : Int) (h : MH) (t : (Int × MH)) (hF : F_X12_machineAt_0 x0 x1 h = some t) : MW Z (Qm Z (some (iv t.1)) zN zG t.2 0 0) 2 zN zG h 0 0 0 [(0, iv x0), (1, iv x1)] [] := by
  unfold F_X12_machineAt_0 at hF
  refine mw_iload_n 0 C dX12_machineAt_0 rfl rfl ?_
  refine mw_bipush C dX12_machineAt_1 bp_8 ?_
  refine mw_iadd C dX12_machineAt_3 ?_
  refine mw_bipush C dX12_machineAt_4 bp_16 ?_
  refine mw_iload_n 1 C dX12_machineAt_6 rfl rfl ?_
  refine mw_imul C dX12_machineAt_7 ?_
  refine mw_iadd C dX12_machineAt_8 ?_
  cases hF
  exact mw_iret C dX12_machineAt_9 rfl rfl
def F_X12_machineAt (x0 : Int) (x1 : Int) (h : MH) : Option (Int × MH) := F_X12_machineAt_0 x0 x1 h
theorem T_X12_machineAt (l : Launch) (X : XT) (x0 : Int) (x1 : Int) (h : MH) (t : (Int × MH)) (hF : F_X12_machineAt x0 x1 h = some t) : Ct l X yX12_machineAt cX12_machineAt 2 (some .int) 1 [iv x0, iv x1] zN zG h (some (iv t.1)) zN zG t.2 0 0 := by
  refine Ct.head (by decide) (Nat.le_of_ble_eq_true rfl) (fun Z hX hl _ _ _ C => ?_)
  subst hX
  subst hl
  exact (T_X12_machineAt_0 C x0 x1 _ _ hF)
/-! BottleLineModel.machineNamed(IJ)I -/
def F_X12_machineNamed_3 : Nat → Int → Int → Int → MH → Option (Int × MH)
  | 0, _, _, _, _ => none
  | n + 1, x1, x2, x4, h =>
    ck (in32 x4) <|
    ck (0 ≤ (x1 + 0) ∧ (x1 + 0) < 2640) <|
    ck (in64 (h 142 (x1 + 0).toNat)) <|
    if (h 142 (x1 + 0).toNat) ≤ x4 then
      some ((-1), h)
    else
      (F_X12_machineAt x1 x4 h).bind fun q5 =>
      ck (0 ≤ (q5.1 + 13) ∧ (q5.1 + 13) < 2640) <|
      ck (in64 (q5.2 142 (q5.1 + 13).toNat)) <|
      ck (in64 x2) <|
      if (q5.2 142 (q5.1 + 13).toNat) ≠ x2 then
        F_X12_machineNamed_3 n x1 x2 (x4 + 1) q5.2
      else
        some (x4, q5.2)
set_option maxRecDepth 100000 in
theorem T_X12_machineNamed_3 {Z : ZT} (C : Cx Z cX12_machineNamed 5 RX12 2 (some .int)) : ∀ (n : Nat) (x1 : Int) (x2 : Int) (x4 : Int) (h : MH) (t : (Int × MH)), F_X12_machineNamed_3 n x1 x2 x4 h = some t → MW Z (Qm Z (some (iv t.1)) zN zG t.2 0 0) 5 zN zG h 0 0 3 [(0, rfv (xd (zX Z)) 141), (1, iv x1), (2, lvv x2), (4, iv x4)] [] := by
  intro n
  induction n with
  | zero =>
    intros
    rename_i hF
    exact absurd hF (by intro q; cases q)
  | succ n ih =>
    intro x1 x2 x4 h t hF
    rw [F_X12_machineNamed_3] at hF
    refine mw_iload 3 C dX12_machineNamed_3 rfl ?_
    obtain ⟨g1, hF⟩ := ck_some hF
    refine mw_i2l C dX12_machineNamed_5 g1 ?_
    refine mw_aload_n 0 C dX12_machineNamed_6 rfl rfl ?_
    refine mw_get (k := 0) (T := TX12) (v := rfv (xd (zX Z)) 142) C dX12_machineNamed_7 zn141 zk141 (by decide) rfl inX12 (by decide) wd889 rfl (zfv_r rfl zg_141_0) ?_
    refine mw_iload_n 1 C dX12_machineNamed_10 rfl rfl ?_
    refine mw_iconst C dX12_machineNamed_11 ?_
    refine mw_iadd C dX12_machineNamed_12 ?_
    obtain ⟨g2, hF⟩ := ck_some hF
    refine mw_lald C dX12_machineNamed_13 zn142 zk142 (by decide) g2 ?_
    obtain ⟨g3, hF⟩ := ck_some hF
    rcases ite_some hF with ⟨c4, hF⟩ | ⟨c4, hF⟩
    · refine mw_lcmp_ge_t (tgt := 46) C dX12_machineNamed_14 dX12_machineNamed_15 (by decide) (in64_of g1) g3 c4 ?_
      refine mw_iconst C dX12_machineNamed_46 ?_
      cases hF
      exact mw_iret C dX12_machineNamed_47 rfl rfl
    · refine mw_lcmp_ge_f (tgt := 46) C dX12_machineNamed_14 dX12_machineNamed_15 (by decide) (in64_of g1) g3 c4 ?_
      refine mw_aload_n 0 C dX12_machineNamed_18 rfl rfl ?_
      refine mw_get (k := 0) (T := TX12) (v := rfv (xd (zX Z)) 142) C dX12_machineNamed_19 zn141 zk141 (by decide) rfl inX12 (by decide) wd889 rfl (zfv_r rfl zg_141_0) ?_
      refine mw_iload_n 1 C dX12_machineNamed_22 rfl rfl ?_
      refine mw_iload 3 C dX12_machineNamed_23 rfl ?_
      obtain ⟨q5, hq5, hF⟩ := bind_some hF
      refine mw_callS [iv x1, iv x4] [rfv (xd (zX Z)) 142] C dX12_machineNamed_25 (T_X12_machineAt (zl Z) (zX Z) x1 x4 _ _ hq5) rfl wd1041 wd1042 wd14 wd1043 hd_X12_machineAt rfl (by decide) (by decide) (Nat.le_of_ble_eq_true rfl) ⟨Nat.zero_le _, Nat.zero_le _⟩ ?_
      refine mw_bipush C dX12_machineNamed_28 bp_13 ?_
      refine mw_iadd C dX12_machineNamed_30 ?_
      obtain ⟨g6, hF⟩ := ck_some hF
      refine mw_lald C dX12_machineNamed_31 zn142 zk142 (by decide) g6 ?_
      refine mw_lload_n 2 C dX12_machineNamed_32 rfl rfl ?_
      obtain ⟨g7, hF⟩ := ck_some hF
      obtain ⟨g8, hF⟩ := ck_some hF
      rcases ite_some hF with ⟨c9, hF⟩ | ⟨c9, hF⟩
      · refine mw_lcmp_ne_t (tgt := 40) C dX12_machineNamed_33 dX12_machineNamed_34 (by decide) g7 g8 c9 ?_
        refine mw_iinc 3 [(4, iv (x4 + 1)), (0, rfv (xd (zX Z)) 141), (1, iv x1), (2, lvv x2)] C dX12_machineNamed_40 rfl (by decide) rfl ?_
        refine mw_goto (tgt := 3) C dX12_machineNamed_43 (by decide) ?_
        refine mw_sub [1, 2, 3, 0] rfl ?_
        exact ih x1 x2 (x4 + 1) _ _ hF
      · refine mw_lcmp_ne_f (tgt := 40) C dX12_machineNamed_33 dX12_machineNamed_34 (by decide) g7 g8 c9 ?_
        refine mw_iload 3 C dX12_machineNamed_37 rfl ?_
        cases hF
        exact mw_iret C dX12_machineNamed_39 rfl rfl
def F_X12_machineNamed_0 (x1 : Int) (x2 : Int) (h : MH) : Option (Int × MH) :=
  F_X12_machineNamed_3 20000 x1 x2 0 h
set_option maxRecDepth 100000 in
theorem T_X12_machineNamed_0 {Z : ZT} (C : Cx Z cX12_machineNamed 5 RX12 2 (some .int)) (x1 : Int) (x2 : Int) (h : MH) (t : (Int × MH)) (hF : F_X12_machineNamed_0 x1 x2 h = some t) : MW Z (Qm Z (some (iv t.1)) zN zG t.2 0 0) 5 zN zG h 0 0 0 [(0, rfv (xd (zX Z)) 141), (1, iv x1), (2, lvv x2)] [] := by
  unfold F_X12_machineNamed_0 at hF
  refine mw_iconst C dX12_machineNamed_0 ?_
  refine mw_istore [(4, iv 0), (0, rfv (xd (zX Z)) 141), (1, iv x1), (2, lvv x2)] C dX12_machineNamed_1 (by decide) rfl ?_
  refine mw_sub [1, 2, 3, 0] rfl ?_
  exact T_X12_machineNamed_3 C 20000 x1 x2 0 _ _ hF
def F_X12_machineNamed (x1 : Int) (x2 : Int) (h : MH) : Option (Int × MH) := F_X12_machineNamed_0 x1 x2 h
theorem T_X12_machineNamed (l : Launch) (X : XT) (x1 : Int) (x2 : Int) (h : MH) (t : (Int × MH)) (hF : F_X12_machineNamed x1 x2 h = some t) : Ct l X yX12_machineNamed cX12_machineNamed 5 (some .int) 2 [rfv (xd X) 141, iv x1, lvv x2] zN zG h (some (iv t.1)) zN zG t.2 0 0 := by
  refine Ct.head (by decide) (Nat.le_of_ble_eq_true rfl) (fun Z hX hl _ _ _ C => ?_)
  subst hX
  subst hl
  exact (T_X12_machineNamed_0 C x1 x2 _ _ hF)
/-! BottleLineModel.sortHere()I -/
def F_X12_sortHere_2 : Nat → Int → MH → Option (Int × MH)
  | 0, _, _ => none
  | n + 1, x1, h =>
    ck (in32 x1) <|
    ck (in64 (h 142 1761)) <|
    if (h 142 1761) ≤ x1 then
      some ((-1), h)
    else
      ck (0 ≤ x1 ∧ x1 < 7) <|
      (F_X12_nameHere h).bind fun q5 =>
      ck (in64 (h 148 x1.toNat)) <|
      ck (in64 q5.1) <|
      if (h 148 x1.toNat) ≠ q5.1 then
        F_X12_sortHere_2 n (x1 + 1) q5.2
      else
        some (x1, q5.2)
set_option maxRecDepth 100000 in
theorem T_X12_sortHere_2 {Z : ZT} (C : Cx Z cX12_sortHere 2 RX12 3 (some .int)) : ∀ (n : Nat) (x1 : Int) (h : MH) (t : (Int × MH)), F_X12_sortHere_2 n x1 h = some t → MW Z (Qm Z (some (iv t.1)) zN zG t.2 0 0) 2 zN zG h 0 0 2 [(0, rfv (xd (zX Z)) 141), (1, iv x1)] [] := by
  intro n
  induction n with
  | zero =>
    intros
    rename_i hF
    exact absurd hF (by intro q; cases q)
  | succ n ih =>
    intro x1 h t hF
    rw [F_X12_sortHere_2] at hF
    refine mw_iload_n 1 C dX12_sortHere_2 rfl rfl ?_
    obtain ⟨g1, hF⟩ := ck_some hF
    refine mw_i2l C dX12_sortHere_3 g1 ?_
    refine mw_aload_n 0 C dX12_sortHere_4 rfl rfl ?_
    refine mw_get (k := 0) (T := TX12) (v := rfv (xd (zX Z)) 142) C dX12_sortHere_5 zn141 zk141 (by decide) rfl inX12 (by decide) wd889 rfl (zfv_r rfl zg_141_0) ?_
    refine mw_sipush C dX12_sortHere_8 sp_1761 ?_
    refine mw_lald C dX12_sortHere_11 zn142 zk142 (by decide) (by decide) ?_
    obtain ⟨g2, hF⟩ := ck_some hF
    rcases ite_some hF with ⟨c3, hF⟩ | ⟨c3, hF⟩
    · refine mw_lcmp_ge_t (tgt := 38) C dX12_sortHere_12 dX12_sortHere_13 (by decide) (in64_of g1) g2 c3 ?_
      refine mw_iconst C dX12_sortHere_38 ?_
      cases hF
      exact mw_iret C dX12_sortHere_39 rfl rfl
    · refine mw_lcmp_ge_f (tgt := 38) C dX12_sortHere_12 dX12_sortHere_13 (by decide) (in64_of g1) g2 c3 ?_
      refine mw_aload_n 0 C dX12_sortHere_16 rfl rfl ?_
      refine mw_get (k := 18) (T := TX12) (v := rfv (xd (zX Z)) 148) C dX12_sortHere_17 zn141 zk141 (by decide) rfl inX12 (by decide) wd907 rfl (zfv_r rfl zg_141_18) ?_
      refine mw_iload_n 1 C dX12_sortHere_20 rfl rfl ?_
      obtain ⟨g4, hF⟩ := ck_some hF
      refine mw_lald C dX12_sortHere_21 zn148 zk148 (by decide) g4 ?_
      refine mw_aload_n 0 C dX12_sortHere_22 rfl rfl ?_
      obtain ⟨q5, hq5, hF⟩ := bind_some hF
      refine mw_callV (c := 141) [] [lvv (h 148 x1.toNat)] C dX12_sortHere_23 (T_X12_nameHere (zl Z) (zX Z) _ _ hq5) rfl zn141 zk141 (by decide) rfl wd1035 wd1036 wd1369 wd14 wd1037 hd_X12_nameHere rfl (by decide) (by decide) (Nat.le_of_ble_eq_true rfl) ⟨Nat.zero_le _, Nat.zero_le _⟩ ?_
      obtain ⟨g6, hF⟩ := ck_some hF
      obtain ⟨g7, hF⟩ := ck_some hF
      rcases ite_some hF with ⟨c8, hF⟩ | ⟨c8, hF⟩
      · refine mw_lcmp_ne_t (tgt := 32) C dX12_sortHere_26 dX12_sortHere_27 (by decide) g6 g7 c8 ?_
        refine mw_iinc 1 [(1, iv (x1 + 1)), (0, rfv (xd (zX Z)) 141)] C dX12_sortHere_32 rfl (by decide) rfl ?_
        refine mw_goto (tgt := 2) C dX12_sortHere_35 (by decide) ?_
        refine mw_sub [1, 0] rfl ?_
        exact ih (x1 + 1) _ _ hF
      · refine mw_lcmp_ne_f (tgt := 32) C dX12_sortHere_26 dX12_sortHere_27 (by decide) g6 g7 c8 ?_
        refine mw_iload_n 1 C dX12_sortHere_30 rfl rfl ?_
        cases hF
        exact mw_iret C dX12_sortHere_31 rfl rfl
def F_X12_sortHere_0 (h : MH) : Option (Int × MH) :=
  F_X12_sortHere_2 20000 0 h
set_option maxRecDepth 100000 in
theorem T_X12_sortHere_0 {Z : ZT} (C : Cx Z cX12_sortHere 2 RX12 3 (some .int)) (h : MH) (t : (Int × MH)) (hF : F_X12_sortHere_0 h = some t) : MW Z (Qm Z (some (iv t.1)) zN zG t.2 0 0) 2 zN zG h 0 0 0 [(0, rfv (xd (zX Z)) 141)] [] := by
  unfold F_X12_sortHere_0 at hF
  refine mw_iconst C dX12_sortHere_0 ?_
  refine mw_istore_n [(1, iv 0), (0, rfv (xd (zX Z)) 141)] C dX12_sortHere_1 rfl (by decide) rfl ?_
  refine mw_sub [1, 0] rfl ?_
  exact T_X12_sortHere_2 C 20000 0 _ _ hF
def F_X12_sortHere (h : MH) : Option (Int × MH) := F_X12_sortHere_0 h
theorem T_X12_sortHere (l : Launch) (X : XT) (h : MH) (t : (Int × MH)) (hF : F_X12_sortHere h = some t) : Ct l X yX12_sortHere cX12_sortHere 2 (some .int) 3 [rfv (xd X) 141] zN zG h (some (iv t.1)) zN zG t.2 0 0 := by
  refine Ct.head (by decide) (Nat.le_of_ble_eq_true rfl) (fun Z hX hl _ _ _ C => ?_)
  subst hX
  subst hl
  exact (T_X12_sortHere_0 C _ _ hF)
/-! BottleLineModel.aMachine()Z -/
def F_X12_aMachine_286 (k145 : Int → Int → Int → Int → MH → Option (Int × MH)) (x2 : Int) (x3 : Int) (x4 : Int) (h : MH) : Option (Int × MH) :=
  (F_X12_inWords 19 h).bind fun q1 =>
  k145 x2 x3 x4 q1.1 q1.2
set_option maxRecDepth 100000 in
theorem T_X12_aMachine_286 {Z : ZT} (C : Cx Z cX12_aMachine 6 RX12 8 (some .boolean)) (k145 : Int → Int → Int → Int → MH → Option (Int × MH)) (hk145 : ∀ (x2 : Int) (x3 : Int) (x4 : Int) (x5 : Int) (h : MH) (t : (Int × MH)), k145 x2 x3 x4 x5 h = some t → MW Z (Qm Z (some (iv t.1)) zN zG t.2 0 0) 6 zN zG h 0 0 145 [(0, rfv (xd (zX Z)) 141), (2, iv x2), (3, iv x3), (4, iv x4), (5, iv x5)] []) (x2 : Int) (x3 : Int) (x4 : Int) (h : MH) (t : (Int × MH)) (hF : F_X12_aMachine_286 k145 x2 x3 x4 h = some t) : MW Z (Qm Z (some (iv t.1)) zN zG t.2 0 0) 6 zN zG h 0 0 286 [(0, rfv (xd (zX Z)) 141), (2, iv x2), (3, iv x3), (4, iv x4)] [] := by
  unfold F_X12_aMachine_286 at hF
  refine mw_aload_n 0 C dX12_aMachine_286 rfl rfl ?_
  refine mw_ldcS 19 (by decide) rfl rfl C dX12_aMachine_287 ?_
  obtain ⟨q1, hq1, hF⟩ := bind_some hF
  refine mw_callV (c := 141) [.ref (xa (zX Z) 19)] [] C dX12_aMachine_289 (T_X12_inWords (zl Z) (zX Z) 19 (by decide) _ _ hq1) rfl zn141 zk141 (by decide) rfl wd1021 wd1022 wd1365 wd14 wd1023 hd_X12_inWords rfl (by decide) (by decide) (Nat.le_of_ble_eq_true rfl) ⟨Nat.zero_le _, Nat.zero_le _⟩ ?_
  refine mw_istore [(5, iv q1.1), (0, rfv (xd (zX Z)) 141), (2, iv x2), (3, iv x3), (4, iv x4)] C dX12_aMachine_292 (by decide) rfl ?_
  refine mw_goto (tgt := 145) C dX12_aMachine_294 (by decide) ?_
  refine mw_sub [1, 2, 3, 4, 0] rfl ?_
  exact hk145 x2 x3 x4 q1.1 _ _ hF
def F_X12_aMachine_242 (k145 : Int → Int → Int → Int → MH → Option (Int × MH)) (x2 : Int) (x3 : Int) (x4 : Int) (x5 : Int) (h : MH) : Option (Int × MH) :=
  ck (in32 x5) <|
  if x5 ≠ 6 then
    F_X12_aMachine_286 k145 x2 x3 x4 h
  else
    (F_X12_number (x2 + 2) 0 64 h).bind fun q3 =>
    ck (in32 q3.1) <|
    if q3.1 = 0 then
      some (0, q3.2)
    else
      (F_X12_wantWord 7 q3.2).bind fun q6 =>
      ck (in32 q6.1) <|
      if q6.1 = 0 then
        some (0, q6.2)
      else
        (F_X12_number (x2 + 3) 1 99 q6.2).bind fun q9 =>
        ck (in32 q9.1) <|
        if q9.1 ≠ 0 then
          F_X12_aMachine_286 k145 x2 x3 x4 q9.2
        else
          some (0, q9.2)
set_option maxRecDepth 100000 in
theorem T_X12_aMachine_242 {Z : ZT} (C : Cx Z cX12_aMachine 6 RX12 8 (some .boolean)) (k145 : Int → Int → Int → Int → MH → Option (Int × MH)) (hk145 : ∀ (x2 : Int) (x3 : Int) (x4 : Int) (x5 : Int) (h : MH) (t : (Int × MH)), k145 x2 x3 x4 x5 h = some t → MW Z (Qm Z (some (iv t.1)) zN zG t.2 0 0) 6 zN zG h 0 0 145 [(0, rfv (xd (zX Z)) 141), (2, iv x2), (3, iv x3), (4, iv x4), (5, iv x5)] []) (x2 : Int) (x3 : Int) (x4 : Int) (x5 : Int) (h : MH) (t : (Int × MH)) (hF : F_X12_aMachine_242 k145 x2 x3 x4 x5 h = some t) : MW Z (Qm Z (some (iv t.1)) zN zG t.2 0 0) 6 zN zG h 0 0 242 [(0, rfv (xd (zX Z)) 141), (2, iv x2), (3, iv x3), (4, iv x4), (5, iv x5)] [] := by
  unfold F_X12_aMachine_242 at hF
  refine mw_iload 4 C dX12_aMachine_242 rfl ?_
  refine mw_bipush C dX12_aMachine_244 bp_6 ?_
  obtain ⟨g1, hF⟩ := ck_some hF
  rcases ite_some hF with ⟨c2, hF⟩ | ⟨c2, hF⟩
  · refine mw_icmp_ne_t (tgt := 286) C dX12_aMachine_246 (by decide) g1 (by decide) c2 ?_
    refine mw_sub [0, 1, 2, 3] rfl ?_
    exact T_X12_aMachine_286 C k145 hk145 x2 x3 x4 _ _ hF
  · refine mw_icmp_ne_f (tgt := 286) C dX12_aMachine_246 (by decide) g1 (by decide) c2 ?_
    refine mw_aload_n 0 C dX12_aMachine_249 rfl rfl ?_
    refine mw_iload_n 1 C dX12_aMachine_250 rfl rfl ?_
    refine mw_iconst C dX12_aMachine_251 ?_
    refine mw_iadd C dX12_aMachine_252 ?_
    refine mw_iconst C dX12_aMachine_253 ?_
    refine mw_bipush C dX12_aMachine_254 bp_64 ?_
    obtain ⟨q3, hq3, hF⟩ := bind_some hF
    refine mw_callV (c := 141) [iv (x2 + 2), iv 0, iv 64] [] C dX12_aMachine_256 (T_X12_number (zl Z) (zX Z) (x2 + 2) 0 64 _ _ hq3) rfl zn141 zk141 (by decide) rfl wd1048 wd1049 wd1372 wd14 wd1050 hd_X12_number rfl (by decide) (by decide) (Nat.le_of_ble_eq_true rfl) ⟨Nat.zero_le _, Nat.zero_le _⟩ ?_
    obtain ⟨g4, hF⟩ := ck_some hF
    rcases ite_some hF with ⟨c5, hF⟩ | ⟨c5, hF⟩
    · refine mw_if_eq_t (tgt := 284) C dX12_aMachine_259 (by decide) g4 c5 ?_
      refine mw_iconst C dX12_aMachine_284 ?_
      cases hF
      exact mw_zret C dX12_aMachine_285 (Or.inl rfl) rfl rfl
    · refine mw_if_eq_f (tgt := 284) C dX12_aMachine_259 (by decide) g4 c5 ?_
      refine mw_aload_n 0 C dX12_aMachine_262 rfl rfl ?_
      refine mw_bipush C dX12_aMachine_263 bp_7 ?_
      obtain ⟨q6, hq6, hF⟩ := bind_some hF
      refine mw_callV (c := 141) [iv 7] [] C dX12_aMachine_265 (T_X12_wantWord (zl Z) (zX Z) 7 _ _ hq6) rfl zn141 zk141 (by decide) rfl wd1045 wd1046 wd1371 wd14 wd1047 hd_X12_wantWord rfl (by decide) (by decide) (Nat.le_of_ble_eq_true rfl) ⟨Nat.zero_le _, Nat.zero_le _⟩ ?_
      obtain ⟨g7, hF⟩ := ck_some hF
      rcases ite_some hF with ⟨c8, hF⟩ | ⟨c8, hF⟩
      · refine mw_if_eq_t (tgt := 284) C dX12_aMachine_268 (by decide) g7 c8 ?_
        refine mw_iconst C dX12_aMachine_284 ?_
        cases hF
        exact mw_zret C dX12_aMachine_285 (Or.inl rfl) rfl rfl
      · refine mw_if_eq_f (tgt := 284) C dX12_aMachine_268 (by decide) g7 c8 ?_
        refine mw_aload_n 0 C dX12_aMachine_271 rfl rfl ?_
        refine mw_iload_n 1 C dX12_aMachine_272 rfl rfl ?_
        refine mw_iconst C dX12_aMachine_273 ?_
        refine mw_iadd C dX12_aMachine_274 ?_
        refine mw_iconst C dX12_aMachine_275 ?_
        refine mw_bipush C dX12_aMachine_276 bp_99 ?_
        obtain ⟨q9, hq9, hF⟩ := bind_some hF
        refine mw_callV (c := 141) [iv (x2 + 3), iv 1, iv 99] [] C dX12_aMachine_278 (T_X12_number (zl Z) (zX Z) (x2 + 3) 1 99 _ _ hq9) rfl zn141 zk141 (by decide) rfl wd1048 wd1049 wd1372 wd14 wd1050 hd_X12_number rfl (by decide) (by decide) (Nat.le_of_ble_eq_true rfl) ⟨Nat.zero_le _, Nat.zero_le _⟩ ?_
        obtain ⟨g10, hF⟩ := ck_some hF
        rcases ite_some hF with ⟨c11, hF⟩ | ⟨c11, hF⟩
        · refine mw_if_ne_t (tgt := 286) C dX12_aMachine_281 (by decide) g10 c11 ?_
          refine mw_sub [0, 1, 2, 3] rfl ?_
          exact T_X12_aMachine_286 C k145 hk145 x2 x3 x4 _ _ hF
        · refine mw_if_ne_f (tgt := 286) C dX12_aMachine_281 (by decide) g10 c11 ?_
          refine mw_iconst C dX12_aMachine_284 ?_
          cases hF
          exact mw_zret C dX12_aMachine_285 (Or.inl rfl) rfl rfl
def F_X12_aMachine_215 (k145 : Int → Int → Int → Int → MH → Option (Int × MH)) (x2 : Int) (x3 : Int) (x5 : Int) (s0 : Int) (h : MH) : Option (Int × MH) :=
  (F_X12_ahead h).bind fun q1 =>
  ck (in32 x5) <|
  if x5 ≠ 5 then
    F_X12_aMachine_242 k145 x2 x3 s0 x5 q1
  else
    (F_X12_number (x2 + 1) 1 24 q1).bind fun q4 =>
    ck (in32 q4.1) <|
    if q4.1 ≠ 0 then
      F_X12_aMachine_242 k145 x2 x3 s0 x5 q4.2
    else
      some (0, q4.2)
set_option maxRecDepth 100000 in
theorem T_X12_aMachine_215 {Z : ZT} (C : Cx Z cX12_aMachine 6 RX12 8 (some .boolean)) (k145 : Int → Int → Int → Int → MH → Option (Int × MH)) (hk145 : ∀ (x2 : Int) (x3 : Int) (x4 : Int) (x5 : Int) (h : MH) (t : (Int × MH)), k145 x2 x3 x4 x5 h = some t → MW Z (Qm Z (some (iv t.1)) zN zG t.2 0 0) 6 zN zG h 0 0 145 [(0, rfv (xd (zX Z)) 141), (2, iv x2), (3, iv x3), (4, iv x4), (5, iv x5)] []) (x2 : Int) (x3 : Int) (x5 : Int) (s0 : Int) (h : MH) (t : (Int × MH)) (hF : F_X12_aMachine_215 k145 x2 x3 x5 s0 h = some t) : MW Z (Qm Z (some (iv t.1)) zN zG t.2 0 0) 6 zN zG h 0 0 215 [(0, rfv (xd (zX Z)) 141), (2, iv x2), (3, iv x3), (5, iv x5)] [iv s0] := by
  unfold F_X12_aMachine_215 at hF
  refine mw_istore [(4, iv s0), (0, rfv (xd (zX Z)) 141), (2, iv x2), (3, iv x3), (5, iv x5)] C dX12_aMachine_215 (by decide) rfl ?_
  refine mw_aload_n 1 C dX12_aMachine_217 rfl rfl ?_
  obtain ⟨q1, hq1, hF⟩ := bind_some hF
  refine mw_callV (c := 141) [] [] C dX12_aMachine_218 (T_X12_ahead (zl Z) (zX Z) _ _ hq1) rfl zn141 zk141 (by decide) rfl wd1003 wd1004 wd1362 wd14 wd1005 hd_X12_ahead rfl (by decide) (by decide) (Nat.le_of_ble_eq_true rfl) ⟨Nat.zero_le _, Nat.zero_le _⟩ ?_
  refine mw_iload 4 C dX12_aMachine_221 rfl ?_
  refine mw_iconst C dX12_aMachine_223 ?_
  obtain ⟨g2, hF⟩ := ck_some hF
  rcases ite_some hF with ⟨c3, hF⟩ | ⟨c3, hF⟩
  · refine mw_icmp_ne_t (tgt := 242) C dX12_aMachine_224 (by decide) g2 (by decide) c3 ?_
    refine mw_sub [1, 2, 3, 0, 4] rfl ?_
    exact T_X12_aMachine_242 C k145 hk145 x2 x3 s0 x5 _ _ hF
  · refine mw_icmp_ne_f (tgt := 242) C dX12_aMachine_224 (by decide) g2 (by decide) c3 ?_
    refine mw_aload_n 1 C dX12_aMachine_227 rfl rfl ?_
    refine mw_iload_n 2 C dX12_aMachine_228 rfl rfl ?_
    refine mw_iconst C dX12_aMachine_229 ?_
    refine mw_iadd C dX12_aMachine_230 ?_
    refine mw_iconst C dX12_aMachine_231 ?_
    refine mw_bipush C dX12_aMachine_232 bp_24 ?_
    obtain ⟨q4, hq4, hF⟩ := bind_some hF
    refine mw_callV (c := 141) [iv (x2 + 1), iv 1, iv 24] [] C dX12_aMachine_234 (T_X12_number (zl Z) (zX Z) (x2 + 1) 1 24 _ _ hq4) rfl zn141 zk141 (by decide) rfl wd1048 wd1049 wd1372 wd14 wd1050 hd_X12_number rfl (by decide) (by decide) (Nat.le_of_ble_eq_true rfl) ⟨Nat.zero_le _, Nat.zero_le _⟩ ?_
    obtain ⟨g5, hF⟩ := ck_some hF
    rcases ite_some hF with ⟨c6, hF⟩ | ⟨c6, hF⟩
    · refine mw_if_ne_t (tgt := 242) C dX12_aMachine_237 (by decide) g5 c6 ?_
      refine mw_sub [1, 2, 3, 0, 4] rfl ?_
      exact T_X12_aMachine_242 C k145 hk145 x2 x3 s0 x5 _ _ hF
    · refine mw_if_ne_f (tgt := 242) C dX12_aMachine_237 (by decide) g5 c6 ?_
      refine mw_iconst C dX12_aMachine_240 ?_
      cases hF
      exact mw_zret C dX12_aMachine_241 (Or.inl rfl) rfl rfl
def F_X12_aMachine_210 (k145 : Int → Int → Int → Int → MH → Option (Int × MH)) (x2 : Int) (x3 : Int) (x5 : Int) (h : MH) : Option (Int × MH) :=
  F_X12_aMachine_215 k145 x2 x3 x5 1 h
set_option maxRecDepth 100000 in
theorem T_X12_aMachine_210 {Z : ZT} (C : Cx Z cX12_aMachine 6 RX12 8 (some .boolean)) (k145 : Int → Int → Int → Int → MH → Option (Int × MH)) (hk145 : ∀ (x2 : Int) (x3 : Int) (x4 : Int) (x5 : Int) (h : MH) (t : (Int × MH)), k145 x2 x3 x4 x5 h = some t → MW Z (Qm Z (some (iv t.1)) zN zG t.2 0 0) 6 zN zG h 0 0 145 [(0, rfv (xd (zX Z)) 141), (2, iv x2), (3, iv x3), (4, iv x4), (5, iv x5)] []) (x2 : Int) (x3 : Int) (x5 : Int) (h : MH) (t : (Int × MH)) (hF : F_X12_aMachine_210 k145 x2 x3 x5 h = some t) : MW Z (Qm Z (some (iv t.1)) zN zG t.2 0 0) 6 zN zG h 0 0 210 [(0, rfv (xd (zX Z)) 141), (2, iv x2), (3, iv x3), (5, iv x5)] [] := by
  unfold F_X12_aMachine_210 at hF
  refine mw_iconst C dX12_aMachine_210 ?_
  refine mw_goto (tgt := 215) C dX12_aMachine_211 (by decide) ?_
  exact T_X12_aMachine_215 C k145 hk145 x2 x3 x5 1 _ _ hF
def F_X12_aMachine_197 (k145 : Int → Int → Int → Int → MH → Option (Int × MH)) (x2 : Int) (x4 : Int) (x5 : Int) (s0 : Int) (h : MH) : Option (Int × MH) :=
  ck (in32 x4) <|
  if x4 ≠ 0 then
    F_X12_aMachine_210 k145 x2 s0 x5 h
  else
    ck (in32 x5) <|
    if x5 ≠ 6 then
      F_X12_aMachine_215 k145 x2 s0 x5 0 h
    else
      F_X12_aMachine_210 k145 x2 s0 x5 h
set_option maxRecDepth 100000 in
theorem T_X12_aMachine_197 {Z : ZT} (C : Cx Z cX12_aMachine 6 RX12 8 (some .boolean)) (k145 : Int → Int → Int → Int → MH → Option (Int × MH)) (hk145 : ∀ (x2 : Int) (x3 : Int) (x4 : Int) (x5 : Int) (h : MH) (t : (Int × MH)), k145 x2 x3 x4 x5 h = some t → MW Z (Qm Z (some (iv t.1)) zN zG t.2 0 0) 6 zN zG h 0 0 145 [(0, rfv (xd (zX Z)) 141), (2, iv x2), (3, iv x3), (4, iv x4), (5, iv x5)] []) (x2 : Int) (x4 : Int) (x5 : Int) (s0 : Int) (h : MH) (t : (Int × MH)) (hF : F_X12_aMachine_197 k145 x2 x4 x5 s0 h = some t) : MW Z (Qm Z (some (iv t.1)) zN zG t.2 0 0) 6 zN zG h 0 0 197 [(0, rfv (xd (zX Z)) 141), (2, iv x2), (4, iv x4), (5, iv x5)] [iv s0] := by
  unfold F_X12_aMachine_197 at hF
  refine mw_istore_n [(3, iv s0), (0, rfv (xd (zX Z)) 141), (2, iv x2), (4, iv x4), (5, iv x5)] C dX12_aMachine_197 rfl (by decide) rfl ?_
  refine mw_iload 3 C dX12_aMachine_198 rfl ?_
  obtain ⟨g1, hF⟩ := ck_some hF
  rcases ite_some hF with ⟨c2, hF⟩ | ⟨c2, hF⟩
  · refine mw_if_ne_t (tgt := 210) C dX12_aMachine_200 (by decide) g1 c2 ?_
    refine mw_sub [1, 2, 0, 4] rfl ?_
    exact T_X12_aMachine_210 C k145 hk145 x2 s0 x5 _ _ hF
  · refine mw_if_ne_f (tgt := 210) C dX12_aMachine_200 (by decide) g1 c2 ?_
    refine mw_iload 4 C dX12_aMachine_203 rfl ?_
    refine mw_bipush C dX12_aMachine_205 bp_6 ?_
    obtain ⟨g3, hF⟩ := ck_some hF
    rcases ite_some hF with ⟨c4, hF⟩ | ⟨c4, hF⟩
    · refine mw_icmp_ne_t (tgt := 214) C dX12_aMachine_207 (by decide) g3 (by decide) c4 ?_
      refine mw_iconst C dX12_aMachine_214 ?_
      refine mw_sub [1, 2, 0, 4] rfl ?_
      exact T_X12_aMachine_215 C k145 hk145 x2 s0 x5 0 _ _ hF
    · refine mw_icmp_ne_f (tgt := 214) C dX12_aMachine_207 (by decide) g3 (by decide) c4 ?_
      refine mw_sub [1, 2, 0, 4] rfl ?_
      exact T_X12_aMachine_210 C k145 hk145 x2 s0 x5 _ _ hF
def F_X12_aMachine_192 (k145 : Int → Int → Int → Int → MH → Option (Int × MH)) (x2 : Int) (x4 : Int) (x5 : Int) (h : MH) : Option (Int × MH) :=
  F_X12_aMachine_197 k145 x2 x4 x5 1 h
set_option maxRecDepth 100000 in
theorem T_X12_aMachine_192 {Z : ZT} (C : Cx Z cX12_aMachine 6 RX12 8 (some .boolean)) (k145 : Int → Int → Int → Int → MH → Option (Int × MH)) (hk145 : ∀ (x2 : Int) (x3 : Int) (x4 : Int) (x5 : Int) (h : MH) (t : (Int × MH)), k145 x2 x3 x4 x5 h = some t → MW Z (Qm Z (some (iv t.1)) zN zG t.2 0 0) 6 zN zG h 0 0 145 [(0, rfv (xd (zX Z)) 141), (2, iv x2), (3, iv x3), (4, iv x4), (5, iv x5)] []) (x2 : Int) (x4 : Int) (x5 : Int) (h : MH) (t : (Int × MH)) (hF : F_X12_aMachine_192 k145 x2 x4 x5 h = some t) : MW Z (Qm Z (some (iv t.1)) zN zG t.2 0 0) 6 zN zG h 0 0 192 [(0, rfv (xd (zX Z)) 141), (2, iv x2), (4, iv x4), (5, iv x5)] [] := by
  unfold F_X12_aMachine_192 at hF
  refine mw_iconst C dX12_aMachine_192 ?_
  refine mw_goto (tgt := 197) C dX12_aMachine_193 (by decide) ?_
  exact T_X12_aMachine_197 C k145 hk145 x2 x4 x5 1 _ _ hF
def F_X12_aMachine_182 (k145 : Int → Int → Int → Int → MH → Option (Int × MH)) (x2 : Int) (x3 : Int) (x4 : Int) (x5 : Int) (h : MH) : Option (Int × MH) :=
  ck (in32 x3) <|
  if x3 ≠ 0 then
    F_X12_aMachine_192 k145 x2 x4 x5 h
  else
    ck (in32 x5) <|
    if x5 ≠ 5 then
      F_X12_aMachine_197 k145 x2 x4 x5 0 h
    else
      F_X12_aMachine_192 k145 x2 x4 x5 h
set_option maxRecDepth 100000 in
theorem T_X12_aMachine_182 {Z : ZT} (C : Cx Z cX12_aMachine 6 RX12 8 (some .boolean)) (k145 : Int → Int → Int → Int → MH → Option (Int × MH)) (hk145 : ∀ (x2 : Int) (x3 : Int) (x4 : Int) (x5 : Int) (h : MH) (t : (Int × MH)), k145 x2 x3 x4 x5 h = some t → MW Z (Qm Z (some (iv t.1)) zN zG t.2 0 0) 6 zN zG h 0 0 145 [(0, rfv (xd (zX Z)) 141), (2, iv x2), (3, iv x3), (4, iv x4), (5, iv x5)] []) (x2 : Int) (x3 : Int) (x4 : Int) (x5 : Int) (h : MH) (t : (Int × MH)) (hF : F_X12_aMachine_182 k145 x2 x3 x4 x5 h = some t) : MW Z (Qm Z (some (iv t.1)) zN zG t.2 0 0) 6 zN zG h 0 0 182 [(0, rfv (xd (zX Z)) 141), (2, iv x2), (3, iv x3), (4, iv x4), (5, iv x5)] [] := by
  unfold F_X12_aMachine_182 at hF
  refine mw_iload_n 2 C dX12_aMachine_182 rfl rfl ?_
  obtain ⟨g1, hF⟩ := ck_some hF
  rcases ite_some hF with ⟨c2, hF⟩ | ⟨c2, hF⟩
  · refine mw_if_ne_t (tgt := 192) C dX12_aMachine_183 (by decide) g1 c2 ?_
    refine mw_sub [0, 1, 3, 4] rfl ?_
    exact T_X12_aMachine_192 C k145 hk145 x2 x4 x5 _ _ hF
  · refine mw_if_ne_f (tgt := 192) C dX12_aMachine_183 (by decide) g1 c2 ?_
    refine mw_iload 4 C dX12_aMachine_186 rfl ?_
    refine mw_iconst C dX12_aMachine_188 ?_
    obtain ⟨g3, hF⟩ := ck_some hF
    rcases ite_some hF with ⟨c4, hF⟩ | ⟨c4, hF⟩
    · refine mw_icmp_ne_t (tgt := 196) C dX12_aMachine_189 (by decide) g3 (by decide) c4 ?_
      refine mw_iconst C dX12_aMachine_196 ?_
      refine mw_sub [0, 1, 3, 4] rfl ?_
      exact T_X12_aMachine_197 C k145 hk145 x2 x4 x5 0 _ _ hF
    · refine mw_icmp_ne_f (tgt := 196) C dX12_aMachine_189 (by decide) g3 (by decide) c4 ?_
      refine mw_sub [0, 1, 3, 4] rfl ?_
      exact T_X12_aMachine_192 C k145 hk145 x2 x4 x5 _ _ hF
def F_X12_aMachine_176 (h : MH) : Option (Int × MH) :=
  (F_X12_fails 5 h).bind fun q1 =>
  ck (q1.1 = 0 ∨ q1.1 = 1) <|
  some (q1.1, q1.2)
set_option maxRecDepth 100000 in
theorem T_X12_aMachine_176 {Z : ZT} (C : Cx Z cX12_aMachine 6 RX12 8 (some .boolean)) (h : MH) (t : (Int × MH)) (hF : F_X12_aMachine_176 h = some t) : MW Z (Qm Z (some (iv t.1)) zN zG t.2 0 0) 6 zN zG h 0 0 176 [(0, rfv (xd (zX Z)) 141)] [] := by
  unfold F_X12_aMachine_176 at hF
  refine mw_aload_n 0 C dX12_aMachine_176 rfl rfl ?_
  refine mw_iconst C dX12_aMachine_177 ?_
  obtain ⟨q1, hq1, hF⟩ := bind_some hF
  refine mw_callV (c := 141) [iv 5] [] C dX12_aMachine_178 (T_X12_fails (zl Z) (zX Z) 5 _ _ hq1) rfl zn141 zk141 (by decide) rfl wd1029 wd1030 wd1367 wd14 wd1031 hd_X12_fails rfl (by decide) (by decide) (Nat.le_of_ble_eq_true rfl) ⟨Nat.zero_le _, Nat.zero_le _⟩ ?_
  obtain ⟨g2, hF⟩ := ck_some hF
  cases hF
  exact mw_zret C dX12_aMachine_181 g2 rfl rfl
def F_X12_aMachine_158 (k145 : Int → Int → Int → Int → MH → Option (Int × MH)) (x2 : Int) (x3 : Int) (x4 : Int) (x5 : Int) (h : MH) : Option (Int × MH) :=
  ck (in32 x5) <|
  if x5 ≠ 5 then
    ck (in32 x4) <|
    if x4 = 0 then
      F_X12_aMachine_182 k145 x2 x3 x4 x5 h
    else
      F_X12_aMachine_176 h
  else
    ck (in32 x3) <|
    if x3 = 0 then
      F_X12_aMachine_182 k145 x2 x3 x4 x5 h
    else
      F_X12_aMachine_176 h
set_option maxRecDepth 100000 in
theorem T_X12_aMachine_158 {Z : ZT} (C : Cx Z cX12_aMachine 6 RX12 8 (some .boolean)) (k145 : Int → Int → Int → Int → MH → Option (Int × MH)) (hk145 : ∀ (x2 : Int) (x3 : Int) (x4 : Int) (x5 : Int) (h : MH) (t : (Int × MH)), k145 x2 x3 x4 x5 h = some t → MW Z (Qm Z (some (iv t.1)) zN zG t.2 0 0) 6 zN zG h 0 0 145 [(0, rfv (xd (zX Z)) 141), (2, iv x2), (3, iv x3), (4, iv x4), (5, iv x5)] []) (x2 : Int) (x3 : Int) (x4 : Int) (x5 : Int) (h : MH) (t : (Int × MH)) (hF : F_X12_aMachine_158 k145 x2 x3 x4 x5 h = some t) : MW Z (Qm Z (some (iv t.1)) zN zG t.2 0 0) 6 zN zG h 0 0 158 [(0, rfv (xd (zX Z)) 141), (2, iv x2), (3, iv x3), (4, iv x4), (5, iv x5)] [] := by
  unfold F_X12_aMachine_158 at hF
  refine mw_iload 4 C dX12_aMachine_158 rfl ?_
  refine mw_iconst C dX12_aMachine_160 ?_
  obtain ⟨g1, hF⟩ := ck_some hF
  rcases ite_some hF with ⟨c2, hF⟩ | ⟨c2, hF⟩
  · refine mw_icmp_ne_t (tgt := 171) C dX12_aMachine_161 (by decide) g1 (by decide) c2 ?_
    refine mw_iload 3 C dX12_aMachine_171 rfl ?_
    obtain ⟨g3, hF⟩ := ck_some hF
    rcases ite_some hF with ⟨c4, hF⟩ | ⟨c4, hF⟩
    · refine mw_if_eq_t (tgt := 182) C dX12_aMachine_173 (by decide) g3 c4 ?_
      exact T_X12_aMachine_182 C k145 hk145 x2 x3 x4 x5 _ _ hF
    · refine mw_if_eq_f (tgt := 182) C dX12_aMachine_173 (by decide) g3 c4 ?_
      refine mw_sub [0] rfl ?_
      exact T_X12_aMachine_176 C _ _ hF
  · refine mw_icmp_ne_f (tgt := 171) C dX12_aMachine_161 (by decide) g1 (by decide) c2 ?_
    refine mw_iload_n 2 C dX12_aMachine_164 rfl rfl ?_
    obtain ⟨g5, hF⟩ := ck_some hF
    rcases ite_some hF with ⟨c6, hF⟩ | ⟨c6, hF⟩
    · refine mw_if_eq_t (tgt := 182) C dX12_aMachine_165 (by decide) g5 c6 ?_
      exact T_X12_aMachine_182 C k145 hk145 x2 x3 x4 x5 _ _ hF
    · refine mw_if_eq_f (tgt := 182) C dX12_aMachine_165 (by decide) g5 c6 ?_
      refine mw_goto (tgt := 176) C dX12_aMachine_168 (by decide) ?_
      refine mw_sub [0] rfl ?_
      exact T_X12_aMachine_176 C _ _ hF
def F_X12_aMachine_145 : Nat → Int → Int → Int → Int → MH → Option (Int × MH)
  | 0, _, _, _, _, _ => none
  | n + 1, x2, x3, x4, x5, h =>
    ck (in32 x5) <|
    if x5 = 5 then
      F_X12_aMachine_158 (F_X12_aMachine_145 n) x2 x3 x4 x5 h
    else
      if x5 ≠ 6 then
        nx (hup h 142 1760 ((h 142 1760) + 1)) fun h4 =>
        some (1, h4)
      else
        F_X12_aMachine_158 (F_X12_aMachine_145 n) x2 x3 x4 x5 h
set_option maxRecDepth 100000 in
theorem T_X12_aMachine_145 {Z : ZT} (C : Cx Z cX12_aMachine 6 RX12 8 (some .boolean)) : ∀ (n : Nat) (x2 : Int) (x3 : Int) (x4 : Int) (x5 : Int) (h : MH) (t : (Int × MH)), F_X12_aMachine_145 n x2 x3 x4 x5 h = some t → MW Z (Qm Z (some (iv t.1)) zN zG t.2 0 0) 6 zN zG h 0 0 145 [(0, rfv (xd (zX Z)) 141), (2, iv x2), (3, iv x3), (4, iv x4), (5, iv x5)] [] := by
  intro n
  induction n with
  | zero =>
    intros
    rename_i hF
    exact absurd hF (by intro q; cases q)
  | succ n ih =>
    intro x2 x3 x4 x5 h t hF
    rw [F_X12_aMachine_145] at hF
    refine mw_iload 4 C dX12_aMachine_145 rfl ?_
    refine mw_iconst C dX12_aMachine_147 ?_
    obtain ⟨g1, hF⟩ := ck_some hF
    rcases ite_some hF with ⟨c2, hF⟩ | ⟨c2, hF⟩
    · refine mw_icmp_eq_t (tgt := 158) C dX12_aMachine_148 (by decide) g1 (by decide) c2 ?_
      exact T_X12_aMachine_158 C (F_X12_aMachine_145 n) ih x2 x3 x4 x5 _ _ hF
    · refine mw_icmp_eq_f (tgt := 158) C dX12_aMachine_148 (by decide) g1 (by decide) c2 ?_
      refine mw_iload 4 C dX12_aMachine_151 rfl ?_
      refine mw_bipush C dX12_aMachine_153 bp_6 ?_
      rcases ite_some hF with ⟨c3, hF⟩ | ⟨c3, hF⟩
      · refine mw_icmp_ne_t (tgt := 297) C dX12_aMachine_155 (by decide) g1 (by decide) c3 ?_
        refine mw_aload_n 0 C dX12_aMachine_297 rfl rfl ?_
        refine mw_get (k := 0) (T := TX12) (v := rfv (xd (zX Z)) 142) C dX12_aMachine_298 zn141 zk141 (by decide) rfl inX12 (by decide) wd889 rfl (zfv_r rfl zg_141_0) ?_
        refine mw_sipush C dX12_aMachine_301 sp_1760 ?_
        refine mw_dup2 C dX12_aMachine_304 rfl rfl ?_
        refine mw_lald C dX12_aMachine_305 zn142 zk142 (by decide) (by decide) ?_
        refine mw_lconst (a := 1) C dX12_aMachine_306 lc_1 ?_
        refine mw_ladd C dX12_aMachine_307 ?_
        obtain ⟨h4, eh4, hF⟩ := nx_some hF
        refine mw_last C dX12_aMachine_308 zn142 zk142 (by decide) (by decide) (mw_h eh4 ?_)
        refine mw_iconst C dX12_aMachine_309 ?_
        cases hF
        exact mw_zret C dX12_aMachine_310 (Or.inr rfl) rfl rfl
      · refine mw_icmp_ne_f (tgt := 297) C dX12_aMachine_155 (by decide) g1 (by decide) c3 ?_
        exact T_X12_aMachine_158 C (F_X12_aMachine_145 n) ih x2 x3 x4 x5 _ _ hF
def F_X12_aMachine_0 (h : MH) : Option (Int × MH) :=
  nx (h 142 1760) fun v1 =>
  ck (in32 v1) <|
  if v1 ≠ 6 then
    (F_X12_ahead h).bind fun q4 =>
    (F_X12_isName 19 q4).bind fun q5 =>
    ck (in32 q5.1) <|
    if q5.1 ≠ 0 then
      (F_X12_nameHere q5.2).bind fun q8 =>
      (F_X12_machineNamed 1760 q8.1 q8.2).bind fun q9 =>
      ck (in32 q9.1) <|
      if q9.1 = (-1) then
        (F_X12_machineAt 1760 v1 q9.2).bind fun q12 =>
        (F_X12_nameHere q12.2).bind fun q13 =>
        ck (0 ≤ (q12.1 + 13) ∧ (q12.1 + 13) < 2640) <|
        nx (hup q13.2 142 (q12.1 + 13).toNat q13.1) fun h15 =>
        ck (0 ≤ (q12.1 + 1) ∧ (q12.1 + 1) < 2640) <|
        nx (hup h15 142 (q12.1 + 1).toNat 1) fun h17 =>
        ck (0 ≤ (q12.1 + 11) ∧ (q12.1 + 11) < 2640) <|
        nx (hup h17 142 (q12.1 + 11).toNat 20) fun h19 =>
        (F_X12_ahead h19).bind fun q20 =>
        (F_X12_wantWord 4 q20).bind fun q21 =>
        ck (in32 q21.1) <|
        if q21.1 = 0 then
          some (0, q21.2)
        else
          (F_X12_number (q12.1 + 0) 1 99 q21.2).bind fun q24 =>
          ck (in32 q24.1) <|
          if q24.1 ≠ 0 then
            (F_X12_inWords 19 q24.2).bind fun q27 =>
            F_X12_aMachine_145 20000 q12.1 0 0 q27.1 q27.2
          else
            some (0, q24.2)
      else
        (F_X12_fails 3 q9.2).bind fun q28 =>
        ck (q28.1 = 0 ∨ q28.1 = 1) <|
        some (q28.1, q28.2)
    else
      (F_X12_fails 2 q5.2).bind fun q30 =>
      ck (q30.1 = 0 ∨ q30.1 = 1) <|
      some (q30.1, q30.2)
  else
    (F_X12_fails 6 h).bind fun q32 =>
    ck (q32.1 = 0 ∨ q32.1 = 1) <|
    some (q32.1, q32.2)
set_option maxRecDepth 100000 in
theorem T_X12_aMachine_0 {Z : ZT} (C : Cx Z cX12_aMachine 6 RX12 8 (some .boolean)) (h : MH) (t : (Int × MH)) (hF : F_X12_aMachine_0 h = some t) : MW Z (Qm Z (some (iv t.1)) zN zG t.2 0 0) 6 zN zG h 0 0 0 [(0, rfv (xd (zX Z)) 141)] [] := by
  unfold F_X12_aMachine_0 at hF
  refine mw_aload_n 0 C dX12_aMachine_0 rfl rfl ?_
  refine mw_get (k := 0) (T := TX12) (v := rfv (xd (zX Z)) 142) C dX12_aMachine_1 zn141 zk141 (by decide) rfl inX12 (by decide) wd889 rfl (zfv_r rfl zg_141_0) ?_
  refine mw_sipush C dX12_aMachine_4 sp_1760 ?_
  refine mw_lald C dX12_aMachine_7 zn142 zk142 (by decide) (by decide) ?_
  refine mw_l2i C dX12_aMachine_8 ?_
  obtain ⟨v1, ev1, hF⟩ := nx_some hF
  refine mw_ti ev1 ?_
  refine mw_istore_n [(1, iv v1), (0, rfv (xd (zX Z)) 141)] C dX12_aMachine_9 rfl (by decide) rfl ?_
  refine mw_iload_n 0 C dX12_aMachine_10 rfl rfl ?_
  refine mw_bipush C dX12_aMachine_11 bp_6 ?_
  obtain ⟨g2, hF⟩ := ck_some hF
  rcases ite_some hF with ⟨c3, hF⟩ | ⟨c3, hF⟩
  · refine mw_icmp_ne_t (tgt := 23) C dX12_aMachine_13 (by decide) g2 (by decide) c3 ?_
    refine mw_aload_n 1 C dX12_aMachine_23 rfl rfl ?_
    obtain ⟨q4, hq4, hF⟩ := bind_some hF
    refine mw_callV (c := 141) [] [] C dX12_aMachine_24 (T_X12_ahead (zl Z) (zX Z) _ _ hq4) rfl zn141 zk141 (by decide) rfl wd1003 wd1004 wd1362 wd14 wd1005 hd_X12_ahead rfl (by decide) (by decide) (Nat.le_of_ble_eq_true rfl) ⟨Nat.zero_le _, Nat.zero_le _⟩ ?_
    refine mw_aload_n 1 C dX12_aMachine_27 rfl rfl ?_
    refine mw_ldcS 19 (by decide) rfl rfl C dX12_aMachine_28 ?_
    obtain ⟨q5, hq5, hF⟩ := bind_some hF
    refine mw_callV (c := 141) [.ref (xa (zX Z) 19)] [] C dX12_aMachine_30 (T_X12_isName (zl Z) (zX Z) 19 (by decide) _ _ hq5) rfl zn141 zk141 (by decide) rfl wd1032 wd1033 wd1368 wd14 wd1034 hd_X12_isName rfl (by decide) (by decide) (Nat.le_of_ble_eq_true rfl) ⟨Nat.zero_le _, Nat.zero_le _⟩ ?_
    obtain ⟨g6, hF⟩ := ck_some hF
    rcases ite_some hF with ⟨c7, hF⟩ | ⟨c7, hF⟩
    · refine mw_if_ne_t (tgt := 42) C dX12_aMachine_33 (by decide) g6 c7 ?_
      refine mw_aload_n 1 C dX12_aMachine_42 rfl rfl ?_
      refine mw_sipush C dX12_aMachine_43 sp_1760 ?_
      refine mw_aload_n 1 C dX12_aMachine_46 rfl rfl ?_
      obtain ⟨q8, hq8, hF⟩ := bind_some hF
      refine mw_callV (c := 141) [] [iv 1760, rfv (xd (zX Z)) 141] C dX12_aMachine_47 (T_X12_nameHere (zl Z) (zX Z) _ _ hq8) rfl zn141 zk141 (by decide) rfl wd1035 wd1036 wd1369 wd14 wd1037 hd_X12_nameHere rfl (by decide) (by decide) (Nat.le_of_ble_eq_true rfl) ⟨Nat.zero_le _, Nat.zero_le _⟩ ?_
      obtain ⟨q9, hq9, hF⟩ := bind_some hF
      refine mw_callV (c := 141) [iv 1760, lvv q8.1] [] C dX12_aMachine_50 (T_X12_machineNamed (zl Z) (zX Z) 1760 q8.1 _ _ hq9) rfl zn141 zk141 (by decide) rfl wd1038 wd1039 wd1370 wd14 wd1040 hd_X12_machineNamed rfl (by decide) (by decide) (Nat.le_of_ble_eq_true rfl) ⟨Nat.zero_le _, Nat.zero_le _⟩ ?_
      refine mw_iconst C dX12_aMachine_53 ?_
      obtain ⟨g10, hF⟩ := ck_some hF
      rcases ite_some hF with ⟨c11, hF⟩ | ⟨c11, hF⟩
      · refine mw_icmp_eq_t (tgt := 63) C dX12_aMachine_54 (by decide) g10 (by decide) c11 ?_
        refine mw_sipush C dX12_aMachine_63 sp_1760 ?_
        refine mw_iload_n 0 C dX12_aMachine_66 rfl rfl ?_
        obtain ⟨q12, hq12, hF⟩ := bind_some hF
        refine mw_callS [iv 1760, iv v1] [] C dX12_aMachine_67 (T_X12_machineAt (zl Z) (zX Z) 1760 v1 _ _ hq12) rfl wd1041 wd1042 wd14 wd1043 hd_X12_machineAt rfl (by decide) (by decide) (Nat.le_of_ble_eq_true rfl) ⟨Nat.zero_le _, Nat.zero_le _⟩ ?_
        refine mw_istore_n [(2, iv q12.1), (1, iv v1), (0, rfv (xd (zX Z)) 141)] C dX12_aMachine_70 rfl (by decide) rfl ?_
        refine mw_aload_n 2 C dX12_aMachine_71 rfl rfl ?_
        refine mw_get (k := 0) (T := TX12) (v := rfv (xd (zX Z)) 142) C dX12_aMachine_72 zn141 zk141 (by decide) rfl inX12 (by decide) wd889 rfl (zfv_r rfl zg_141_0) ?_
        refine mw_iload_n 0 C dX12_aMachine_75 rfl rfl ?_
        refine mw_bipush C dX12_aMachine_76 bp_13 ?_
        refine mw_iadd C dX12_aMachine_78 ?_
        refine mw_aload_n 2 C dX12_aMachine_79 rfl rfl ?_
        obtain ⟨q13, hq13, hF⟩ := bind_some hF
        refine mw_callV (c := 141) [] [iv (q12.1 + 13), rfv (xd (zX Z)) 142] C dX12_aMachine_80 (T_X12_nameHere (zl Z) (zX Z) _ _ hq13) rfl zn141 zk141 (by decide) rfl wd1035 wd1036 wd1369 wd14 wd1037 hd_X12_nameHere rfl (by decide) (by decide) (Nat.le_of_ble_eq_true rfl) ⟨Nat.zero_le _, Nat.zero_le _⟩ ?_
        obtain ⟨g14, hF⟩ := ck_some hF
        obtain ⟨h15, eh15, hF⟩ := nx_some hF
        refine mw_last C dX12_aMachine_83 zn142 zk142 (by decide) g14 (mw_h eh15 ?_)
        refine mw_aload_n 2 C dX12_aMachine_84 rfl rfl ?_
        refine mw_get (k := 0) (T := TX12) (v := rfv (xd (zX Z)) 142) C dX12_aMachine_85 zn141 zk141 (by decide) rfl inX12 (by decide) wd889 rfl (zfv_r rfl zg_141_0) ?_
        refine mw_iload_n 0 C dX12_aMachine_88 rfl rfl ?_
        refine mw_iconst C dX12_aMachine_89 ?_
        refine mw_iadd C dX12_aMachine_90 ?_
        refine mw_lconst (a := 1) C dX12_aMachine_91 lc_1 ?_
        obtain ⟨g16, hF⟩ := ck_some hF
        obtain ⟨h17, eh17, hF⟩ := nx_some hF
        refine mw_last C dX12_aMachine_92 zn142 zk142 (by decide) g16 (mw_h eh17 ?_)
        refine mw_aload_n 2 C dX12_aMachine_93 rfl rfl ?_
        refine mw_get (k := 0) (T := TX12) (v := rfv (xd (zX Z)) 142) C dX12_aMachine_94 zn141 zk141 (by decide) rfl inX12 (by decide) wd889 rfl (zfv_r rfl zg_141_0) ?_
        refine mw_iload_n 0 C dX12_aMachine_97 rfl rfl ?_
        refine mw_bipush C dX12_aMachine_98 bp_11 ?_
        refine mw_iadd C dX12_aMachine_100 ?_
        refine mw_ldc2 (a := 20) C dX12_aMachine_101 wd1044 rfl ?_
        obtain ⟨g18, hF⟩ := ck_some hF
        obtain ⟨h19, eh19, hF⟩ := nx_some hF
        refine mw_last C dX12_aMachine_104 zn142 zk142 (by decide) g18 (mw_h eh19 ?_)
        refine mw_aload_n 2 C dX12_aMachine_105 rfl rfl ?_
        obtain ⟨q20, hq20, hF⟩ := bind_some hF
        refine mw_callV (c := 141) [] [] C dX12_aMachine_106 (T_X12_ahead (zl Z) (zX Z) _ _ hq20) rfl zn141 zk141 (by decide) rfl wd1003 wd1004 wd1362 wd14 wd1005 hd_X12_ahead rfl (by decide) (by decide) (Nat.le_of_ble_eq_true rfl) ⟨Nat.zero_le _, Nat.zero_le _⟩ ?_
        refine mw_aload_n 2 C dX12_aMachine_109 rfl rfl ?_
        refine mw_iconst C dX12_aMachine_110 ?_
        obtain ⟨q21, hq21, hF⟩ := bind_some hF
        refine mw_callV (c := 141) [iv 4] [] C dX12_aMachine_111 (T_X12_wantWord (zl Z) (zX Z) 4 _ _ hq21) rfl zn141 zk141 (by decide) rfl wd1045 wd1046 wd1371 wd14 wd1047 hd_X12_wantWord rfl (by decide) (by decide) (Nat.le_of_ble_eq_true rfl) ⟨Nat.zero_le _, Nat.zero_le _⟩ ?_
        obtain ⟨g22, hF⟩ := ck_some hF
        rcases ite_some hF with ⟨c23, hF⟩ | ⟨c23, hF⟩
        · refine mw_if_eq_t (tgt := 130) C dX12_aMachine_114 (by decide) g22 c23 ?_
          refine mw_iconst C dX12_aMachine_130 ?_
          cases hF
          exact mw_zret C dX12_aMachine_131 (Or.inl rfl) rfl rfl
        · refine mw_if_eq_f (tgt := 130) C dX12_aMachine_114 (by decide) g22 c23 ?_
          refine mw_aload_n 2 C dX12_aMachine_117 rfl rfl ?_
          refine mw_iload_n 0 C dX12_aMachine_118 rfl rfl ?_
          refine mw_iconst C dX12_aMachine_119 ?_
          refine mw_iadd C dX12_aMachine_120 ?_
          refine mw_iconst C dX12_aMachine_121 ?_
          refine mw_bipush C dX12_aMachine_122 bp_99 ?_
          obtain ⟨q24, hq24, hF⟩ := bind_some hF
          refine mw_callV (c := 141) [iv (q12.1 + 0), iv 1, iv 99] [] C dX12_aMachine_124 (T_X12_number (zl Z) (zX Z) (q12.1 + 0) 1 99 _ _ hq24) rfl zn141 zk141 (by decide) rfl wd1048 wd1049 wd1372 wd14 wd1050 hd_X12_number rfl (by decide) (by decide) (Nat.le_of_ble_eq_true rfl) ⟨Nat.zero_le _, Nat.zero_le _⟩ ?_
          obtain ⟨g25, hF⟩ := ck_some hF
          rcases ite_some hF with ⟨c26, hF⟩ | ⟨c26, hF⟩
          · refine mw_if_ne_t (tgt := 132) C dX12_aMachine_127 (by decide) g25 c26 ?_
            refine mw_iconst C dX12_aMachine_132 ?_
            refine mw_istore_n [(3, iv 0), (2, iv q12.1), (1, iv v1), (0, rfv (xd (zX Z)) 141)] C dX12_aMachine_133 rfl (by decide) rfl ?_
            refine mw_iconst C dX12_aMachine_134 ?_
            refine mw_istore [(4, iv 0), (3, iv 0), (2, iv q12.1), (1, iv v1), (0, rfv (xd (zX Z)) 141)] C dX12_aMachine_135 (by decide) rfl ?_
            refine mw_aload_n 4 C dX12_aMachine_137 rfl rfl ?_
            refine mw_ldcS 19 (by decide) rfl rfl C dX12_aMachine_138 ?_
            obtain ⟨q27, hq27, hF⟩ := bind_some hF
            refine mw_callV (c := 141) [.ref (xa (zX Z) 19)] [] C dX12_aMachine_140 (T_X12_inWords (zl Z) (zX Z) 19 (by decide) _ _ hq27) rfl zn141 zk141 (by decide) rfl wd1021 wd1022 wd1365 wd14 wd1023 hd_X12_inWords rfl (by decide) (by decide) (Nat.le_of_ble_eq_true rfl) ⟨Nat.zero_le _, Nat.zero_le _⟩ ?_
            refine mw_istore [(5, iv q27.1), (4, iv 0), (3, iv 0), (2, iv q12.1), (1, iv v1), (0, rfv (xd (zX Z)) 141)] C dX12_aMachine_143 (by decide) rfl ?_
            refine mw_sub [5, 3, 2, 1, 0] rfl ?_
            exact T_X12_aMachine_145 C 20000 q12.1 0 0 q27.1 _ _ hF
          · refine mw_if_ne_f (tgt := 132) C dX12_aMachine_127 (by decide) g25 c26 ?_
            refine mw_iconst C dX12_aMachine_130 ?_
            cases hF
            exact mw_zret C dX12_aMachine_131 (Or.inl rfl) rfl rfl
      · refine mw_icmp_eq_f (tgt := 63) C dX12_aMachine_54 (by decide) g10 (by decide) c11 ?_
        refine mw_aload_n 1 C dX12_aMachine_57 rfl rfl ?_
        refine mw_iconst C dX12_aMachine_58 ?_
        obtain ⟨q28, hq28, hF⟩ := bind_some hF
        refine mw_callV (c := 141) [iv 3] [] C dX12_aMachine_59 (T_X12_fails (zl Z) (zX Z) 3 _ _ hq28) rfl zn141 zk141 (by decide) rfl wd1029 wd1030 wd1367 wd14 wd1031 hd_X12_fails rfl (by decide) (by decide) (Nat.le_of_ble_eq_true rfl) ⟨Nat.zero_le _, Nat.zero_le _⟩ ?_
        obtain ⟨g29, hF⟩ := ck_some hF
        cases hF
        exact mw_zret C dX12_aMachine_62 g29 rfl rfl
    · refine mw_if_ne_f (tgt := 42) C dX12_aMachine_33 (by decide) g6 c7 ?_
      refine mw_aload_n 1 C dX12_aMachine_36 rfl rfl ?_
      refine mw_iconst C dX12_aMachine_37 ?_
      obtain ⟨q30, hq30, hF⟩ := bind_some hF
      refine mw_callV (c := 141) [iv 2] [] C dX12_aMachine_38 (T_X12_fails (zl Z) (zX Z) 2 _ _ hq30) rfl zn141 zk141 (by decide) rfl wd1029 wd1030 wd1367 wd14 wd1031 hd_X12_fails rfl (by decide) (by decide) (Nat.le_of_ble_eq_true rfl) ⟨Nat.zero_le _, Nat.zero_le _⟩ ?_
      obtain ⟨g31, hF⟩ := ck_some hF
      cases hF
      exact mw_zret C dX12_aMachine_41 g31 rfl rfl
  · refine mw_icmp_ne_f (tgt := 23) C dX12_aMachine_13 (by decide) g2 (by decide) c3 ?_
    refine mw_aload_n 1 C dX12_aMachine_16 rfl rfl ?_
    refine mw_bipush C dX12_aMachine_17 bp_6 ?_
    obtain ⟨q32, hq32, hF⟩ := bind_some hF
    refine mw_callV (c := 141) [iv 6] [] C dX12_aMachine_19 (T_X12_fails (zl Z) (zX Z) 6 _ _ hq32) rfl zn141 zk141 (by decide) rfl wd1029 wd1030 wd1367 wd14 wd1031 hd_X12_fails rfl (by decide) (by decide) (Nat.le_of_ble_eq_true rfl) ⟨Nat.zero_le _, Nat.zero_le _⟩ ?_
    obtain ⟨g33, hF⟩ := ck_some hF
    cases hF
    exact mw_zret C dX12_aMachine_22 g33 rfl rfl
def F_X12_aMachine (h : MH) : Option (Int × MH) := F_X12_aMachine_0 h
theorem T_X12_aMachine (l : Launch) (X : XT) (h : MH) (t : (Int × MH)) (hF : F_X12_aMachine h = some t) : Ct l X yX12_aMachine cX12_aMachine 6 (some .boolean) 8 [rfv (xd X) 141] zN zG h (some (iv t.1)) zN zG t.2 0 0 := by
  refine Ct.head (by decide) (Nat.le_of_ble_eq_true rfl) (fun Z hX hl _ _ _ C => ?_)
  subst hX
  subst hl
  exact (T_X12_aMachine_0 C _ _ hF)
/-! BottleLineModel.aTable()Z -/
def F_X12_aTable_45 (h : MH) : Option (Int × MH) :=
  (F_X12_fails 5 h).bind fun q1 =>
  ck (q1.1 = 0 ∨ q1.1 = 1) <|
  some (q1.1, q1.2)
set_option maxRecDepth 100000 in
theorem T_X12_aTable_45 {Z : ZT} (C : Cx Z cX12_aTable 2 RX12 4 (some .boolean)) (h : MH) (t : (Int × MH)) (hF : F_X12_aTable_45 h = some t) : MW Z (Qm Z (some (iv t.1)) zN zG t.2 0 0) 2 zN zG h 0 0 45 [(0, rfv (xd (zX Z)) 141)] [] := by
  unfold F_X12_aTable_45 at hF
  refine mw_aload_n 0 C dX12_aTable_45 rfl rfl ?_
  refine mw_iconst C dX12_aTable_46 ?_
  obtain ⟨q1, hq1, hF⟩ := bind_some hF
  refine mw_callV (c := 141) [iv 5] [] C dX12_aTable_47 (T_X12_fails (zl Z) (zX Z) 5 _ _ hq1) rfl zn141 zk141 (by decide) rfl wd1029 wd1030 wd1367 wd14 wd1031 hd_X12_fails rfl (by decide) (by decide) (Nat.le_of_ble_eq_true rfl) ⟨Nat.zero_le _, Nat.zero_le _⟩ ?_
  obtain ⟨g2, hF⟩ := ck_some hF
  cases hF
  exact mw_zret C dX12_aTable_50 g2 rfl rfl
def F_X12_aTable_0 (h : MH) : Option (Int × MH) :=
  (F_X12_machineAt 1760 ((h 142 1760) - 1) h).bind fun q1 =>
  ck (in64 (q1.2 142 1760)) <|
  if (q1.2 142 1760) = 0 then
    F_X12_aTable_45 q1.2
  else
    ck (0 ≤ (q1.1 + 14) ∧ (q1.1 + 14) < 2640) <|
    ck (in64 (q1.2 142 (q1.1 + 14).toNat)) <|
    if (q1.2 142 (q1.1 + 14).toNat) ≠ 1 then
      nx (hup q1.2 142 (q1.1 + 14).toNat 1) fun h7 =>
      (F_X12_ahead h7).bind fun q8 =>
      (F_X12_number (q1.1 + 11) 0 999 q8).bind fun q9 =>
      ck (q9.1 = 0 ∨ q9.1 = 1) <|
      some (q9.1, q9.2)
    else
      F_X12_aTable_45 q1.2
set_option maxRecDepth 100000 in
theorem T_X12_aTable_0 {Z : ZT} (C : Cx Z cX12_aTable 2 RX12 4 (some .boolean)) (h : MH) (t : (Int × MH)) (hF : F_X12_aTable_0 h = some t) : MW Z (Qm Z (some (iv t.1)) zN zG t.2 0 0) 2 zN zG h 0 0 0 [(0, rfv (xd (zX Z)) 141)] [] := by
  unfold F_X12_aTable_0 at hF
  refine mw_sipush C dX12_aTable_0 sp_1760 ?_
  refine mw_aload_n 0 C dX12_aTable_3 rfl rfl ?_
  refine mw_get (k := 0) (T := TX12) (v := rfv (xd (zX Z)) 142) C dX12_aTable_4 zn141 zk141 (by decide) rfl inX12 (by decide) wd889 rfl (zfv_r rfl zg_141_0) ?_
  refine mw_sipush C dX12_aTable_7 sp_1760 ?_
  refine mw_lald C dX12_aTable_10 zn142 zk142 (by decide) (by decide) ?_
  refine mw_l2i C dX12_aTable_11 ?_
  refine mw_iconst C dX12_aTable_12 ?_
  refine mw_isub C dX12_aTable_13 ?_
  obtain ⟨q1, hq1, hF⟩ := bind_some hF
  refine mw_callS [iv 1760, iv ((h 142 1760) - 1)] [] C dX12_aTable_14 (T_X12_machineAt (zl Z) (zX Z) 1760 ((h 142 1760) - 1) _ _ hq1) rfl wd1041 wd1042 wd14 wd1043 hd_X12_machineAt rfl (by decide) (by decide) (Nat.le_of_ble_eq_true rfl) ⟨Nat.zero_le _, Nat.zero_le _⟩ ?_
  refine mw_istore_n [(1, iv q1.1), (0, rfv (xd (zX Z)) 141)] C dX12_aTable_17 rfl (by decide) rfl ?_
  refine mw_aload_n 1 C dX12_aTable_18 rfl rfl ?_
  refine mw_get (k := 0) (T := TX12) (v := rfv (xd (zX Z)) 142) C dX12_aTable_19 zn141 zk141 (by decide) rfl inX12 (by decide) wd889 rfl (zfv_r rfl zg_141_0) ?_
  refine mw_sipush C dX12_aTable_22 sp_1760 ?_
  refine mw_lald C dX12_aTable_25 zn142 zk142 (by decide) (by decide) ?_
  refine mw_lconst (a := 0) C dX12_aTable_26 lc_0 ?_
  obtain ⟨g2, hF⟩ := ck_some hF
  rcases ite_some hF with ⟨c3, hF⟩ | ⟨c3, hF⟩
  · refine mw_lcmp_eq_t (tgt := 45) C dX12_aTable_27 dX12_aTable_28 (by decide) g2 (by decide) c3 ?_
    refine mw_sub [1] rfl ?_
    exact T_X12_aTable_45 C _ _ hF
  · refine mw_lcmp_eq_f (tgt := 45) C dX12_aTable_27 dX12_aTable_28 (by decide) g2 (by decide) c3 ?_
    refine mw_aload_n 1 C dX12_aTable_31 rfl rfl ?_
    refine mw_get (k := 0) (T := TX12) (v := rfv (xd (zX Z)) 142) C dX12_aTable_32 zn141 zk141 (by decide) rfl inX12 (by decide) wd889 rfl (zfv_r rfl zg_141_0) ?_
    refine mw_iload_n 0 C dX12_aTable_35 rfl rfl ?_
    refine mw_bipush C dX12_aTable_36 bp_14 ?_
    refine mw_iadd C dX12_aTable_38 ?_
    obtain ⟨g4, hF⟩ := ck_some hF
    refine mw_lald C dX12_aTable_39 zn142 zk142 (by decide) g4 ?_
    refine mw_lconst (a := 1) C dX12_aTable_40 lc_1 ?_
    obtain ⟨g5, hF⟩ := ck_some hF
    rcases ite_some hF with ⟨c6, hF⟩ | ⟨c6, hF⟩
    · refine mw_lcmp_ne_t (tgt := 51) C dX12_aTable_41 dX12_aTable_42 (by decide) g5 (by decide) c6 ?_
      refine mw_aload_n 1 C dX12_aTable_51 rfl rfl ?_
      refine mw_get (k := 0) (T := TX12) (v := rfv (xd (zX Z)) 142) C dX12_aTable_52 zn141 zk141 (by decide) rfl inX12 (by decide) wd889 rfl (zfv_r rfl zg_141_0) ?_
      refine mw_iload_n 0 C dX12_aTable_55 rfl rfl ?_
      refine mw_bipush C dX12_aTable_56 bp_14 ?_
      refine mw_iadd C dX12_aTable_58 ?_
      refine mw_lconst (a := 1) C dX12_aTable_59 lc_1 ?_
      obtain ⟨h7, eh7, hF⟩ := nx_some hF
      refine mw_last C dX12_aTable_60 zn142 zk142 (by decide) g4 (mw_h eh7 ?_)
      refine mw_aload_n 1 C dX12_aTable_61 rfl rfl ?_
      obtain ⟨q8, hq8, hF⟩ := bind_some hF
      refine mw_callV (c := 141) [] [] C dX12_aTable_62 (T_X12_ahead (zl Z) (zX Z) _ _ hq8) rfl zn141 zk141 (by decide) rfl wd1003 wd1004 wd1362 wd14 wd1005 hd_X12_ahead rfl (by decide) (by decide) (Nat.le_of_ble_eq_true rfl) ⟨Nat.zero_le _, Nat.zero_le _⟩ ?_
      refine mw_aload_n 1 C dX12_aTable_65 rfl rfl ?_
      refine mw_iload_n 0 C dX12_aTable_66 rfl rfl ?_
      refine mw_bipush C dX12_aTable_67 bp_11 ?_
      refine mw_iadd C dX12_aTable_69 ?_
      refine mw_iconst C dX12_aTable_70 ?_
      refine mw_sipush C dX12_aTable_71 sp_999 ?_
      obtain ⟨q9, hq9, hF⟩ := bind_some hF
      refine mw_callV (c := 141) [iv (q1.1 + 11), iv 0, iv 999] [] C dX12_aTable_74 (T_X12_number (zl Z) (zX Z) (q1.1 + 11) 0 999 _ _ hq9) rfl zn141 zk141 (by decide) rfl wd1048 wd1049 wd1372 wd14 wd1050 hd_X12_number rfl (by decide) (by decide) (Nat.le_of_ble_eq_true rfl) ⟨Nat.zero_le _, Nat.zero_le _⟩ ?_
      obtain ⟨g10, hF⟩ := ck_some hF
      cases hF
      exact mw_zret C dX12_aTable_77 g10 rfl rfl
    · refine mw_lcmp_ne_f (tgt := 51) C dX12_aTable_41 dX12_aTable_42 (by decide) g5 (by decide) c6 ?_
      refine mw_sub [1] rfl ?_
      exact T_X12_aTable_45 C _ _ hF
def F_X12_aTable (h : MH) : Option (Int × MH) := F_X12_aTable_0 h
theorem T_X12_aTable (l : Launch) (X : XT) (h : MH) (t : (Int × MH)) (hF : F_X12_aTable h = some t) : Ct l X yX12_aTable cX12_aTable 2 (some .boolean) 4 [rfv (xd X) 141] zN zG h (some (iv t.1)) zN zG t.2 0 0 := by
  refine Ct.head (by decide) (Nat.le_of_ble_eq_true rfl) (fun Z hX hl _ _ _ C => ?_)
  subst hX
  subst hl
  exact (T_X12_aTable_0 C _ _ hF)
/-! BottleLineModel.aSort()Z -/
def F_X12_aSort_0 (h : MH) : Option (Int × MH) :=
  nx (h 142 1761) fun v1 =>
  ck (in32 v1) <|
  if v1 ≠ 7 then
    (F_X12_ahead h).bind fun q4 =>
    (F_X12_isName 19 q4).bind fun q5 =>
    ck (in32 q5.1) <|
    if q5.1 ≠ 0 then
      (F_X12_sortHere q5.2).bind fun q8 =>
      ck (in32 q8.1) <|
      if q8.1 = (-1) then
        (F_X12_nameHere q8.2).bind fun q11 =>
        ck (0 ≤ v1 ∧ v1 < 7) <|
        nx (hup q11.2 148 v1.toNat q11.1) fun h13 =>
        nx (hup h13 142 1761 ((h13 142 1761) + 1)) fun h14 =>
        (F_X12_ahead h14).bind fun q15 =>
        some (1, q15)
      else
        (F_X12_fails 3 q8.2).bind fun q16 =>
        ck (q16.1 = 0 ∨ q16.1 = 1) <|
        some (q16.1, q16.2)
    else
      (F_X12_fails 2 q5.2).bind fun q18 =>
      ck (q18.1 = 0 ∨ q18.1 = 1) <|
      some (q18.1, q18.2)
  else
    (F_X12_fails 6 h).bind fun q20 =>
    ck (q20.1 = 0 ∨ q20.1 = 1) <|
    some (q20.1, q20.2)
set_option maxRecDepth 100000 in
theorem T_X12_aSort_0 {Z : ZT} (C : Cx Z cX12_aSort 2 RX12 8 (some .boolean)) (h : MH) (t : (Int × MH)) (hF : F_X12_aSort_0 h = some t) : MW Z (Qm Z (some (iv t.1)) zN zG t.2 0 0) 2 zN zG h 0 0 0 [(0, rfv (xd (zX Z)) 141)] [] := by
  unfold F_X12_aSort_0 at hF
  refine mw_aload_n 0 C dX12_aSort_0 rfl rfl ?_
  refine mw_get (k := 0) (T := TX12) (v := rfv (xd (zX Z)) 142) C dX12_aSort_1 zn141 zk141 (by decide) rfl inX12 (by decide) wd889 rfl (zfv_r rfl zg_141_0) ?_
  refine mw_sipush C dX12_aSort_4 sp_1761 ?_
  refine mw_lald C dX12_aSort_7 zn142 zk142 (by decide) (by decide) ?_
  refine mw_l2i C dX12_aSort_8 ?_
  obtain ⟨v1, ev1, hF⟩ := nx_some hF
  refine mw_ti ev1 ?_
  refine mw_istore_n [(1, iv v1), (0, rfv (xd (zX Z)) 141)] C dX12_aSort_9 rfl (by decide) rfl ?_
  refine mw_iload_n 0 C dX12_aSort_10 rfl rfl ?_
  refine mw_bipush C dX12_aSort_11 bp_7 ?_
  obtain ⟨g2, hF⟩ := ck_some hF
  rcases ite_some hF with ⟨c3, hF⟩ | ⟨c3, hF⟩
  · refine mw_icmp_ne_t (tgt := 23) C dX12_aSort_13 (by decide) g2 (by decide) c3 ?_
    refine mw_aload_n 1 C dX12_aSort_23 rfl rfl ?_
    obtain ⟨q4, hq4, hF⟩ := bind_some hF
    refine mw_callV (c := 141) [] [] C dX12_aSort_24 (T_X12_ahead (zl Z) (zX Z) _ _ hq4) rfl zn141 zk141 (by decide) rfl wd1003 wd1004 wd1362 wd14 wd1005 hd_X12_ahead rfl (by decide) (by decide) (Nat.le_of_ble_eq_true rfl) ⟨Nat.zero_le _, Nat.zero_le _⟩ ?_
    refine mw_aload_n 1 C dX12_aSort_27 rfl rfl ?_
    refine mw_ldcS 19 (by decide) rfl rfl C dX12_aSort_28 ?_
    obtain ⟨q5, hq5, hF⟩ := bind_some hF
    refine mw_callV (c := 141) [.ref (xa (zX Z) 19)] [] C dX12_aSort_30 (T_X12_isName (zl Z) (zX Z) 19 (by decide) _ _ hq5) rfl zn141 zk141 (by decide) rfl wd1032 wd1033 wd1368 wd14 wd1034 hd_X12_isName rfl (by decide) (by decide) (Nat.le_of_ble_eq_true rfl) ⟨Nat.zero_le _, Nat.zero_le _⟩ ?_
    obtain ⟨g6, hF⟩ := ck_some hF
    rcases ite_some hF with ⟨c7, hF⟩ | ⟨c7, hF⟩
    · refine mw_if_ne_t (tgt := 42) C dX12_aSort_33 (by decide) g6 c7 ?_
      refine mw_aload_n 1 C dX12_aSort_42 rfl rfl ?_
      obtain ⟨q8, hq8, hF⟩ := bind_some hF
      refine mw_callV (c := 141) [] [] C dX12_aSort_43 (T_X12_sortHere (zl Z) (zX Z) _ _ hq8) rfl zn141 zk141 (by decide) rfl wd1057 wd1058 wd1375 wd14 wd1059 hd_X12_sortHere rfl (by decide) (by decide) (Nat.le_of_ble_eq_true rfl) ⟨Nat.zero_le _, Nat.zero_le _⟩ ?_
      refine mw_iconst C dX12_aSort_46 ?_
      obtain ⟨g9, hF⟩ := ck_some hF
      rcases ite_some hF with ⟨c10, hF⟩ | ⟨c10, hF⟩
      · refine mw_icmp_eq_t (tgt := 56) C dX12_aSort_47 (by decide) g9 (by decide) c10 ?_
        refine mw_aload_n 1 C dX12_aSort_56 rfl rfl ?_
        refine mw_get (k := 18) (T := TX12) (v := rfv (xd (zX Z)) 148) C dX12_aSort_57 zn141 zk141 (by decide) rfl inX12 (by decide) wd907 rfl (zfv_r rfl zg_141_18) ?_
        refine mw_iload_n 0 C dX12_aSort_60 rfl rfl ?_
        refine mw_aload_n 1 C dX12_aSort_61 rfl rfl ?_
        obtain ⟨q11, hq11, hF⟩ := bind_some hF
        refine mw_callV (c := 141) [] [iv v1, rfv (xd (zX Z)) 148] C dX12_aSort_62 (T_X12_nameHere (zl Z) (zX Z) _ _ hq11) rfl zn141 zk141 (by decide) rfl wd1035 wd1036 wd1369 wd14 wd1037 hd_X12_nameHere rfl (by decide) (by decide) (Nat.le_of_ble_eq_true rfl) ⟨Nat.zero_le _, Nat.zero_le _⟩ ?_
        obtain ⟨g12, hF⟩ := ck_some hF
        obtain ⟨h13, eh13, hF⟩ := nx_some hF
        refine mw_last C dX12_aSort_65 zn148 zk148 (by decide) g12 (mw_h eh13 ?_)
        refine mw_aload_n 1 C dX12_aSort_66 rfl rfl ?_
        refine mw_get (k := 0) (T := TX12) (v := rfv (xd (zX Z)) 142) C dX12_aSort_67 zn141 zk141 (by decide) rfl inX12 (by decide) wd889 rfl (zfv_r rfl zg_141_0) ?_
        refine mw_sipush C dX12_aSort_70 sp_1761 ?_
        refine mw_dup2 C dX12_aSort_73 rfl rfl ?_
        refine mw_lald C dX12_aSort_74 zn142 zk142 (by decide) (by decide) ?_
        refine mw_lconst (a := 1) C dX12_aSort_75 lc_1 ?_
        refine mw_ladd C dX12_aSort_76 ?_
        obtain ⟨h14, eh14, hF⟩ := nx_some hF
        refine mw_last C dX12_aSort_77 zn142 zk142 (by decide) (by decide) (mw_h eh14 ?_)
        refine mw_aload_n 1 C dX12_aSort_78 rfl rfl ?_
        obtain ⟨q15, hq15, hF⟩ := bind_some hF
        refine mw_callV (c := 141) [] [] C dX12_aSort_79 (T_X12_ahead (zl Z) (zX Z) _ _ hq15) rfl zn141 zk141 (by decide) rfl wd1003 wd1004 wd1362 wd14 wd1005 hd_X12_ahead rfl (by decide) (by decide) (Nat.le_of_ble_eq_true rfl) ⟨Nat.zero_le _, Nat.zero_le _⟩ ?_
        refine mw_iconst C dX12_aSort_82 ?_
        cases hF
        exact mw_zret C dX12_aSort_83 (Or.inr rfl) rfl rfl
      · refine mw_icmp_eq_f (tgt := 56) C dX12_aSort_47 (by decide) g9 (by decide) c10 ?_
        refine mw_aload_n 1 C dX12_aSort_50 rfl rfl ?_
        refine mw_iconst C dX12_aSort_51 ?_
        obtain ⟨q16, hq16, hF⟩ := bind_some hF
        refine mw_callV (c := 141) [iv 3] [] C dX12_aSort_52 (T_X12_fails (zl Z) (zX Z) 3 _ _ hq16) rfl zn141 zk141 (by decide) rfl wd1029 wd1030 wd1367 wd14 wd1031 hd_X12_fails rfl (by decide) (by decide) (Nat.le_of_ble_eq_true rfl) ⟨Nat.zero_le _, Nat.zero_le _⟩ ?_
        obtain ⟨g17, hF⟩ := ck_some hF
        cases hF
        exact mw_zret C dX12_aSort_55 g17 rfl rfl
    · refine mw_if_ne_f (tgt := 42) C dX12_aSort_33 (by decide) g6 c7 ?_
      refine mw_aload_n 1 C dX12_aSort_36 rfl rfl ?_
      refine mw_iconst C dX12_aSort_37 ?_
      obtain ⟨q18, hq18, hF⟩ := bind_some hF
      refine mw_callV (c := 141) [iv 2] [] C dX12_aSort_38 (T_X12_fails (zl Z) (zX Z) 2 _ _ hq18) rfl zn141 zk141 (by decide) rfl wd1029 wd1030 wd1367 wd14 wd1031 hd_X12_fails rfl (by decide) (by decide) (Nat.le_of_ble_eq_true rfl) ⟨Nat.zero_le _, Nat.zero_le _⟩ ?_
      obtain ⟨g19, hF⟩ := ck_some hF
      cases hF
      exact mw_zret C dX12_aSort_41 g19 rfl rfl
  · refine mw_icmp_ne_f (tgt := 23) C dX12_aSort_13 (by decide) g2 (by decide) c3 ?_
    refine mw_aload_n 1 C dX12_aSort_16 rfl rfl ?_
    refine mw_bipush C dX12_aSort_17 bp_6 ?_
    obtain ⟨q20, hq20, hF⟩ := bind_some hF
    refine mw_callV (c := 141) [iv 6] [] C dX12_aSort_19 (T_X12_fails (zl Z) (zX Z) 6 _ _ hq20) rfl zn141 zk141 (by decide) rfl wd1029 wd1030 wd1367 wd14 wd1031 hd_X12_fails rfl (by decide) (by decide) (Nat.le_of_ble_eq_true rfl) ⟨Nat.zero_le _, Nat.zero_le _⟩ ?_
    obtain ⟨g21, hF⟩ := ck_some hF
    cases hF
    exact mw_zret C dX12_aSort_22 g21 rfl rfl
def F_X12_aSort (h : MH) : Option (Int × MH) := F_X12_aSort_0 h
theorem T_X12_aSort (l : Launch) (X : XT) (h : MH) (t : (Int × MH)) (hF : F_X12_aSort h = some t) : Ct l X yX12_aSort cX12_aSort 2 (some .boolean) 8 [rfv (xd X) 141] zN zG h (some (iv t.1)) zN zG t.2 0 0 := by
  refine Ct.head (by decide) (Nat.le_of_ble_eq_true rfl) (fun Z hX hl _ _ _ C => ?_)
  subst hX
  subst hl
  exact (T_X12_aSort_0 C _ _ hF)
/-! BottleLineModel.aWash()Z -/
def F_X12_aWash_82 (k10 : Int → Int → Int → MH → Option (Int × MH)) (x2 : Int) (x3 : Int) (x4 : Int) (h : MH) : Option (Int × MH) :=
  (F_X12_ahead h).bind fun q1 =>
  k10 x4 x2 (x3 + 1) q1
set_option maxRecDepth 100000 in
theorem T_X12_aWash_82 {Z : ZT} (C : Cx Z cX12_aWash 5 RX12 8 (some .boolean)) (k10 : Int → Int → Int → MH → Option (Int × MH)) (hk10 : ∀ (x1 : Int) (x2 : Int) (x3 : Int) (h : MH) (t : (Int × MH)), k10 x1 x2 x3 h = some t → MW Z (Qm Z (some (iv t.1)) zN zG t.2 0 0) 5 zN zG h 0 0 10 [(0, rfv (xd (zX Z)) 141), (1, iv x1), (2, iv x2), (3, iv x3)] []) (x2 : Int) (x3 : Int) (x4 : Int) (h : MH) (t : (Int × MH)) (hF : F_X12_aWash_82 k10 x2 x3 x4 h = some t) : MW Z (Qm Z (some (iv t.1)) zN zG t.2 0 0) 5 zN zG h 0 0 82 [(0, rfv (xd (zX Z)) 141), (2, iv x2), (3, iv x3), (4, iv x4)] [] := by
  unfold F_X12_aWash_82 at hF
  refine mw_iload 3 C dX12_aWash_82 rfl ?_
  refine mw_istore_n [(1, iv x4), (0, rfv (xd (zX Z)) 141), (2, iv x2), (3, iv x3), (4, iv x4)] C dX12_aWash_84 rfl (by decide) rfl ?_
  refine mw_aload_n 1 C dX12_aWash_85 rfl rfl ?_
  obtain ⟨q1, hq1, hF⟩ := bind_some hF
  refine mw_callV (c := 141) [] [] C dX12_aWash_86 (T_X12_ahead (zl Z) (zX Z) _ _ hq1) rfl zn141 zk141 (by decide) rfl wd1003 wd1004 wd1362 wd14 wd1005 hd_X12_ahead rfl (by decide) (by decide) (Nat.le_of_ble_eq_true rfl) ⟨Nat.zero_le _, Nat.zero_le _⟩ ?_
  refine mw_iinc 3 [(3, iv (x3 + 1)), (1, iv x4), (0, rfv (xd (zX Z)) 141), (2, iv x2), (4, iv x4)] C dX12_aWash_89 rfl (by decide) rfl ?_
  refine mw_goto (tgt := 10) C dX12_aWash_92 (by decide) ?_
  refine mw_sub [2, 1, 3, 0] rfl ?_
  exact hk10 x4 x2 (x3 + 1) _ _ hF
def F_X12_aWash_76 (h : MH) : Option (Int × MH) :=
  (F_X12_fails 5 h).bind fun q1 =>
  ck (q1.1 = 0 ∨ q1.1 = 1) <|
  some (q1.1, q1.2)
set_option maxRecDepth 100000 in
theorem T_X12_aWash_76 {Z : ZT} (C : Cx Z cX12_aWash 5 RX12 8 (some .boolean)) (h : MH) (t : (Int × MH)) (hF : F_X12_aWash_76 h = some t) : MW Z (Qm Z (some (iv t.1)) zN zG t.2 0 0) 5 zN zG h 0 0 76 [(0, rfv (xd (zX Z)) 141)] [] := by
  unfold F_X12_aWash_76 at hF
  refine mw_aload_n 0 C dX12_aWash_76 rfl rfl ?_
  refine mw_iconst C dX12_aWash_77 ?_
  obtain ⟨q1, hq1, hF⟩ := bind_some hF
  refine mw_callV (c := 141) [iv 5] [] C dX12_aWash_78 (T_X12_fails (zl Z) (zX Z) 5 _ _ hq1) rfl zn141 zk141 (by decide) rfl wd1029 wd1030 wd1367 wd14 wd1031 hd_X12_fails rfl (by decide) (by decide) (Nat.le_of_ble_eq_true rfl) ⟨Nat.zero_le _, Nat.zero_le _⟩ ?_
  obtain ⟨g2, hF⟩ := ck_some hF
  cases hF
  exact mw_zret C dX12_aWash_81 g2 rfl rfl
def F_X12_aWash_10 : Nat → Int → Int → Int → MH → Option (Int × MH)
  | 0, _, _, _, _ => none
  | n + 1, x1, x2, x3, h =>
    ck (in32 x3) <|
    if 2 ≤ x3 then
      ck (0 ≤ x2 ∧ x2 < 49) <|
      nx (hup h 149 x2.toNat 1) fun h4 =>
      (F_X12_number (1900 + x2) 0 999 h4).bind fun q5 =>
      ck (q5.1 = 0 ∨ q5.1 = 1) <|
      some (q5.1, q5.2)
    else
      (F_X12_isName 19 h).bind fun q7 =>
      ck (in32 q7.1) <|
      if q7.1 ≠ 0 then
        (F_X12_sortHere q7.2).bind fun q10 =>
        ck (in32 q10.1) <|
        if q10.1 ≠ (-1) then
          nx ((7 * x1) + q10.1) fun v13 =>
          if x3 ≠ 1 then
            F_X12_aWash_82 (F_X12_aWash_10 n) v13 x3 q10.1 q10.2
          else
            ck (in32 x1) <|
            if q10.1 = x1 then
              F_X12_aWash_76 q10.2
            else
              ck (0 ≤ v13 ∧ v13 < 49) <|
              ck (in32 (q10.2 149 v13.toNat)) <|
              if (q10.2 149 v13.toNat) = 0 then
                F_X12_aWash_82 (F_X12_aWash_10 n) v13 x3 q10.1 q10.2
              else
                F_X12_aWash_76 q10.2
        else
          (F_X12_fails 3 q10.2).bind fun q20 =>
          ck (q20.1 = 0 ∨ q20.1 = 1) <|
          some (q20.1, q20.2)
      else
        (F_X12_fails 2 q7.2).bind fun q22 =>
        ck (q22.1 = 0 ∨ q22.1 = 1) <|
        some (q22.1, q22.2)
set_option maxRecDepth 100000 in
theorem T_X12_aWash_10 {Z : ZT} (C : Cx Z cX12_aWash 5 RX12 8 (some .boolean)) : ∀ (n : Nat) (x1 : Int) (x2 : Int) (x3 : Int) (h : MH) (t : (Int × MH)), F_X12_aWash_10 n x1 x2 x3 h = some t → MW Z (Qm Z (some (iv t.1)) zN zG t.2 0 0) 5 zN zG h 0 0 10 [(0, rfv (xd (zX Z)) 141), (1, iv x1), (2, iv x2), (3, iv x3)] [] := by
  intro n
  induction n with
  | zero =>
    intros
    rename_i hF
    exact absurd hF (by intro q; cases q)
  | succ n ih =>
    intro x1 x2 x3 h t hF
    rw [F_X12_aWash_10] at hF
    refine mw_iload_n 3 C dX12_aWash_10 rfl rfl ?_
    refine mw_iconst C dX12_aWash_11 ?_
    obtain ⟨g1, hF⟩ := ck_some hF
    rcases ite_some hF with ⟨c2, hF⟩ | ⟨c2, hF⟩
    · refine mw_icmp_ge_t (tgt := 95) C dX12_aWash_12 (by decide) g1 (by decide) c2 ?_
      refine mw_aload_n 0 C dX12_aWash_95 rfl rfl ?_
      refine mw_get (k := 19) (T := TX12) (v := rfv (xd (zX Z)) 149) C dX12_aWash_96 zn141 zk141 (by decide) rfl inX12 (by decide) wd908 rfl (zfv_r rfl zg_141_19) ?_
      refine mw_iload_n 2 C dX12_aWash_99 rfl rfl ?_
      refine mw_iconst C dX12_aWash_100 ?_
      obtain ⟨g3, hF⟩ := ck_some hF
      obtain ⟨h4, eh4, hF⟩ := nx_some hF
      refine mw_zast C dX12_aWash_101 zn149 zk149 (by decide) g3 (Or.inr rfl) (mw_h eh4 ?_)
      refine mw_aload_n 0 C dX12_aWash_102 rfl rfl ?_
      refine mw_sipush C dX12_aWash_103 sp_1900 ?_
      refine mw_iload_n 2 C dX12_aWash_106 rfl rfl ?_
      refine mw_iadd C dX12_aWash_107 ?_
      refine mw_iconst C dX12_aWash_108 ?_
      refine mw_sipush C dX12_aWash_109 sp_999 ?_
      obtain ⟨q5, hq5, hF⟩ := bind_some hF
      refine mw_callV (c := 141) [iv (1900 + x2), iv 0, iv 999] [] C dX12_aWash_112 (T_X12_number (zl Z) (zX Z) (1900 + x2) 0 999 _ _ hq5) rfl zn141 zk141 (by decide) rfl wd1048 wd1049 wd1372 wd14 wd1050 hd_X12_number rfl (by decide) (by decide) (Nat.le_of_ble_eq_true rfl) ⟨Nat.zero_le _, Nat.zero_le _⟩ ?_
      obtain ⟨g6, hF⟩ := ck_some hF
      cases hF
      exact mw_zret C dX12_aWash_115 g6 rfl rfl
    · refine mw_icmp_ge_f (tgt := 95) C dX12_aWash_12 (by decide) g1 (by decide) c2 ?_
      refine mw_aload_n 0 C dX12_aWash_15 rfl rfl ?_
      refine mw_ldcS 19 (by decide) rfl rfl C dX12_aWash_16 ?_
      obtain ⟨q7, hq7, hF⟩ := bind_some hF
      refine mw_callV (c := 141) [.ref (xa (zX Z) 19)] [] C dX12_aWash_18 (T_X12_isName (zl Z) (zX Z) 19 (by decide) _ _ hq7) rfl zn141 zk141 (by decide) rfl wd1032 wd1033 wd1368 wd14 wd1034 hd_X12_isName rfl (by decide) (by decide) (Nat.le_of_ble_eq_true rfl) ⟨Nat.zero_le _, Nat.zero_le _⟩ ?_
      obtain ⟨g8, hF⟩ := ck_some hF
      rcases ite_some hF with ⟨c9, hF⟩ | ⟨c9, hF⟩
      · refine mw_if_ne_t (tgt := 30) C dX12_aWash_21 (by decide) g8 c9 ?_
        refine mw_aload_n 0 C dX12_aWash_30 rfl rfl ?_
        obtain ⟨q10, hq10, hF⟩ := bind_some hF
        refine mw_callV (c := 141) [] [] C dX12_aWash_31 (T_X12_sortHere (zl Z) (zX Z) _ _ hq10) rfl zn141 zk141 (by decide) rfl wd1057 wd1058 wd1375 wd14 wd1059 hd_X12_sortHere rfl (by decide) (by decide) (Nat.le_of_ble_eq_true rfl) ⟨Nat.zero_le _, Nat.zero_le _⟩ ?_
        refine mw_istore [(4, iv q10.1), (0, rfv (xd (zX Z)) 141), (1, iv x1), (2, iv x2), (3, iv x3)] C dX12_aWash_34 (by decide) rfl ?_
        refine mw_iload 0 C dX12_aWash_36 rfl ?_
        refine mw_iconst C dX12_aWash_38 ?_
        obtain ⟨g11, hF⟩ := ck_some hF
        rcases ite_some hF with ⟨c12, hF⟩ | ⟨c12, hF⟩
        · refine mw_icmp_ne_t (tgt := 48) C dX12_aWash_39 (by decide) g11 (by decide) c12 ?_
          refine mw_bipush C dX12_aWash_48 bp_7 ?_
          refine mw_iload_n 2 C dX12_aWash_50 rfl rfl ?_
          refine mw_imul C dX12_aWash_51 ?_
          refine mw_iload 0 C dX12_aWash_52 rfl ?_
          refine mw_iadd C dX12_aWash_54 ?_
          obtain ⟨v13, ev13, hF⟩ := nx_some hF
          refine mw_ti ev13 ?_
          refine mw_istore_n [(2, iv v13), (4, iv q10.1), (0, rfv (xd (zX Z)) 141), (1, iv x1), (3, iv x3)] C dX12_aWash_55 rfl (by decide) rfl ?_
          refine mw_iload_n 4 C dX12_aWash_56 rfl rfl ?_
          refine mw_iconst C dX12_aWash_57 ?_
          rcases ite_some hF with ⟨c14, hF⟩ | ⟨c14, hF⟩
          · refine mw_icmp_ne_t (tgt := 82) C dX12_aWash_58 (by decide) g1 (by decide) c14 ?_
            refine mw_sub [2, 0, 4, 1] rfl ?_
            exact T_X12_aWash_82 C (F_X12_aWash_10 n) ih v13 x3 q10.1 _ _ hF
          · refine mw_icmp_ne_f (tgt := 82) C dX12_aWash_58 (by decide) g1 (by decide) c14 ?_
            refine mw_iload 1 C dX12_aWash_61 rfl ?_
            refine mw_iload_n 3 C dX12_aWash_63 rfl rfl ?_
            obtain ⟨g15, hF⟩ := ck_some hF
            rcases ite_some hF with ⟨c16, hF⟩ | ⟨c16, hF⟩
            · refine mw_icmp_eq_t (tgt := 76) C dX12_aWash_64 (by decide) g11 g15 c16 ?_
              refine mw_sub [2] rfl ?_
              exact T_X12_aWash_76 C _ _ hF
            · refine mw_icmp_eq_f (tgt := 76) C dX12_aWash_64 (by decide) g11 g15 c16 ?_
              refine mw_aload_n 2 C dX12_aWash_67 rfl rfl ?_
              refine mw_get (k := 19) (T := TX12) (v := rfv (xd (zX Z)) 149) C dX12_aWash_68 zn141 zk141 (by decide) rfl inX12 (by decide) wd908 rfl (zfv_r rfl zg_141_19) ?_
              refine mw_iload_n 0 C dX12_aWash_71 rfl rfl ?_
              obtain ⟨g17, hF⟩ := ck_some hF
              refine mw_zald C dX12_aWash_72 zn149 zk149 (by decide) g17 ?_
              obtain ⟨g18, hF⟩ := ck_some hF
              rcases ite_some hF with ⟨c19, hF⟩ | ⟨c19, hF⟩
              · refine mw_if_eq_t (tgt := 82) C dX12_aWash_73 (by decide) g18 c19 ?_
                refine mw_sub [2, 0, 4, 1] rfl ?_
                exact T_X12_aWash_82 C (F_X12_aWash_10 n) ih v13 x3 q10.1 _ _ hF
              · refine mw_if_eq_f (tgt := 82) C dX12_aWash_73 (by decide) g18 c19 ?_
                refine mw_sub [2] rfl ?_
                exact T_X12_aWash_76 C _ _ hF
        · refine mw_icmp_ne_f (tgt := 48) C dX12_aWash_39 (by decide) g11 (by decide) c12 ?_
          refine mw_aload_n 1 C dX12_aWash_42 rfl rfl ?_
          refine mw_iconst C dX12_aWash_43 ?_
          obtain ⟨q20, hq20, hF⟩ := bind_some hF
          refine mw_callV (c := 141) [iv 3] [] C dX12_aWash_44 (T_X12_fails (zl Z) (zX Z) 3 _ _ hq20) rfl zn141 zk141 (by decide) rfl wd1029 wd1030 wd1367 wd14 wd1031 hd_X12_fails rfl (by decide) (by decide) (Nat.le_of_ble_eq_true rfl) ⟨Nat.zero_le _, Nat.zero_le _⟩ ?_
          obtain ⟨g21, hF⟩ := ck_some hF
          cases hF
          exact mw_zret C dX12_aWash_47 g21 rfl rfl
      · refine mw_if_ne_f (tgt := 30) C dX12_aWash_21 (by decide) g8 c9 ?_
        refine mw_aload_n 0 C dX12_aWash_24 rfl rfl ?_
        refine mw_iconst C dX12_aWash_25 ?_
        obtain ⟨q22, hq22, hF⟩ := bind_some hF
        refine mw_callV (c := 141) [iv 2] [] C dX12_aWash_26 (T_X12_fails (zl Z) (zX Z) 2 _ _ hq22) rfl zn141 zk141 (by decide) rfl wd1029 wd1030 wd1367 wd14 wd1031 hd_X12_fails rfl (by decide) (by decide) (Nat.le_of_ble_eq_true rfl) ⟨Nat.zero_le _, Nat.zero_le _⟩ ?_
        obtain ⟨g23, hF⟩ := ck_some hF
        cases hF
        exact mw_zret C dX12_aWash_29 g23 rfl rfl
def F_X12_aWash_0 (h : MH) : Option (Int × MH) :=
  (F_X12_ahead h).bind fun q1 =>
  F_X12_aWash_10 20000 (-1) 0 0 q1
set_option maxRecDepth 100000 in
theorem T_X12_aWash_0 {Z : ZT} (C : Cx Z cX12_aWash 5 RX12 8 (some .boolean)) (h : MH) (t : (Int × MH)) (hF : F_X12_aWash_0 h = some t) : MW Z (Qm Z (some (iv t.1)) zN zG t.2 0 0) 5 zN zG h 0 0 0 [(0, rfv (xd (zX Z)) 141)] [] := by
  unfold F_X12_aWash_0 at hF
  refine mw_aload_n 0 C dX12_aWash_0 rfl rfl ?_
  obtain ⟨q1, hq1, hF⟩ := bind_some hF
  refine mw_callV (c := 141) [] [] C dX12_aWash_1 (T_X12_ahead (zl Z) (zX Z) _ _ hq1) rfl zn141 zk141 (by decide) rfl wd1003 wd1004 wd1362 wd14 wd1005 hd_X12_ahead rfl (by decide) (by decide) (Nat.le_of_ble_eq_true rfl) ⟨Nat.zero_le _, Nat.zero_le _⟩ ?_
  refine mw_iconst C dX12_aWash_4 ?_
  refine mw_istore_n [(1, iv (-1)), (0, rfv (xd (zX Z)) 141)] C dX12_aWash_5 rfl (by decide) rfl ?_
  refine mw_iconst C dX12_aWash_6 ?_
  refine mw_istore_n [(2, iv 0), (1, iv (-1)), (0, rfv (xd (zX Z)) 141)] C dX12_aWash_7 rfl (by decide) rfl ?_
  refine mw_iconst C dX12_aWash_8 ?_
  refine mw_istore_n [(3, iv 0), (2, iv 0), (1, iv (-1)), (0, rfv (xd (zX Z)) 141)] C dX12_aWash_9 rfl (by decide) rfl ?_
  refine mw_sub [3, 2, 1, 0] rfl ?_
  exact T_X12_aWash_10 C 20000 (-1) 0 0 _ _ hF
def F_X12_aWash (h : MH) : Option (Int × MH) := F_X12_aWash_0 h
theorem T_X12_aWash (l : Launch) (X : XT) (h : MH) (t : (Int × MH)) (hF : F_X12_aWash h = some t) : Ct l X yX12_aWash cX12_aWash 5 (some .boolean) 8 [rfv (xd X) 141] zN zG h (some (iv t.1)) zN zG t.2 0 0 := by
  refine Ct.head (by decide) (Nat.le_of_ble_eq_true rfl) (fun Z hX hl _ _ _ C => ?_)
  subst hX
  subst hl
  exact (T_X12_aWash_0 C _ _ hF)
/-! BottleLineModel.part()Z -/
def F_X12_part_59 (s0 : Int) (h : MH) : Option (Int × MH) :=
  ck (in32 s0) <|
  if s0 = 0 then
    some (0, h)
  else
    (F_X12_ends h).bind fun q3 =>
    ck (in32 q3.1) <|
    if q3.1 = 0 then
      some (0, q3.2)
    else
      some (1, q3.2)
set_option maxRecDepth 100000 in
theorem T_X12_part_59 {Z : ZT} (C : Cx Z cX12_part 3 RX12 9 (some .boolean)) (s0 : Int) (h : MH) (t : (Int × MH)) (hF : F_X12_part_59 s0 h = some t) : MW Z (Qm Z (some (iv t.1)) zN zG t.2 0 0) 3 zN zG h 0 0 59 [(0, rfv (xd (zX Z)) 141)] [iv s0] := by
  unfold F_X12_part_59 at hF
  refine mw_istore_n [(2, iv s0), (0, rfv (xd (zX Z)) 141)] C dX12_part_59 rfl (by decide) rfl ?_
  refine mw_iload_n 0 C dX12_part_60 rfl rfl ?_
  obtain ⟨g1, hF⟩ := ck_some hF
  rcases ite_some hF with ⟨c2, hF⟩ | ⟨c2, hF⟩
  · refine mw_if_eq_t (tgt := 75) C dX12_part_61 (by decide) g1 c2 ?_
    refine mw_iconst C dX12_part_75 ?_
    cases hF
    exact mw_zret C dX12_part_76 (Or.inl rfl) rfl rfl
  · refine mw_if_eq_f (tgt := 75) C dX12_part_61 (by decide) g1 c2 ?_
    refine mw_aload_n 1 C dX12_part_64 rfl rfl ?_
    obtain ⟨q3, hq3, hF⟩ := bind_some hF
    refine mw_callV (c := 141) [] [] C dX12_part_65 (T_X12_ends (zl Z) (zX Z) _ _ hq3) rfl zn141 zk141 (by decide) rfl wd1063 wd1064 wd1377 wd14 wd1065 hd_X12_ends rfl (by decide) (by decide) (Nat.le_of_ble_eq_true rfl) ⟨Nat.zero_le _, Nat.zero_le _⟩ ?_
    obtain ⟨g4, hF⟩ := ck_some hF
    rcases ite_some hF with ⟨c5, hF⟩ | ⟨c5, hF⟩
    · refine mw_if_eq_t (tgt := 75) C dX12_part_68 (by decide) g4 c5 ?_
      refine mw_iconst C dX12_part_75 ?_
      cases hF
      exact mw_zret C dX12_part_76 (Or.inl rfl) rfl rfl
    · refine mw_if_eq_f (tgt := 75) C dX12_part_68 (by decide) g4 c5 ?_
      refine mw_iconst C dX12_part_71 ?_
      refine mw_goto (tgt := 76) C dX12_part_72 (by decide) ?_
      cases hF
      exact mw_zret C dX12_part_76 (Or.inr rfl) rfl rfl
def F_X12_part_0 (h : MH) : Option (Int × MH) :=
  (F_X12_inWords 19 h).bind fun q1 =>
  ck (in32 q1.1) <|
  if q1.1 ≠ 0 then
    if q1.1 ≠ 1 then
      if q1.1 ≠ 2 then
        if q1.1 ≠ 3 then
          (F_X12_fails 2 q1.2).bind fun q7 =>
          F_X12_part_59 q7.1 q7.2
        else
          (F_X12_aWash q1.2).bind fun q8 =>
          F_X12_part_59 q8.1 q8.2
      else
        (F_X12_aSort q1.2).bind fun q9 =>
        F_X12_part_59 q9.1 q9.2
    else
      (F_X12_aTable q1.2).bind fun q10 =>
      F_X12_part_59 q10.1 q10.2
  else
    (F_X12_aMachine q1.2).bind fun q11 =>
    F_X12_part_59 q11.1 q11.2
set_option maxRecDepth 100000 in
theorem T_X12_part_0 {Z : ZT} (C : Cx Z cX12_part 3 RX12 9 (some .boolean)) (h : MH) (t : (Int × MH)) (hF : F_X12_part_0 h = some t) : MW Z (Qm Z (some (iv t.1)) zN zG t.2 0 0) 3 zN zG h 0 0 0 [(0, rfv (xd (zX Z)) 141)] [] := by
  unfold F_X12_part_0 at hF
  refine mw_aload_n 0 C dX12_part_0 rfl rfl ?_
  refine mw_ldcS 19 (by decide) rfl rfl C dX12_part_1 ?_
  obtain ⟨q1, hq1, hF⟩ := bind_some hF
  refine mw_callV (c := 141) [.ref (xa (zX Z) 19)] [] C dX12_part_3 (T_X12_inWords (zl Z) (zX Z) 19 (by decide) _ _ hq1) rfl zn141 zk141 (by decide) rfl wd1021 wd1022 wd1365 wd14 wd1023 hd_X12_inWords rfl (by decide) (by decide) (Nat.le_of_ble_eq_true rfl) ⟨Nat.zero_le _, Nat.zero_le _⟩ ?_
  refine mw_istore_n [(1, iv q1.1), (0, rfv (xd (zX Z)) 141)] C dX12_part_6 rfl (by decide) rfl ?_
  refine mw_iload_n 0 C dX12_part_7 rfl rfl ?_
  obtain ⟨g2, hF⟩ := ck_some hF
  rcases ite_some hF with ⟨c3, hF⟩ | ⟨c3, hF⟩
  · refine mw_if_ne_t (tgt := 18) C dX12_part_8 (by decide) g2 c3 ?_
    refine mw_iload_n 0 C dX12_part_18 rfl rfl ?_
    refine mw_iconst C dX12_part_19 ?_
    rcases ite_some hF with ⟨c4, hF⟩ | ⟨c4, hF⟩
    · refine mw_icmp_ne_t (tgt := 30) C dX12_part_20 (by decide) g2 (by decide) c4 ?_
      refine mw_iload_n 0 C dX12_part_30 rfl rfl ?_
      refine mw_iconst C dX12_part_31 ?_
      rcases ite_some hF with ⟨c5, hF⟩ | ⟨c5, hF⟩
      · refine mw_icmp_ne_t (tgt := 42) C dX12_part_32 (by decide) g2 (by decide) c5 ?_
        refine mw_iload_n 0 C dX12_part_42 rfl rfl ?_
        refine mw_iconst C dX12_part_43 ?_
        rcases ite_some hF with ⟨c6, hF⟩ | ⟨c6, hF⟩
        · refine mw_icmp_ne_t (tgt := 54) C dX12_part_44 (by decide) g2 (by decide) c6 ?_
          refine mw_aload_n 1 C dX12_part_54 rfl rfl ?_
          refine mw_iconst C dX12_part_55 ?_
          obtain ⟨q7, hq7, hF⟩ := bind_some hF
          refine mw_callV (c := 141) [iv 2] [] C dX12_part_56 (T_X12_fails (zl Z) (zX Z) 2 _ _ hq7) rfl zn141 zk141 (by decide) rfl wd1029 wd1030 wd1367 wd14 wd1031 hd_X12_fails rfl (by decide) (by decide) (Nat.le_of_ble_eq_true rfl) ⟨Nat.zero_le _, Nat.zero_le _⟩ ?_
          refine mw_sub [1] rfl ?_
          exact T_X12_part_59 C q7.1 _ _ hF
        · refine mw_icmp_ne_f (tgt := 54) C dX12_part_44 (by decide) g2 (by decide) c6 ?_
          refine mw_aload_n 1 C dX12_part_47 rfl rfl ?_
          obtain ⟨q8, hq8, hF⟩ := bind_some hF
          refine mw_callV (c := 141) [] [] C dX12_part_48 (T_X12_aWash (zl Z) (zX Z) _ _ hq8) rfl zn141 zk141 (by decide) rfl wd1060 wd1061 wd1376 wd14 wd1062 hd_X12_aWash rfl (by decide) (by decide) (Nat.le_of_ble_eq_true rfl) ⟨Nat.zero_le _, Nat.zero_le _⟩ ?_
          refine mw_goto (tgt := 59) C dX12_part_51 (by decide) ?_
          refine mw_sub [1] rfl ?_
          exact T_X12_part_59 C q8.1 _ _ hF
      · refine mw_icmp_ne_f (tgt := 42) C dX12_part_32 (by decide) g2 (by decide) c5 ?_
        refine mw_aload_n 1 C dX12_part_35 rfl rfl ?_
        obtain ⟨q9, hq9, hF⟩ := bind_some hF
        refine mw_callV (c := 141) [] [] C dX12_part_36 (T_X12_aSort (zl Z) (zX Z) _ _ hq9) rfl zn141 zk141 (by decide) rfl wd1054 wd1055 wd1374 wd14 wd1056 hd_X12_aSort rfl (by decide) (by decide) (Nat.le_of_ble_eq_true rfl) ⟨Nat.zero_le _, Nat.zero_le _⟩ ?_
        refine mw_goto (tgt := 59) C dX12_part_39 (by decide) ?_
        refine mw_sub [1] rfl ?_
        exact T_X12_part_59 C q9.1 _ _ hF
    · refine mw_icmp_ne_f (tgt := 30) C dX12_part_20 (by decide) g2 (by decide) c4 ?_
      refine mw_aload_n 1 C dX12_part_23 rfl rfl ?_
      obtain ⟨q10, hq10, hF⟩ := bind_some hF
      refine mw_callV (c := 141) [] [] C dX12_part_24 (T_X12_aTable (zl Z) (zX Z) _ _ hq10) rfl zn141 zk141 (by decide) rfl wd1051 wd1052 wd1373 wd14 wd1053 hd_X12_aTable rfl (by decide) (by decide) (Nat.le_of_ble_eq_true rfl) ⟨Nat.zero_le _, Nat.zero_le _⟩ ?_
      refine mw_goto (tgt := 59) C dX12_part_27 (by decide) ?_
      refine mw_sub [1] rfl ?_
      exact T_X12_part_59 C q10.1 _ _ hF
  · refine mw_if_ne_f (tgt := 18) C dX12_part_8 (by decide) g2 c3 ?_
    refine mw_aload_n 1 C dX12_part_11 rfl rfl ?_
    obtain ⟨q11, hq11, hF⟩ := bind_some hF
    refine mw_callV (c := 141) [] [] C dX12_part_12 (T_X12_aMachine (zl Z) (zX Z) _ _ hq11) rfl zn141 zk141 (by decide) rfl wd1026 wd1027 wd1366 wd14 wd1028 hd_X12_aMachine rfl (by decide) (by decide) (Nat.le_of_ble_eq_true rfl) ⟨Nat.zero_le _, Nat.zero_le _⟩ ?_
    refine mw_goto (tgt := 59) C dX12_part_15 (by decide) ?_
    refine mw_sub [1] rfl ?_
    exact T_X12_part_59 C q11.1 _ _ hF
def F_X12_part (h : MH) : Option (Int × MH) := F_X12_part_0 h
theorem T_X12_part (l : Launch) (X : XT) (h : MH) (t : (Int × MH)) (hF : F_X12_part h = some t) : Ct l X yX12_part cX12_part 3 (some .boolean) 9 [rfv (xd X) 141] zN zG h (some (iv t.1)) zN zG t.2 0 0 := by
  refine Ct.head (by decide) (Nat.le_of_ble_eq_true rfl) (fun Z hX hl _ _ _ C => ?_)
  subst hX
  subst hl
  exact (T_X12_part_0 C _ _ hF)
/-! BottleLineModel.fresh(II)V -/
def F_X12_fresh_102 : Nat → Int → Int → MH → Option MH
  | 0, _, _, _ => none
  | n + 1, x1, x3, h =>
    ck (in32 x3) <|
    if 36 ≤ x3 then
      some h
    else
      ck (0 ≤ ((x1 + 104) + x3) ∧ ((x1 + 104) + x3) < 2640) <|
      nx (hup h 142 ((x1 + 104) + x3).toNat 0) fun h4 =>
      F_X12_fresh_102 n x1 (x3 + 1) h4
set_option maxRecDepth 100000 in
theorem T_X12_fresh_102 {Z : ZT} (C : Cx Z cX12_fresh 6 RX12 2 none) : ∀ (n : Nat) (x1 : Int) (x3 : Int) (h : MH) (t : MH), F_X12_fresh_102 n x1 x3 h = some t → MW Z (Qm Z none zN zG t 0 0) 6 zN zG h 0 0 102 [(0, rfv (xd (zX Z)) 141), (1, iv x1), (3, iv x3)] [] := by
  intro n
  induction n with
  | zero =>
    intros
    rename_i hF
    exact absurd hF (by intro q; cases q)
  | succ n ih =>
    intro x1 x3 h t hF
    rw [F_X12_fresh_102] at hF
    refine mw_iload_n 2 C dX12_fresh_102 rfl rfl ?_
    refine mw_bipush C dX12_fresh_103 bp_36 ?_
    obtain ⟨g1, hF⟩ := ck_some hF
    rcases ite_some hF with ⟨c2, hF⟩ | ⟨c2, hF⟩
    · refine mw_icmp_ge_t (tgt := 126) C dX12_fresh_105 (by decide) g1 (by decide) c2 ?_
      cases hF
      exact mw_vret C dX12_fresh_126 rfl rfl
    · refine mw_icmp_ge_f (tgt := 126) C dX12_fresh_105 (by decide) g1 (by decide) c2 ?_
      refine mw_aload_n 0 C dX12_fresh_108 rfl rfl ?_
      refine mw_get (k := 0) (T := TX12) (v := rfv (xd (zX Z)) 142) C dX12_fresh_109 zn141 zk141 (by decide) rfl inX12 (by decide) wd889 rfl (zfv_r rfl zg_141_0) ?_
      refine mw_iload_n 1 C dX12_fresh_112 rfl rfl ?_
      refine mw_bipush C dX12_fresh_113 bp_104 ?_
      refine mw_iadd C dX12_fresh_115 ?_
      refine mw_iload_n 2 C dX12_fresh_116 rfl rfl ?_
      refine mw_iadd C dX12_fresh_117 ?_
      refine mw_lconst (a := 0) C dX12_fresh_118 lc_0 ?_
      obtain ⟨g3, hF⟩ := ck_some hF
      obtain ⟨h4, eh4, hF⟩ := nx_some hF
      refine mw_last C dX12_fresh_119 zn142 zk142 (by decide) g3 (mw_h eh4 ?_)
      refine mw_iinc 2 [(3, iv (x3 + 1)), (0, rfv (xd (zX Z)) 141), (1, iv x1)] C dX12_fresh_120 rfl (by decide) rfl ?_
      refine mw_goto (tgt := 102) C dX12_fresh_123 (by decide) ?_
      refine mw_sub [1, 2, 0] rfl ?_
      exact ih x1 (x3 + 1) _ _ hF
def F_X12_fresh_47 (k31 : Int → Int → MH → Option MH) : Nat → Int → Int → Int → Int → MH → Option MH
  | 0, _, _, _, _, _ => none
  | n + 1, x1, x3, x4, x5, h =>
    ck (in32 x5) <|
    if 11 ≤ x5 then
      ck (0 ≤ (x4 + 5) ∧ (x4 + 5) < 2640) <|
      nx (hup h 142 (x4 + 5).toNat (-1)) fun h4 =>
      ck (0 ≤ (x4 + 12) ∧ (x4 + 12) < 2640) <|
      nx (hup h4 142 (x4 + 12).toNat 0) fun h6 =>
      k31 x1 (x3 + 1) h6
    else
      ck (0 ≤ (x4 + x5) ∧ (x4 + x5) < 2640) <|
      nx (hup h 142 (x4 + x5).toNat 0) fun h8 =>
      F_X12_fresh_47 k31 n x1 x3 x4 (x5 + 1) h8
set_option maxRecDepth 100000 in
theorem T_X12_fresh_47 {Z : ZT} (C : Cx Z cX12_fresh 6 RX12 2 none) (k31 : Int → Int → MH → Option MH) (hk31 : ∀ (x1 : Int) (x3 : Int) (h : MH) (t : MH), k31 x1 x3 h = some t → MW Z (Qm Z none zN zG t 0 0) 6 zN zG h 0 0 31 [(0, rfv (xd (zX Z)) 141), (1, iv x1), (3, iv x3)] []) : ∀ (n : Nat) (x1 : Int) (x3 : Int) (x4 : Int) (x5 : Int) (h : MH) (t : MH), F_X12_fresh_47 k31 n x1 x3 x4 x5 h = some t → MW Z (Qm Z none zN zG t 0 0) 6 zN zG h 0 0 47 [(0, rfv (xd (zX Z)) 141), (1, iv x1), (3, iv x3), (4, iv x4), (5, iv x5)] [] := by
  intro n
  induction n with
  | zero =>
    intros
    rename_i hF
    exact absurd hF (by intro q; cases q)
  | succ n ih =>
    intro x1 x3 x4 x5 h t hF
    rw [F_X12_fresh_47] at hF
    refine mw_iload 4 C dX12_fresh_47 rfl ?_
    refine mw_bipush C dX12_fresh_49 bp_11 ?_
    obtain ⟨g1, hF⟩ := ck_some hF
    rcases ite_some hF with ⟨c2, hF⟩ | ⟨c2, hF⟩
    · refine mw_icmp_ge_t (tgt := 71) C dX12_fresh_51 (by decide) g1 (by decide) c2 ?_
      refine mw_aload_n 0 C dX12_fresh_71 rfl rfl ?_
      refine mw_get (k := 0) (T := TX12) (v := rfv (xd (zX Z)) 142) C dX12_fresh_72 zn141 zk141 (by decide) rfl inX12 (by decide) wd889 rfl (zfv_r rfl zg_141_0) ?_
      refine mw_iload 3 C dX12_fresh_75 rfl ?_
      refine mw_iconst C dX12_fresh_77 ?_
      refine mw_iadd C dX12_fresh_78 ?_
      refine mw_ldc2 (a := (-1)) C dX12_fresh_79 wd977 rfl ?_
      obtain ⟨g3, hF⟩ := ck_some hF
      obtain ⟨h4, eh4, hF⟩ := nx_some hF
      refine mw_last C dX12_fresh_82 zn142 zk142 (by decide) g3 (mw_h eh4 ?_)
      refine mw_aload_n 0 C dX12_fresh_83 rfl rfl ?_
      refine mw_get (k := 0) (T := TX12) (v := rfv (xd (zX Z)) 142) C dX12_fresh_84 zn141 zk141 (by decide) rfl inX12 (by decide) wd889 rfl (zfv_r rfl zg_141_0) ?_
      refine mw_iload 3 C dX12_fresh_87 rfl ?_
      refine mw_bipush C dX12_fresh_89 bp_12 ?_
      refine mw_iadd C dX12_fresh_91 ?_
      refine mw_lconst (a := 0) C dX12_fresh_92 lc_0 ?_
      obtain ⟨g5, hF⟩ := ck_some hF
      obtain ⟨h6, eh6, hF⟩ := nx_some hF
      refine mw_last C dX12_fresh_93 zn142 zk142 (by decide) g5 (mw_h eh6 ?_)
      refine mw_iinc 2 [(3, iv (x3 + 1)), (0, rfv (xd (zX Z)) 141), (1, iv x1), (4, iv x4), (5, iv x5)] C dX12_fresh_94 rfl (by decide) rfl ?_
      refine mw_goto (tgt := 31) C dX12_fresh_97 (by decide) ?_
      refine mw_sub [1, 2, 0] rfl ?_
      exact hk31 x1 (x3 + 1) _ _ hF
    · refine mw_icmp_ge_f (tgt := 71) C dX12_fresh_51 (by decide) g1 (by decide) c2 ?_
      refine mw_aload_n 0 C dX12_fresh_54 rfl rfl ?_
      refine mw_get (k := 0) (T := TX12) (v := rfv (xd (zX Z)) 142) C dX12_fresh_55 zn141 zk141 (by decide) rfl inX12 (by decide) wd889 rfl (zfv_r rfl zg_141_0) ?_
      refine mw_iload 3 C dX12_fresh_58 rfl ?_
      refine mw_iload 4 C dX12_fresh_60 rfl ?_
      refine mw_iadd C dX12_fresh_62 ?_
      refine mw_lconst (a := 0) C dX12_fresh_63 lc_0 ?_
      obtain ⟨g7, hF⟩ := ck_some hF
      obtain ⟨h8, eh8, hF⟩ := nx_some hF
      refine mw_last C dX12_fresh_64 zn142 zk142 (by decide) g7 (mw_h eh8 ?_)
      refine mw_iinc 4 [(5, iv (x5 + 1)), (0, rfv (xd (zX Z)) 141), (1, iv x1), (3, iv x3), (4, iv x4)] C dX12_fresh_65 rfl (by decide) rfl ?_
      refine mw_goto (tgt := 47) C dX12_fresh_68 (by decide) ?_
      refine mw_sub [1, 2, 3, 4, 0] rfl ?_
      exact ih x1 x3 x4 (x5 + 1) _ _ hF
def F_X12_fresh_31 : Nat → Int → Int → MH → Option MH
  | 0, _, _, _ => none
  | n + 1, x1, x3, h =>
    ck (in32 x3) <|
    if 6 ≤ x3 then
      F_X12_fresh_102 20000 x1 0 h
    else
      (F_X12_machineAt x1 x3 h).bind fun q3 =>
      F_X12_fresh_47 (F_X12_fresh_31 n) 20000 x1 x3 q3.1 4 q3.2
set_option maxRecDepth 100000 in
theorem T_X12_fresh_31 {Z : ZT} (C : Cx Z cX12_fresh 6 RX12 2 none) : ∀ (n : Nat) (x1 : Int) (x3 : Int) (h : MH) (t : MH), F_X12_fresh_31 n x1 x3 h = some t → MW Z (Qm Z none zN zG t 0 0) 6 zN zG h 0 0 31 [(0, rfv (xd (zX Z)) 141), (1, iv x1), (3, iv x3)] [] := by
  intro n
  induction n with
  | zero =>
    intros
    rename_i hF
    exact absurd hF (by intro q; cases q)
  | succ n ih =>
    intro x1 x3 h t hF
    rw [F_X12_fresh_31] at hF
    refine mw_iload_n 2 C dX12_fresh_31 rfl rfl ?_
    refine mw_bipush C dX12_fresh_32 bp_6 ?_
    obtain ⟨g1, hF⟩ := ck_some hF
    rcases ite_some hF with ⟨c2, hF⟩ | ⟨c2, hF⟩
    · refine mw_icmp_ge_t (tgt := 100) C dX12_fresh_34 (by decide) g1 (by decide) c2 ?_
      refine mw_iconst C dX12_fresh_100 ?_
      refine mw_istore_n [(3, iv 0), (0, rfv (xd (zX Z)) 141), (1, iv x1)] C dX12_fresh_101 rfl (by decide) rfl ?_
      refine mw_sub [1, 2, 0] rfl ?_
      exact T_X12_fresh_102 C 20000 x1 0 _ _ hF
    · refine mw_icmp_ge_f (tgt := 100) C dX12_fresh_34 (by decide) g1 (by decide) c2 ?_
      refine mw_iload_n 1 C dX12_fresh_37 rfl rfl ?_
      refine mw_iload_n 2 C dX12_fresh_38 rfl rfl ?_
      obtain ⟨q3, hq3, hF⟩ := bind_some hF
      refine mw_callS [iv x1, iv x3] [] C dX12_fresh_39 (T_X12_machineAt (zl Z) (zX Z) x1 x3 _ _ hq3) rfl wd1041 wd1042 wd14 wd1043 hd_X12_machineAt rfl (by decide) (by decide) (Nat.le_of_ble_eq_true rfl) ⟨Nat.zero_le _, Nat.zero_le _⟩ ?_
      refine mw_istore [(4, iv q3.1), (0, rfv (xd (zX Z)) 141), (1, iv x1), (3, iv x3)] C dX12_fresh_42 (by decide) rfl ?_
      refine mw_iconst C dX12_fresh_44 ?_
      refine mw_istore [(5, iv 4), (4, iv q3.1), (0, rfv (xd (zX Z)) 141), (1, iv x1), (3, iv x3)] C dX12_fresh_45 (by decide) rfl ?_
      refine mw_sub [2, 3, 4, 1, 0] rfl ?_
      exact T_X12_fresh_47 C (F_X12_fresh_31 n) ih 20000 x1 x3 q3.1 4 _ _ hF
def F_X12_fresh_0 (x1 : Int) (x2 : Int) (h : MH) : Option MH :=
  ck (0 ≤ (x1 + 2) ∧ (x1 + 2) < 2640) <|
  nx (hup h 142 (x1 + 2).toNat 0) fun h2 =>
  ck (in32 x2) <|
  ck (0 ≤ (x1 + 3) ∧ (x1 + 3) < 2640) <|
  nx (hup h2 142 (x1 + 3).toNat x2) fun h5 =>
  ck (0 ≤ (x1 + 4) ∧ (x1 + 4) < 2640) <|
  nx (hup h5 142 (x1 + 4).toNat x2) fun h7 =>
  F_X12_fresh_31 20000 x1 0 h7
set_option maxRecDepth 100000 in
theorem T_X12_fresh_0 {Z : ZT} (C : Cx Z cX12_fresh 6 RX12 2 none) (x1 : Int) (x2 : Int) (h : MH) (t : MH) (hF : F_X12_fresh_0 x1 x2 h = some t) : MW Z (Qm Z none zN zG t 0 0) 6 zN zG h 0 0 0 [(0, rfv (xd (zX Z)) 141), (1, iv x1), (2, iv x2)] [] := by
  unfold F_X12_fresh_0 at hF
  refine mw_aload_n 0 C dX12_fresh_0 rfl rfl ?_
  refine mw_get (k := 0) (T := TX12) (v := rfv (xd (zX Z)) 142) C dX12_fresh_1 zn141 zk141 (by decide) rfl inX12 (by decide) wd889 rfl (zfv_r rfl zg_141_0) ?_
  refine mw_iload_n 1 C dX12_fresh_4 rfl rfl ?_
  refine mw_iconst C dX12_fresh_5 ?_
  refine mw_iadd C dX12_fresh_6 ?_
  refine mw_lconst (a := 0) C dX12_fresh_7 lc_0 ?_
  obtain ⟨g1, hF⟩ := ck_some hF
  obtain ⟨h2, eh2, hF⟩ := nx_some hF
  refine mw_last C dX12_fresh_8 zn142 zk142 (by decide) g1 (mw_h eh2 ?_)
  refine mw_aload_n 0 C dX12_fresh_9 rfl rfl ?_
  refine mw_get (k := 0) (T := TX12) (v := rfv (xd (zX Z)) 142) C dX12_fresh_10 zn141 zk141 (by decide) rfl inX12 (by decide) wd889 rfl (zfv_r rfl zg_141_0) ?_
  refine mw_iload_n 1 C dX12_fresh_13 rfl rfl ?_
  refine mw_iconst C dX12_fresh_14 ?_
  refine mw_iadd C dX12_fresh_15 ?_
  refine mw_iload_n 2 C dX12_fresh_16 rfl rfl ?_
  obtain ⟨g3, hF⟩ := ck_some hF
  refine mw_i2l C dX12_fresh_17 g3 ?_
  obtain ⟨g4, hF⟩ := ck_some hF
  obtain ⟨h5, eh5, hF⟩ := nx_some hF
  refine mw_last C dX12_fresh_18 zn142 zk142 (by decide) g4 (mw_h eh5 ?_)
  refine mw_aload_n 0 C dX12_fresh_19 rfl rfl ?_
  refine mw_get (k := 0) (T := TX12) (v := rfv (xd (zX Z)) 142) C dX12_fresh_20 zn141 zk141 (by decide) rfl inX12 (by decide) wd889 rfl (zfv_r rfl zg_141_0) ?_
  refine mw_iload_n 1 C dX12_fresh_23 rfl rfl ?_
  refine mw_iconst C dX12_fresh_24 ?_
  refine mw_iadd C dX12_fresh_25 ?_
  refine mw_iload_n 2 C dX12_fresh_26 rfl rfl ?_
  refine mw_i2l C dX12_fresh_27 g3 ?_
  obtain ⟨g6, hF⟩ := ck_some hF
  obtain ⟨h7, eh7, hF⟩ := nx_some hF
  refine mw_last C dX12_fresh_28 zn142 zk142 (by decide) g6 (mw_h eh7 ?_)
  refine mw_iconst C dX12_fresh_29 ?_
  refine mw_istore_n [(3, iv 0), (0, rfv (xd (zX Z)) 141), (1, iv x1), (2, iv x2)] C dX12_fresh_30 rfl (by decide) rfl ?_
  refine mw_sub [1, 2, 0] rfl ?_
  exact T_X12_fresh_31 C 20000 x1 0 _ _ hF
def F_X12_fresh (x1 : Int) (x2 : Int) (h : MH) : Option MH := F_X12_fresh_0 x1 x2 h
theorem T_X12_fresh (l : Launch) (X : XT) (x1 : Int) (x2 : Int) (h : MH) (t : MH) (hF : F_X12_fresh x1 x2 h = some t) : Ct l X yX12_fresh cX12_fresh 6 none 2 [rfv (xd X) 141, iv x1, iv x2] zN zG h none zN zG t 0 0 := by
  refine Ct.head (by decide) (Nat.le_of_ble_eq_true rfl) (fun Z hX hl _ _ _ C => ?_)
  subst hX
  subst hl
  exact (T_X12_fresh_0 C x1 x2 _ _ hF)
/-! BottleLineModel.line(I)I -/
def F_X12_line_12 (h : MH) : Option (Int × MH) :=
  (F_X12_refuse 1 h).bind fun q1 =>
  some (q1.1, q1.2)
set_option maxRecDepth 100000 in
theorem T_X12_line_12 {Z : ZT} (C : Cx Z cX12_line 4 RX12 10 (some .int)) (h : MH) (t : (Int × MH)) (hF : F_X12_line_12 h = some t) : MW Z (Qm Z (some (iv t.1)) zN zG t.2 0 0) 4 zN zG h 0 0 12 [(0, rfv (xd (zX Z)) 141)] [] := by
  unfold F_X12_line_12 at hF
  refine mw_aload_n 0 C dX12_line_12 rfl rfl ?_
  refine mw_iconst C dX12_line_13 ?_
  obtain ⟨q1, hq1, hF⟩ := bind_some hF
  refine mw_callV (c := 141) [iv 1] [] C dX12_line_14 (T_X12_refuse (zl Z) (zX Z) 1 _ _ hq1) rfl zn141 zk141 (by decide) rfl wd997 wd998 wd1360 wd14 wd999 hd_X12_refuse rfl (by decide) (by decide) (Nat.le_of_ble_eq_true rfl) ⟨Nat.zero_le _, Nat.zero_le _⟩ ?_
  cases hF
  exact mw_iret C dX12_line_17 rfl rfl
def F_X12_line_176 : Nat → Int → MH → Option (Int × MH)
  | 0, _, _ => none
  | n + 1, x3, h =>
    ck (in32 x3) <|
    if 190 ≤ x3 then
      (F_X12_gives (h 142 0) h).bind fun q3 =>
      some (q3.1, q3.2)
    else
      ck (0 ≤ (1760 + x3) ∧ (1760 + x3) < 2640) <|
      ck (0 ≤ x3 ∧ x3 < 2640) <|
      nx (hup h 142 x3.toNat (h 142 (1760 + x3).toNat)) fun h6 =>
      F_X12_line_176 n (x3 + 1) h6
set_option maxRecDepth 100000 in
theorem T_X12_line_176 {Z : ZT} (C : Cx Z cX12_line 4 RX12 10 (some .int)) : ∀ (n : Nat) (x3 : Int) (h : MH) (t : (Int × MH)), F_X12_line_176 n x3 h = some t → MW Z (Qm Z (some (iv t.1)) zN zG t.2 0 0) 4 zN zG h 0 0 176 [(0, rfv (xd (zX Z)) 141), (3, iv x3)] [] := by
  intro n
  induction n with
  | zero =>
    intros
    rename_i hF
    exact absurd hF (by intro q; cases q)
  | succ n ih =>
    intro x3 h t hF
    rw [F_X12_line_176] at hF
    refine mw_iload_n 1 C dX12_line_176 rfl rfl ?_
    refine mw_sipush C dX12_line_177 sp_190 ?_
    obtain ⟨g1, hF⟩ := ck_some hF
    rcases ite_some hF with ⟨c2, hF⟩ | ⟨c2, hF⟩
    · refine mw_icmp_ge_t (tgt := 205) C dX12_line_180 (by decide) g1 (by decide) c2 ?_
      refine mw_aload_n 0 C dX12_line_205 rfl rfl ?_
      refine mw_aload_n 0 C dX12_line_206 rfl rfl ?_
      refine mw_get (k := 0) (T := TX12) (v := rfv (xd (zX Z)) 142) C dX12_line_207 zn141 zk141 (by decide) rfl inX12 (by decide) wd889 rfl (zfv_r rfl zg_141_0) ?_
      refine mw_iconst C dX12_line_210 ?_
      refine mw_lald C dX12_line_211 zn142 zk142 (by decide) (by decide) ?_
      obtain ⟨q3, hq3, hF⟩ := bind_some hF
      refine mw_callV (c := 141) [lvv (h 142 0)] [] C dX12_line_212 (T_X12_gives (zl Z) (zX Z) (h 142 0) _ _ hq3) rfl zn141 zk141 (by decide) rfl wd1069 wd1070 wd1379 wd14 wd1071 hd_X12_gives rfl (by decide) (by decide) (Nat.le_of_ble_eq_true rfl) ⟨Nat.zero_le _, Nat.zero_le _⟩ ?_
      cases hF
      exact mw_iret C dX12_line_215 rfl rfl
    · refine mw_icmp_ge_f (tgt := 205) C dX12_line_180 (by decide) g1 (by decide) c2 ?_
      refine mw_aload_n 0 C dX12_line_183 rfl rfl ?_
      refine mw_get (k := 0) (T := TX12) (v := rfv (xd (zX Z)) 142) C dX12_line_184 zn141 zk141 (by decide) rfl inX12 (by decide) wd889 rfl (zfv_r rfl zg_141_0) ?_
      refine mw_iload_n 1 C dX12_line_187 rfl rfl ?_
      refine mw_aload_n 0 C dX12_line_188 rfl rfl ?_
      refine mw_get (k := 0) (T := TX12) (v := rfv (xd (zX Z)) 142) C dX12_line_189 zn141 zk141 (by decide) rfl inX12 (by decide) wd889 rfl (zfv_r rfl zg_141_0) ?_
      refine mw_sipush C dX12_line_192 sp_1760 ?_
      refine mw_iload_n 1 C dX12_line_195 rfl rfl ?_
      refine mw_iadd C dX12_line_196 ?_
      obtain ⟨g4, hF⟩ := ck_some hF
      refine mw_lald C dX12_line_197 zn142 zk142 (by decide) g4 ?_
      obtain ⟨g5, hF⟩ := ck_some hF
      obtain ⟨h6, eh6, hF⟩ := nx_some hF
      refine mw_last C dX12_line_198 zn142 zk142 (by decide) g5 (mw_h eh6 ?_)
      refine mw_iinc 1 [(3, iv (x3 + 1)), (0, rfv (xd (zX Z)) 141)] C dX12_line_199 rfl (by decide) rfl ?_
      refine mw_goto (tgt := 176) C dX12_line_202 (by decide) ?_
      refine mw_sub [1, 0] rfl ?_
      exact ih (x3 + 1) _ _ hF
def F_X12_line_126 (k103 : Int → MH → Option (Int × MH)) (s0 : Int) (h : MH) : Option (Int × MH) :=
  k103 s0 h
set_option maxRecDepth 100000 in
theorem T_X12_line_126 {Z : ZT} (C : Cx Z cX12_line 4 RX12 10 (some .int)) (k103 : Int → MH → Option (Int × MH)) (hk103 : ∀ (x2 : Int) (h : MH) (t : (Int × MH)), k103 x2 h = some t → MW Z (Qm Z (some (iv t.1)) zN zG t.2 0 0) 4 zN zG h 0 0 103 [(0, rfv (xd (zX Z)) 141), (2, iv x2)] []) (s0 : Int) (h : MH) (t : (Int × MH)) (hF : F_X12_line_126 k103 s0 h = some t) : MW Z (Qm Z (some (iv t.1)) zN zG t.2 0 0) 4 zN zG h 0 0 126 [(0, rfv (xd (zX Z)) 141)] [iv s0] := by
  unfold F_X12_line_126 at hF
  refine mw_istore_n [(2, iv s0), (0, rfv (xd (zX Z)) 141)] C dX12_line_126 rfl (by decide) rfl ?_
  refine mw_goto (tgt := 103) C dX12_line_127 (by decide) ?_
  refine mw_sub [1, 0] rfl ?_
  exact hk103 s0 _ _ hF
def F_X12_line_125 (k103 : Int → MH → Option (Int × MH)) (h : MH) : Option (Int × MH) :=
  F_X12_line_126 k103 0 h
set_option maxRecDepth 100000 in
theorem T_X12_line_125 {Z : ZT} (C : Cx Z cX12_line 4 RX12 10 (some .int)) (k103 : Int → MH → Option (Int × MH)) (hk103 : ∀ (x2 : Int) (h : MH) (t : (Int × MH)), k103 x2 h = some t → MW Z (Qm Z (some (iv t.1)) zN zG t.2 0 0) 4 zN zG h 0 0 103 [(0, rfv (xd (zX Z)) 141), (2, iv x2)] []) (h : MH) (t : (Int × MH)) (hF : F_X12_line_125 k103 h = some t) : MW Z (Qm Z (some (iv t.1)) zN zG t.2 0 0) 4 zN zG h 0 0 125 [(0, rfv (xd (zX Z)) 141)] [] := by
  unfold F_X12_line_125 at hF
  refine mw_iconst C dX12_line_125 ?_
  exact T_X12_line_126 C k103 hk103 0 _ _ hF
def F_X12_line_103 : Nat → Int → MH → Option (Int × MH)
  | 0, _, _ => none
  | n + 1, x2, h =>
    ck (in32 x2) <|
    if x2 = 0 then
      nx (hup h 141 15 (h 141 17)) fun h3 =>
      ck (in32 (h3 141 17)) <|
      if (h3 141 17) ≤ 0 then
        (F_X12_fresh 1760 0 h3).bind fun q6 =>
        nx (hup q6 142 1765 (q6 142 5)) fun h7 =>
        F_X12_line_176 20000 0 h7
      else
        (F_X12_refuse 9 h3).bind fun q8 =>
        some (q8.1, q8.2)
    else
      (F_X12_part h).bind fun q9 =>
      ck (in32 q9.1) <|
      if q9.1 = 0 then
        F_X12_line_125 (F_X12_line_103 n) q9.2
      else
        ck (in32 (q9.2 141 11)) <|
        if (q9.2 141 11) = 0 then
          F_X12_line_125 (F_X12_line_103 n) q9.2
        else
          F_X12_line_126 (F_X12_line_103 n) 1 q9.2
set_option maxRecDepth 100000 in
theorem T_X12_line_103 {Z : ZT} (C : Cx Z cX12_line 4 RX12 10 (some .int)) : ∀ (n : Nat) (x2 : Int) (h : MH) (t : (Int × MH)), F_X12_line_103 n x2 h = some t → MW Z (Qm Z (some (iv t.1)) zN zG t.2 0 0) 4 zN zG h 0 0 103 [(0, rfv (xd (zX Z)) 141), (2, iv x2)] [] := by
  intro n
  induction n with
  | zero =>
    intros
    rename_i hF
    exact absurd hF (by intro q; cases q)
  | succ n ih =>
    intro x2 h t hF
    rw [F_X12_line_103] at hF
    refine mw_iload_n 1 C dX12_line_103 rfl rfl ?_
    obtain ⟨g1, hF⟩ := ck_some hF
    rcases ite_some hF with ⟨c2, hF⟩ | ⟨c2, hF⟩
    · refine mw_if_eq_t (tgt := 130) C dX12_line_104 (by decide) g1 c2 ?_
      refine mw_aload_n 0 C dX12_line_130 rfl rfl ?_
      refine mw_aload_n 0 C dX12_line_131 rfl rfl ?_
      refine mw_get (k := 17) (T := TX12) (v := iv (h 141 17)) C dX12_line_132 zn141 zk141 (by decide) rfl inX12 (by decide) wd906 rfl rfl ?_
      obtain ⟨h3, eh3, hF⟩ := nx_some hF
      refine mw_put (k := 15) (T := TX12) (ty0 := tyX12) (x := (h 141 17)) C dX12_line_135 zn141 zk141 (by decide) rfl inX12 tyX12_ok nmX12 (by decide) wd904 rfl rfl rfl rfl rfl (by decide) (mw_h eh3 ?_)
      refine mw_aload_n 0 C dX12_line_138 rfl rfl ?_
      refine mw_get (k := 17) (T := TX12) (v := iv (h3 141 17)) C dX12_line_139 zn141 zk141 (by decide) rfl inX12 (by decide) wd906 rfl rfl ?_
      obtain ⟨g4, hF⟩ := ck_some hF
      rcases ite_some hF with ⟨c5, hF⟩ | ⟨c5, hF⟩
      · refine mw_if_le_t (tgt := 152) C dX12_line_142 (by decide) g4 c5 ?_
        refine mw_aload_n 0 C dX12_line_152 rfl rfl ?_
        refine mw_sipush C dX12_line_153 sp_1760 ?_
        refine mw_iconst C dX12_line_156 ?_
        obtain ⟨q6, hq6, hF⟩ := bind_some hF
        refine mw_callV (c := 141) [iv 1760, iv 0] [] C dX12_line_157 (T_X12_fresh (zl Z) (zX Z) 1760 0 _ _ hq6) rfl zn141 zk141 (by decide) rfl wd1066 wd1067 wd1378 wd14 wd1068 hd_X12_fresh rfl (by decide) (by decide) (Nat.le_of_ble_eq_true rfl) ⟨Nat.zero_le _, Nat.zero_le _⟩ ?_
        refine mw_aload_n 0 C dX12_line_160 rfl rfl ?_
        refine mw_get (k := 0) (T := TX12) (v := rfv (xd (zX Z)) 142) C dX12_line_161 zn141 zk141 (by decide) rfl inX12 (by decide) wd889 rfl (zfv_r rfl zg_141_0) ?_
        refine mw_sipush C dX12_line_164 sp_1765 ?_
        refine mw_aload_n 0 C dX12_line_167 rfl rfl ?_
        refine mw_get (k := 0) (T := TX12) (v := rfv (xd (zX Z)) 142) C dX12_line_168 zn141 zk141 (by decide) rfl inX12 (by decide) wd889 rfl (zfv_r rfl zg_141_0) ?_
        refine mw_iconst C dX12_line_171 ?_
        refine mw_lald C dX12_line_172 zn142 zk142 (by decide) (by decide) ?_
        obtain ⟨h7, eh7, hF⟩ := nx_some hF
        refine mw_last C dX12_line_173 zn142 zk142 (by decide) (by decide) (mw_h eh7 ?_)
        refine mw_iconst C dX12_line_174 ?_
        refine mw_istore_n [(3, iv 0), (0, rfv (xd (zX Z)) 141), (2, iv x2)] C dX12_line_175 rfl (by decide) rfl ?_
        refine mw_sub [1, 0] rfl ?_
        exact T_X12_line_176 C 20000 0 _ _ hF
      · refine mw_if_le_f (tgt := 152) C dX12_line_142 (by decide) g4 c5 ?_
        refine mw_aload_n 0 C dX12_line_145 rfl rfl ?_
        refine mw_bipush C dX12_line_146 bp_9 ?_
        obtain ⟨q8, hq8, hF⟩ := bind_some hF
        refine mw_callV (c := 141) [iv 9] [] C dX12_line_148 (T_X12_refuse (zl Z) (zX Z) 9 _ _ hq8) rfl zn141 zk141 (by decide) rfl wd997 wd998 wd1360 wd14 wd999 hd_X12_refuse rfl (by decide) (by decide) (Nat.le_of_ble_eq_true rfl) ⟨Nat.zero_le _, Nat.zero_le _⟩ ?_
        cases hF
        exact mw_iret C dX12_line_151 rfl rfl
    · refine mw_if_eq_f (tgt := 130) C dX12_line_104 (by decide) g1 c2 ?_
      refine mw_aload_n 0 C dX12_line_107 rfl rfl ?_
      obtain ⟨q9, hq9, hF⟩ := bind_some hF
      refine mw_callV (c := 141) [] [] C dX12_line_108 (T_X12_part (zl Z) (zX Z) _ _ hq9) rfl zn141 zk141 (by decide) rfl wd1018 wd1019 wd1364 wd14 wd1020 hd_X12_part rfl (by decide) (by decide) (Nat.le_of_ble_eq_true rfl) ⟨Nat.zero_le _, Nat.zero_le _⟩ ?_
      obtain ⟨g10, hF⟩ := ck_some hF
      rcases ite_some hF with ⟨c11, hF⟩ | ⟨c11, hF⟩
      · refine mw_if_eq_t (tgt := 125) C dX12_line_111 (by decide) g10 c11 ?_
        refine mw_sub [0] rfl ?_
        exact T_X12_line_125 C (F_X12_line_103 n) ih _ _ hF
      · refine mw_if_eq_f (tgt := 125) C dX12_line_111 (by decide) g10 c11 ?_
        refine mw_aload_n 0 C dX12_line_114 rfl rfl ?_
        refine mw_get (k := 11) (T := TX12) (v := iv (q9.2 141 11)) C dX12_line_115 zn141 zk141 (by decide) rfl inX12 (by decide) wd900 rfl rfl ?_
        obtain ⟨g12, hF⟩ := ck_some hF
        rcases ite_some hF with ⟨c13, hF⟩ | ⟨c13, hF⟩
        · refine mw_if_eq_t (tgt := 125) C dX12_line_118 (by decide) g12 c13 ?_
          refine mw_sub [0] rfl ?_
          exact T_X12_line_125 C (F_X12_line_103 n) ih _ _ hF
        · refine mw_if_eq_f (tgt := 125) C dX12_line_118 (by decide) g12 c13 ?_
          refine mw_iconst C dX12_line_121 ?_
          refine mw_goto (tgt := 126) C dX12_line_122 (by decide) ?_
          refine mw_sub [0] rfl ?_
          exact T_X12_line_126 C (F_X12_line_103 n) ih 1 _ _ hF
def F_X12_line_102 (s0 : Int) (h : MH) : Option (Int × MH) :=
  F_X12_line_103 20000 s0 h
set_option maxRecDepth 100000 in
theorem T_X12_line_102 {Z : ZT} (C : Cx Z cX12_line 4 RX12 10 (some .int)) (s0 : Int) (h : MH) (t : (Int × MH)) (hF : F_X12_line_102 s0 h = some t) : MW Z (Qm Z (some (iv t.1)) zN zG t.2 0 0) 4 zN zG h 0 0 102 [(0, rfv (xd (zX Z)) 141)] [iv s0] := by
  unfold F_X12_line_102 at hF
  refine mw_istore_n [(2, iv s0), (0, rfv (xd (zX Z)) 141)] C dX12_line_102 rfl (by decide) rfl ?_
  refine mw_sub [1, 0] rfl ?_
  exact T_X12_line_103 C 20000 s0 _ _ hF
def F_X12_line_71 : Nat → Int → MH → Option (Int × MH)
  | 0, _, _ => none
  | n + 1, x2, h =>
    ck (in32 x2) <|
    if 49 ≤ x2 then
      ck (in32 (h 141 11)) <|
      if (h 141 11) = 0 then
        F_X12_line_102 0 h
      else
        F_X12_line_102 1 h
    else
      ck (0 ≤ x2 ∧ x2 < 49) <|
      nx (hup h 149 x2.toNat 0) fun h6 =>
      F_X12_line_71 n (x2 + 1) h6
set_option maxRecDepth 100000 in
theorem T_X12_line_71 {Z : ZT} (C : Cx Z cX12_line 4 RX12 10 (some .int)) : ∀ (n : Nat) (x2 : Int) (h : MH) (t : (Int × MH)), F_X12_line_71 n x2 h = some t → MW Z (Qm Z (some (iv t.1)) zN zG t.2 0 0) 4 zN zG h 0 0 71 [(0, rfv (xd (zX Z)) 141), (2, iv x2)] [] := by
  intro n
  induction n with
  | zero =>
    intros
    rename_i hF
    exact absurd hF (by intro q; cases q)
  | succ n ih =>
    intro x2 h t hF
    rw [F_X12_line_71] at hF
    refine mw_iload_n 1 C dX12_line_71 rfl rfl ?_
    refine mw_bipush C dX12_line_72 bp_49 ?_
    obtain ⟨g1, hF⟩ := ck_some hF
    rcases ite_some hF with ⟨c2, hF⟩ | ⟨c2, hF⟩
    · refine mw_icmp_ge_t (tgt := 90) C dX12_line_74 (by decide) g1 (by decide) c2 ?_
      refine mw_aload_n 0 C dX12_line_90 rfl rfl ?_
      refine mw_get (k := 11) (T := TX12) (v := iv (h 141 11)) C dX12_line_91 zn141 zk141 (by decide) rfl inX12 (by decide) wd900 rfl rfl ?_
      obtain ⟨g3, hF⟩ := ck_some hF
      rcases ite_some hF with ⟨c4, hF⟩ | ⟨c4, hF⟩
      · refine mw_if_eq_t (tgt := 101) C dX12_line_94 (by decide) g3 c4 ?_
        refine mw_iconst C dX12_line_101 ?_
        refine mw_sub [0] rfl ?_
        exact T_X12_line_102 C 0 _ _ hF
      · refine mw_if_eq_f (tgt := 101) C dX12_line_94 (by decide) g3 c4 ?_
        refine mw_iconst C dX12_line_97 ?_
        refine mw_goto (tgt := 102) C dX12_line_98 (by decide) ?_
        refine mw_sub [0] rfl ?_
        exact T_X12_line_102 C 1 _ _ hF
    · refine mw_icmp_ge_f (tgt := 90) C dX12_line_74 (by decide) g1 (by decide) c2 ?_
      refine mw_aload_n 0 C dX12_line_77 rfl rfl ?_
      refine mw_get (k := 19) (T := TX12) (v := rfv (xd (zX Z)) 149) C dX12_line_78 zn141 zk141 (by decide) rfl inX12 (by decide) wd908 rfl (zfv_r rfl zg_141_19) ?_
      refine mw_iload_n 1 C dX12_line_81 rfl rfl ?_
      refine mw_iconst C dX12_line_82 ?_
      obtain ⟨g5, hF⟩ := ck_some hF
      obtain ⟨h6, eh6, hF⟩ := nx_some hF
      refine mw_zast C dX12_line_83 zn149 zk149 (by decide) g5 (Or.inl rfl) (mw_h eh6 ?_)
      refine mw_iinc 1 [(2, iv (x2 + 1)), (0, rfv (xd (zX Z)) 141)] C dX12_line_84 rfl (by decide) rfl ?_
      refine mw_goto (tgt := 71) C dX12_line_87 (by decide) ?_
      refine mw_sub [1, 0] rfl ?_
      exact ih (x2 + 1) _ _ hF
def F_X12_line_62 (k25 : Int → MH → Option (Int × MH)) (x2 : Int) (s0 : Nat) (s1 : Int) (s2 : Int) (h : MH) : Option (Int × MH) :=
  ck (0 ≤ s1 ∧ s1 < 2640) <|
  nx (hup h s0 s1.toNat s2) fun h2 =>
  k25 (x2 + 1) h2
set_option maxRecDepth 100000 in
theorem T_X12_line_62 {Z : ZT} (C : Cx Z cX12_line 4 RX12 10 (some .int)) (k25 : Int → MH → Option (Int × MH)) (hk25 : ∀ (x2 : Int) (h : MH) (t : (Int × MH)), k25 x2 h = some t → MW Z (Qm Z (some (iv t.1)) zN zG t.2 0 0) 4 zN zG h 0 0 25 [(0, rfv (xd (zX Z)) 141), (2, iv x2)] []) (x2 : Int) (s0 : Nat) (s1 : Int) (s2 : Int) (hk_s0 : zK s0 = (22, 2640) ∧ s0 < zN ∧ 2640 < 2147483648) (h : MH) (t : (Int × MH)) (hF : F_X12_line_62 k25 x2 s0 s1 s2 h = some t) : MW Z (Qm Z (some (iv t.1)) zN zG t.2 0 0) 4 zN zG h 0 0 62 [(0, rfv (xd (zX Z)) 141), (2, iv x2)] [lvv s2, iv s1, rfv (xd (zX Z)) s0] := by
  unfold F_X12_line_62 at hF
  obtain ⟨g1, hF⟩ := ck_some hF
  obtain ⟨h2, eh2, hF⟩ := nx_some hF
  refine mw_last C dX12_line_62 hk_s0.2.1 hk_s0.1 hk_s0.2.2 g1 (mw_h eh2 ?_)
  refine mw_iinc 1 [(2, iv (x2 + 1)), (0, rfv (xd (zX Z)) 141)] C dX12_line_63 rfl (by decide) rfl ?_
  refine mw_goto (tgt := 25) C dX12_line_66 (by decide) ?_
  refine mw_sub [1, 0] rfl ?_
  exact hk25 (x2 + 1) _ _ hF
def F_X12_line_61 (k25 : Int → MH → Option (Int × MH)) (x2 : Int) (s0 : Nat) (s1 : Int) (h : MH) : Option (Int × MH) :=
  F_X12_line_62 k25 x2 s0 s1 0 h
set_option maxRecDepth 100000 in
theorem T_X12_line_61 {Z : ZT} (C : Cx Z cX12_line 4 RX12 10 (some .int)) (k25 : Int → MH → Option (Int × MH)) (hk25 : ∀ (x2 : Int) (h : MH) (t : (Int × MH)), k25 x2 h = some t → MW Z (Qm Z (some (iv t.1)) zN zG t.2 0 0) 4 zN zG h 0 0 25 [(0, rfv (xd (zX Z)) 141), (2, iv x2)] []) (x2 : Int) (s0 : Nat) (s1 : Int) (hk_s0 : zK s0 = (22, 2640) ∧ s0 < zN ∧ 2640 < 2147483648) (h : MH) (t : (Int × MH)) (hF : F_X12_line_61 k25 x2 s0 s1 h = some t) : MW Z (Qm Z (some (iv t.1)) zN zG t.2 0 0) 4 zN zG h 0 0 61 [(0, rfv (xd (zX Z)) 141), (2, iv x2)] [iv s1, rfv (xd (zX Z)) s0] := by
  unfold F_X12_line_61 at hF
  refine mw_lconst (a := 0) C dX12_line_61 lc_0 ?_
  exact T_X12_line_62 C k25 hk25 x2 s0 s1 0 hk_s0 _ _ hF
def F_X12_line_25 : Nat → Int → MH → Option (Int × MH)
  | 0, _, _ => none
  | n + 1, x2, h =>
    ck (in32 x2) <|
    if 190 ≤ x2 then
      F_X12_line_71 20000 0 h
    else
      if x2 < 140 then
        F_X12_line_61 (F_X12_line_25 n) x2 142 (1760 + x2) h
      else
        if 189 ≤ x2 then
          F_X12_line_61 (F_X12_line_25 n) x2 142 (1760 + x2) h
        else
          F_X12_line_62 (F_X12_line_25 n) x2 142 (1760 + x2) 10 h
set_option maxRecDepth 100000 in
theorem T_X12_line_25 {Z : ZT} (C : Cx Z cX12_line 4 RX12 10 (some .int)) : ∀ (n : Nat) (x2 : Int) (h : MH) (t : (Int × MH)), F_X12_line_25 n x2 h = some t → MW Z (Qm Z (some (iv t.1)) zN zG t.2 0 0) 4 zN zG h 0 0 25 [(0, rfv (xd (zX Z)) 141), (2, iv x2)] [] := by
  intro n
  induction n with
  | zero =>
    intros
    rename_i hF
    exact absurd hF (by intro q; cases q)
  | succ n ih =>
    intro x2 h t hF
    rw [F_X12_line_25] at hF
    refine mw_iload_n 1 C dX12_line_25 rfl rfl ?_
    refine mw_sipush C dX12_line_26 sp_190 ?_
    obtain ⟨g1, hF⟩ := ck_some hF
    rcases ite_some hF with ⟨c2, hF⟩ | ⟨c2, hF⟩
    · refine mw_icmp_ge_t (tgt := 69) C dX12_line_29 (by decide) g1 (by decide) c2 ?_
      refine mw_iconst C dX12_line_69 ?_
      refine mw_istore_n [(2, iv 0), (0, rfv (xd (zX Z)) 141)] C dX12_line_70 rfl (by decide) rfl ?_
      refine mw_sub [1, 0] rfl ?_
      exact T_X12_line_71 C 20000 0 _ _ hF
    · refine mw_icmp_ge_f (tgt := 69) C dX12_line_29 (by decide) g1 (by decide) c2 ?_
      refine mw_aload_n 0 C dX12_line_32 rfl rfl ?_
      refine mw_get (k := 0) (T := TX12) (v := rfv (xd (zX Z)) 142) C dX12_line_33 zn141 zk141 (by decide) rfl inX12 (by decide) wd889 rfl (zfv_r rfl zg_141_0) ?_
      refine mw_sipush C dX12_line_36 sp_1760 ?_
      refine mw_iload_n 1 C dX12_line_39 rfl rfl ?_
      refine mw_iadd C dX12_line_40 ?_
      refine mw_iload_n 1 C dX12_line_41 rfl rfl ?_
      refine mw_sipush C dX12_line_42 sp_140 ?_
      rcases ite_some hF with ⟨c3, hF⟩ | ⟨c3, hF⟩
      · refine mw_icmp_lt_t (tgt := 61) C dX12_line_45 (by decide) g1 (by decide) c3 ?_
        exact T_X12_line_61 C (F_X12_line_25 n) ih x2 142 (1760 + x2) (⟨zk142, zn142, by decide⟩) _ _ hF
      · refine mw_icmp_lt_f (tgt := 61) C dX12_line_45 (by decide) g1 (by decide) c3 ?_
        refine mw_iload_n 1 C dX12_line_48 rfl rfl ?_
        refine mw_sipush C dX12_line_49 sp_189 ?_
        rcases ite_some hF with ⟨c4, hF⟩ | ⟨c4, hF⟩
        · refine mw_icmp_ge_t (tgt := 61) C dX12_line_52 (by decide) g1 (by decide) c4 ?_
          exact T_X12_line_61 C (F_X12_line_25 n) ih x2 142 (1760 + x2) (⟨zk142, zn142, by decide⟩) _ _ hF
        · refine mw_icmp_ge_f (tgt := 61) C dX12_line_52 (by decide) g1 (by decide) c4 ?_
          refine mw_ldc2 (a := 10) C dX12_line_55 wd1017 rfl ?_
          refine mw_goto (tgt := 62) C dX12_line_58 (by decide) ?_
          exact T_X12_line_62 C (F_X12_line_25 n) ih x2 142 (1760 + x2) 10 (⟨zk142, zn142, by decide⟩) _ _ hF
def F_X12_line_0 (x1 : Int) (h : MH) : Option (Int × MH) :=
  ck (in32 x1) <|
  if x1 < 0 then
    F_X12_line_12 h
  else
    ck (in32 (h 141 9)) <|
    if x1 ≤ (h 141 9) then
      (F_X12_begins x1 h).bind fun q5 =>
      F_X12_line_25 20000 0 q5
    else
      F_X12_line_12 h
set_option maxRecDepth 100000 in
theorem T_X12_line_0 {Z : ZT} (C : Cx Z cX12_line 4 RX12 10 (some .int)) (x1 : Int) (h : MH) (t : (Int × MH)) (hF : F_X12_line_0 x1 h = some t) : MW Z (Qm Z (some (iv t.1)) zN zG t.2 0 0) 4 zN zG h 0 0 0 [(0, rfv (xd (zX Z)) 141), (1, iv x1)] [] := by
  unfold F_X12_line_0 at hF
  refine mw_iload_n 1 C dX12_line_0 rfl rfl ?_
  obtain ⟨g1, hF⟩ := ck_some hF
  rcases ite_some hF with ⟨c2, hF⟩ | ⟨c2, hF⟩
  · refine mw_if_lt_t (tgt := 12) C dX12_line_1 (by decide) g1 c2 ?_
    refine mw_sub [0] rfl ?_
    exact T_X12_line_12 C _ _ hF
  · refine mw_if_lt_f (tgt := 12) C dX12_line_1 (by decide) g1 c2 ?_
    refine mw_iload_n 1 C dX12_line_4 rfl rfl ?_
    refine mw_aload_n 0 C dX12_line_5 rfl rfl ?_
    refine mw_get (k := 9) (T := TX12) (v := iv (h 141 9)) C dX12_line_6 zn141 zk141 (by decide) rfl inX12 (by decide) wd898 rfl rfl ?_
    obtain ⟨g3, hF⟩ := ck_some hF
    rcases ite_some hF with ⟨c4, hF⟩ | ⟨c4, hF⟩
    · refine mw_icmp_le_t (tgt := 18) C dX12_line_9 (by decide) g1 g3 c4 ?_
      refine mw_aload_n 0 C dX12_line_18 rfl rfl ?_
      refine mw_iload_n 1 C dX12_line_19 rfl rfl ?_
      obtain ⟨q5, hq5, hF⟩ := bind_some hF
      refine mw_callV (c := 141) [iv x1] [] C dX12_line_20 (T_X12_begins (zl Z) (zX Z) x1 _ _ hq5) rfl zn141 zk141 (by decide) rfl wd1000 wd1001 wd1361 wd14 wd1002 hd_X12_begins rfl (by decide) (by decide) (Nat.le_of_ble_eq_true rfl) ⟨Nat.zero_le _, Nat.zero_le _⟩ ?_
      refine mw_iconst C dX12_line_23 ?_
      refine mw_istore_n [(2, iv 0), (0, rfv (xd (zX Z)) 141), (1, iv x1)] C dX12_line_24 rfl (by decide) rfl ?_
      refine mw_sub [1, 0] rfl ?_
      exact T_X12_line_25 C 20000 0 _ _ hF
    · refine mw_icmp_le_f (tgt := 18) C dX12_line_9 (by decide) g1 g3 c4 ?_
      refine mw_sub [0] rfl ?_
      exact T_X12_line_12 C _ _ hF
def F_X12_line (x1 : Int) (h : MH) : Option (Int × MH) := F_X12_line_0 x1 h
theorem T_X12_line (l : Launch) (X : XT) (x1 : Int) (h : MH) (t : (Int × MH)) (hF : F_X12_line x1 h = some t) : Ct l X yX12_line cX12_line 4 (some .int) 10 [rfv (xd X) 141, iv x1] zN zG h (some (iv t.1)) zN zG t.2 0 0 := by
  refine Ct.head (by decide) (Nat.le_of_ble_eq_true rfl) (fun Z hX hl _ _ _ C => ?_)
  subst hX
  subst hl
  exact (T_X12_line_0 C x1 _ _ hF)
/-! BottleLineModel.step()Z -/
def F_X12_step_49 (h : MH) : Option (Int × MH) :=
  (F_X12_fails 2 h).bind fun q1 =>
  ck (q1.1 = 0 ∨ q1.1 = 1) <|
  some (q1.1, q1.2)
set_option maxRecDepth 100000 in
theorem T_X12_step_49 {Z : ZT} (C : Cx Z cX12_step 6 RX12 8 (some .boolean)) (h : MH) (t : (Int × MH)) (hF : F_X12_step_49 h = some t) : MW Z (Qm Z (some (iv t.1)) zN zG t.2 0 0) 6 zN zG h 0 0 49 [(0, rfv (xd (zX Z)) 141)] [] := by
  unfold F_X12_step_49 at hF
  refine mw_aload_n 0 C dX12_step_49 rfl rfl ?_
  refine mw_iconst C dX12_step_50 ?_
  obtain ⟨q1, hq1, hF⟩ := bind_some hF
  refine mw_callV (c := 141) [iv 2] [] C dX12_step_51 (T_X12_fails (zl Z) (zX Z) 2 _ _ hq1) rfl zn141 zk141 (by decide) rfl wd1029 wd1030 wd1367 wd14 wd1031 hd_X12_fails rfl (by decide) (by decide) (Nat.le_of_ble_eq_true rfl) ⟨Nat.zero_le _, Nat.zero_le _⟩ ?_
  obtain ⟨g2, hF⟩ := ck_some hF
  cases hF
  exact mw_zret C dX12_step_54 g2 rfl rfl
def F_X12_step_421 (x4 : Int) (h : MH) : Option (Int × MH) :=
  ck (in32 x4) <|
  if x4 = 0 then
    some (0, h)
  else
    (F_X12_ends h).bind fun q3 =>
    ck (in32 q3.1) <|
    if q3.1 = 0 then
      some (0, q3.2)
    else
      some (1, q3.2)
set_option maxRecDepth 100000 in
theorem T_X12_step_421 {Z : ZT} (C : Cx Z cX12_step 6 RX12 8 (some .boolean)) (x4 : Int) (h : MH) (t : (Int × MH)) (hF : F_X12_step_421 x4 h = some t) : MW Z (Qm Z (some (iv t.1)) zN zG t.2 0 0) 6 zN zG h 0 0 421 [(0, rfv (xd (zX Z)) 141), (4, iv x4)] [] := by
  unfold F_X12_step_421 at hF
  refine mw_iload 1 C dX12_step_421 rfl ?_
  obtain ⟨g1, hF⟩ := ck_some hF
  rcases ite_some hF with ⟨c2, hF⟩ | ⟨c2, hF⟩
  · refine mw_if_eq_t (tgt := 437) C dX12_step_423 (by decide) g1 c2 ?_
    refine mw_iconst C dX12_step_437 ?_
    cases hF
    exact mw_zret C dX12_step_438 (Or.inl rfl) rfl rfl
  · refine mw_if_eq_f (tgt := 437) C dX12_step_423 (by decide) g1 c2 ?_
    refine mw_aload_n 0 C dX12_step_426 rfl rfl ?_
    obtain ⟨q3, hq3, hF⟩ := bind_some hF
    refine mw_callV (c := 141) [] [] C dX12_step_427 (T_X12_ends (zl Z) (zX Z) _ _ hq3) rfl zn141 zk141 (by decide) rfl wd1063 wd1064 wd1377 wd14 wd1065 hd_X12_ends rfl (by decide) (by decide) (Nat.le_of_ble_eq_true rfl) ⟨Nat.zero_le _, Nat.zero_le _⟩ ?_
    obtain ⟨g4, hF⟩ := ck_some hF
    rcases ite_some hF with ⟨c5, hF⟩ | ⟨c5, hF⟩
    · refine mw_if_eq_t (tgt := 437) C dX12_step_430 (by decide) g4 c5 ?_
      refine mw_iconst C dX12_step_437 ?_
      cases hF
      exact mw_zret C dX12_step_438 (Or.inl rfl) rfl rfl
    · refine mw_if_eq_f (tgt := 437) C dX12_step_430 (by decide) g4 c5 ?_
      refine mw_iconst C dX12_step_433 ?_
      refine mw_goto (tgt := 438) C dX12_step_434 (by decide) ?_
      cases hF
      exact mw_zret C dX12_step_438 (Or.inr rfl) rfl rfl
def F_X12_step_363 (x1 : Int) (x2 : Int) (x3 : Int) (x4 : Int) (h : MH) : Option (Int × MH) :=
  ck (in32 x1) <|
  if x1 ≠ 6 then
    F_X12_step_421 x4 h
  else
    nx (hup h 141 21 ((h 141 21) - 1)) fun h3 =>
    ck (0 ≤ (h3 141 21) ∧ (h3 141 21) < 3) <|
    ck (in32 (h3 150 (h3 141 21).toNat)) <|
    ck (0 ≤ (x3 + 3) ∧ (x3 + 3) < 2640) <|
    nx (hup h3 142 (x3 + 3).toNat (h3 150 (h3 141 21).toNat)) fun h7 =>
    ck (0 ≤ (h7 141 21) ∧ (h7 141 21) < 3) <|
    ck (in32 x2) <|
    ck (0 ≤ ((1950 + (4 * (h7 150 (h7 141 21).toNat))) + 3) ∧ ((1950 + (4 * (h7 150 (h7 141 21).toNat))) + 3) < 2640) <|
    nx (hup h7 142 ((1950 + (4 * (h7 150 (h7 141 21).toNat))) + 3).toNat x2) fun h11 =>
    F_X12_step_421 x4 h11
set_option maxRecDepth 100000 in
theorem T_X12_step_363 {Z : ZT} (C : Cx Z cX12_step 6 RX12 8 (some .boolean)) (x1 : Int) (x2 : Int) (x3 : Int) (x4 : Int) (h : MH) (t : (Int × MH)) (hF : F_X12_step_363 x1 x2 x3 x4 h = some t) : MW Z (Qm Z (some (iv t.1)) zN zG t.2 0 0) 6 zN zG h 0 0 363 [(0, rfv (xd (zX Z)) 141), (1, iv x1), (2, iv x2), (3, iv x3), (4, iv x4)] [] := by
  unfold F_X12_step_363 at hF
  refine mw_iload_n 1 C dX12_step_363 rfl rfl ?_
  refine mw_bipush C dX12_step_364 bp_6 ?_
  obtain ⟨g1, hF⟩ := ck_some hF
  rcases ite_some hF with ⟨c2, hF⟩ | ⟨c2, hF⟩
  · refine mw_icmp_ne_t (tgt := 421) C dX12_step_366 (by decide) g1 (by decide) c2 ?_
    refine mw_sub [0, 4] rfl ?_
    exact T_X12_step_421 C x4 _ _ hF
  · refine mw_icmp_ne_f (tgt := 421) C dX12_step_366 (by decide) g1 (by decide) c2 ?_
    refine mw_aload_n 0 C dX12_step_369 rfl rfl ?_
    refine mw_dup C dX12_step_370 rfl ?_
    refine mw_get (k := 21) (T := TX12) (v := iv (h 141 21)) C dX12_step_371 zn141 zk141 (by decide) rfl inX12 (by decide) wd910 rfl rfl ?_
    refine mw_iconst C dX12_step_374 ?_
    refine mw_isub C dX12_step_375 ?_
    obtain ⟨h3, eh3, hF⟩ := nx_some hF
    refine mw_put (k := 21) (T := TX12) (ty0 := tyX12) (x := ((h 141 21) - 1)) C dX12_step_376 zn141 zk141 (by decide) rfl inX12 tyX12_ok nmX12 (by decide) wd910 rfl rfl rfl rfl rfl (by decide) (mw_h eh3 ?_)
    refine mw_aload_n 0 C dX12_step_379 rfl rfl ?_
    refine mw_get (k := 0) (T := TX12) (v := rfv (xd (zX Z)) 142) C dX12_step_380 zn141 zk141 (by decide) rfl inX12 (by decide) wd889 rfl (zfv_r rfl zg_141_0) ?_
    refine mw_iload_n 3 C dX12_step_383 rfl rfl ?_
    refine mw_iconst C dX12_step_384 ?_
    refine mw_iadd C dX12_step_385 ?_
    refine mw_aload_n 0 C dX12_step_386 rfl rfl ?_
    refine mw_get (k := 20) (T := TX12) (v := rfv (xd (zX Z)) 150) C dX12_step_387 zn141 zk141 (by decide) rfl inX12 (by decide) wd909 rfl (zfv_r rfl zg_141_20) ?_
    refine mw_aload_n 0 C dX12_step_390 rfl rfl ?_
    refine mw_get (k := 21) (T := TX12) (v := iv (h3 141 21)) C dX12_step_391 zn141 zk141 (by decide) rfl inX12 (by decide) wd910 rfl rfl ?_
    obtain ⟨g4, hF⟩ := ck_some hF
    refine mw_iald C dX12_step_394 zn150 zk150 (by decide) g4 ?_
    obtain ⟨g5, hF⟩ := ck_some hF
    refine mw_i2l C dX12_step_395 g5 ?_
    obtain ⟨g6, hF⟩ := ck_some hF
    obtain ⟨h7, eh7, hF⟩ := nx_some hF
    refine mw_last C dX12_step_396 zn142 zk142 (by decide) g6 (mw_h eh7 ?_)
    refine mw_aload_n 0 C dX12_step_397 rfl rfl ?_
    refine mw_get (k := 0) (T := TX12) (v := rfv (xd (zX Z)) 142) C dX12_step_398 zn141 zk141 (by decide) rfl inX12 (by decide) wd889 rfl (zfv_r rfl zg_141_0) ?_
    refine mw_sipush C dX12_step_401 sp_1950 ?_
    refine mw_iconst C dX12_step_404 ?_
    refine mw_aload_n 0 C dX12_step_405 rfl rfl ?_
    refine mw_get (k := 20) (T := TX12) (v := rfv (xd (zX Z)) 150) C dX12_step_406 zn141 zk141 (by decide) rfl inX12 (by decide) wd909 rfl (zfv_r rfl zg_141_20) ?_
    refine mw_aload_n 0 C dX12_step_409 rfl rfl ?_
    refine mw_get (k := 21) (T := TX12) (v := iv (h7 141 21)) C dX12_step_410 zn141 zk141 (by decide) rfl inX12 (by decide) wd910 rfl rfl ?_
    obtain ⟨g8, hF⟩ := ck_some hF
    refine mw_iald C dX12_step_413 zn150 zk150 (by decide) g8 ?_
    refine mw_imul C dX12_step_414 ?_
    refine mw_iadd C dX12_step_415 ?_
    refine mw_iconst C dX12_step_416 ?_
    refine mw_iadd C dX12_step_417 ?_
    refine mw_iload_n 2 C dX12_step_418 rfl rfl ?_
    obtain ⟨g9, hF⟩ := ck_some hF
    refine mw_i2l C dX12_step_419 g9 ?_
    obtain ⟨g10, hF⟩ := ck_some hF
    obtain ⟨h11, eh11, hF⟩ := nx_some hF
    refine mw_last C dX12_step_420 zn142 zk142 (by decide) g10 (mw_h eh11 ?_)
    refine mw_sub [0, 4] rfl ?_
    exact T_X12_step_421 C x4 _ _ hF
def F_X12_step_343 (x1 : Int) (x2 : Int) (x3 : Int) (x4 : Int) (h : MH) : Option (Int × MH) :=
  ck (0 ≤ (h 141 21) ∧ (h 141 21) < 3) <|
  nx (hup h 150 (h 141 21).toNat x2) fun h2 =>
  nx (hup h2 141 21 ((h2 141 21) + 1)) fun h3 =>
  F_X12_step_363 x1 x2 x3 x4 h3
set_option maxRecDepth 100000 in
theorem T_X12_step_343 {Z : ZT} (C : Cx Z cX12_step 6 RX12 8 (some .boolean)) (x1 : Int) (x2 : Int) (x3 : Int) (x4 : Int) (h : MH) (t : (Int × MH)) (hF : F_X12_step_343 x1 x2 x3 x4 h = some t) : MW Z (Qm Z (some (iv t.1)) zN zG t.2 0 0) 6 zN zG h 0 0 343 [(0, rfv (xd (zX Z)) 141), (1, iv x1), (2, iv x2), (3, iv x3), (4, iv x4)] [] := by
  unfold F_X12_step_343 at hF
  refine mw_aload_n 0 C dX12_step_343 rfl rfl ?_
  refine mw_get (k := 20) (T := TX12) (v := rfv (xd (zX Z)) 150) C dX12_step_344 zn141 zk141 (by decide) rfl inX12 (by decide) wd909 rfl (zfv_r rfl zg_141_20) ?_
  refine mw_aload_n 0 C dX12_step_347 rfl rfl ?_
  refine mw_get (k := 21) (T := TX12) (v := iv (h 141 21)) C dX12_step_348 zn141 zk141 (by decide) rfl inX12 (by decide) wd910 rfl rfl ?_
  refine mw_iload_n 2 C dX12_step_351 rfl rfl ?_
  obtain ⟨g1, hF⟩ := ck_some hF
  obtain ⟨h2, eh2, hF⟩ := nx_some hF
  refine mw_iast C dX12_step_352 zn150 zk150 (by decide) g1 (mw_h eh2 ?_)
  refine mw_aload_n 0 C dX12_step_353 rfl rfl ?_
  refine mw_dup C dX12_step_354 rfl ?_
  refine mw_get (k := 21) (T := TX12) (v := iv (h2 141 21)) C dX12_step_355 zn141 zk141 (by decide) rfl inX12 (by decide) wd910 rfl rfl ?_
  refine mw_iconst C dX12_step_358 ?_
  refine mw_iadd C dX12_step_359 ?_
  obtain ⟨h3, eh3, hF⟩ := nx_some hF
  refine mw_put (k := 21) (T := TX12) (ty0 := tyX12) (x := ((h2 141 21) + 1)) C dX12_step_360 zn141 zk141 (by decide) rfl inX12 tyX12_ok nmX12 (by decide) wd910 rfl rfl rfl rfl rfl (by decide) (mw_h eh3 ?_)
  exact T_X12_step_363 C x1 x2 x3 x4 _ _ hF
def F_X12_step_333 (x1 : Int) (x2 : Int) (x3 : Int) (x4 : Int) (h : MH) : Option (Int × MH) :=
  ck (in32 x1) <|
  if x1 = 4 then
    F_X12_step_343 x1 x2 x3 x4 h
  else
    if x1 ≠ 5 then
      F_X12_step_363 x1 x2 x3 x4 h
    else
      F_X12_step_343 x1 x2 x3 x4 h
set_option maxRecDepth 100000 in
theorem T_X12_step_333 {Z : ZT} (C : Cx Z cX12_step 6 RX12 8 (some .boolean)) (x1 : Int) (x2 : Int) (x3 : Int) (x4 : Int) (h : MH) (t : (Int × MH)) (hF : F_X12_step_333 x1 x2 x3 x4 h = some t) : MW Z (Qm Z (some (iv t.1)) zN zG t.2 0 0) 6 zN zG h 0 0 333 [(0, rfv (xd (zX Z)) 141), (1, iv x1), (2, iv x2), (3, iv x3), (4, iv x4)] [] := by
  unfold F_X12_step_333 at hF
  refine mw_iload_n 1 C dX12_step_333 rfl rfl ?_
  refine mw_iconst C dX12_step_334 ?_
  obtain ⟨g1, hF⟩ := ck_some hF
  rcases ite_some hF with ⟨c2, hF⟩ | ⟨c2, hF⟩
  · refine mw_icmp_eq_t (tgt := 343) C dX12_step_335 (by decide) g1 (by decide) c2 ?_
    exact T_X12_step_343 C x1 x2 x3 x4 _ _ hF
  · refine mw_icmp_eq_f (tgt := 343) C dX12_step_335 (by decide) g1 (by decide) c2 ?_
    refine mw_iload_n 1 C dX12_step_338 rfl rfl ?_
    refine mw_iconst C dX12_step_339 ?_
    rcases ite_some hF with ⟨c3, hF⟩ | ⟨c3, hF⟩
    · refine mw_icmp_ne_t (tgt := 363) C dX12_step_340 (by decide) g1 (by decide) c3 ?_
      exact T_X12_step_363 C x1 x2 x3 x4 _ _ hF
    · refine mw_icmp_ne_f (tgt := 363) C dX12_step_340 (by decide) g1 (by decide) c3 ?_
      exact T_X12_step_343 C x1 x2 x3 x4 _ _ hF
def F_X12_step_291 (x1 : Int) (x2 : Int) (x3 : Int) (x4 : Int) (h : MH) : Option (Int × MH) :=
  ck (in32 x1) <|
  if x1 ≠ 5 then
    F_X12_step_333 x1 x2 x3 x4 h
  else
    (F_X12_inWords 20 h).bind fun q3 =>
    nx (q3.1 - 7) fun v4 =>
    ck (in32 v4) <|
    if 0 ≤ v4 then
      ck (0 ≤ (x3 + 2) ∧ (x3 + 2) < 2640) <|
      nx (hup q3.2 142 (x3 + 2).toNat v4) fun h8 =>
      (F_X12_ahead h8).bind fun q9 =>
      F_X12_step_333 x1 x2 x3 x4 q9
    else
      (F_X12_fails 2 q3.2).bind fun q10 =>
      ck (q10.1 = 0 ∨ q10.1 = 1) <|
      some (q10.1, q10.2)
set_option maxRecDepth 100000 in
theorem T_X12_step_291 {Z : ZT} (C : Cx Z cX12_step 6 RX12 8 (some .boolean)) (x1 : Int) (x2 : Int) (x3 : Int) (x4 : Int) (h : MH) (t : (Int × MH)) (hF : F_X12_step_291 x1 x2 x3 x4 h = some t) : MW Z (Qm Z (some (iv t.1)) zN zG t.2 0 0) 6 zN zG h 0 0 291 [(0, rfv (xd (zX Z)) 141), (1, iv x1), (2, iv x2), (3, iv x3), (4, iv x4)] [] := by
  unfold F_X12_step_291 at hF
  refine mw_iload_n 1 C dX12_step_291 rfl rfl ?_
  refine mw_iconst C dX12_step_292 ?_
  obtain ⟨g1, hF⟩ := ck_some hF
  rcases ite_some hF with ⟨c2, hF⟩ | ⟨c2, hF⟩
  · refine mw_icmp_ne_t (tgt := 333) C dX12_step_293 (by decide) g1 (by decide) c2 ?_
    exact T_X12_step_333 C x1 x2 x3 x4 _ _ hF
  · refine mw_icmp_ne_f (tgt := 333) C dX12_step_293 (by decide) g1 (by decide) c2 ?_
    refine mw_aload_n 0 C dX12_step_296 rfl rfl ?_
    refine mw_ldcS 20 (by decide) rfl rfl C dX12_step_297 ?_
    obtain ⟨q3, hq3, hF⟩ := bind_some hF
    refine mw_callV (c := 141) [.ref (xa (zX Z) 20)] [] C dX12_step_299 (T_X12_inWords (zl Z) (zX Z) 20 (by decide) _ _ hq3) rfl zn141 zk141 (by decide) rfl wd1021 wd1022 wd1365 wd14 wd1023 hd_X12_inWords rfl (by decide) (by decide) (Nat.le_of_ble_eq_true rfl) ⟨Nat.zero_le _, Nat.zero_le _⟩ ?_
    refine mw_bipush C dX12_step_302 bp_7 ?_
    refine mw_isub C dX12_step_304 ?_
    obtain ⟨v4, ev4, hF⟩ := nx_some hF
    refine mw_ti ev4 ?_
    refine mw_istore [(5, iv v4), (0, rfv (xd (zX Z)) 141), (1, iv x1), (2, iv x2), (3, iv x3), (4, iv x4)] C dX12_step_305 (by decide) rfl ?_
    refine mw_iload 0 C dX12_step_307 rfl ?_
    obtain ⟨g5, hF⟩ := ck_some hF
    rcases ite_some hF with ⟨c6, hF⟩ | ⟨c6, hF⟩
    · refine mw_if_ge_t (tgt := 318) C dX12_step_309 (by decide) g5 c6 ?_
      refine mw_aload_n 1 C dX12_step_318 rfl rfl ?_
      refine mw_get (k := 0) (T := TX12) (v := rfv (xd (zX Z)) 142) C dX12_step_319 zn141 zk141 (by decide) rfl inX12 (by decide) wd889 rfl (zfv_r rfl zg_141_0) ?_
      refine mw_iload_n 4 C dX12_step_322 rfl rfl ?_
      refine mw_iconst C dX12_step_323 ?_
      refine mw_iadd C dX12_step_324 ?_
      refine mw_iload 0 C dX12_step_325 rfl ?_
      refine mw_i2l C dX12_step_327 g5 ?_
      obtain ⟨g7, hF⟩ := ck_some hF
      obtain ⟨h8, eh8, hF⟩ := nx_some hF
      refine mw_last C dX12_step_328 zn142 zk142 (by decide) g7 (mw_h eh8 ?_)
      refine mw_aload_n 1 C dX12_step_329 rfl rfl ?_
      obtain ⟨q9, hq9, hF⟩ := bind_some hF
      refine mw_callV (c := 141) [] [] C dX12_step_330 (T_X12_ahead (zl Z) (zX Z) _ _ hq9) rfl zn141 zk141 (by decide) rfl wd1003 wd1004 wd1362 wd14 wd1005 hd_X12_ahead rfl (by decide) (by decide) (Nat.le_of_ble_eq_true rfl) ⟨Nat.zero_le _, Nat.zero_le _⟩ ?_
      refine mw_sub [1, 2, 3, 4, 5] rfl ?_
      exact T_X12_step_333 C x1 x2 x3 x4 _ _ hF
    · refine mw_if_ge_f (tgt := 318) C dX12_step_309 (by decide) g5 c6 ?_
      refine mw_aload_n 1 C dX12_step_312 rfl rfl ?_
      refine mw_iconst C dX12_step_313 ?_
      obtain ⟨q10, hq10, hF⟩ := bind_some hF
      refine mw_callV (c := 141) [iv 2] [] C dX12_step_314 (T_X12_fails (zl Z) (zX Z) 2 _ _ hq10) rfl zn141 zk141 (by decide) rfl wd1029 wd1030 wd1367 wd14 wd1031 hd_X12_fails rfl (by decide) (by decide) (Nat.le_of_ble_eq_true rfl) ⟨Nat.zero_le _, Nat.zero_le _⟩ ?_
      obtain ⟨g11, hF⟩ := ck_some hF
      cases hF
      exact mw_zret C dX12_step_317 g11 rfl rfl
def F_X12_step_274 (x1 : Int) (x2 : Int) (x3 : Int) (x4 : Int) (h : MH) : Option (Int × MH) :=
  ck (in32 x1) <|
  if x1 ≠ 4 then
    F_X12_step_291 x1 x2 x3 x4 h
  else
    (F_X12_number (x3 + 2) 1 9 h).bind fun q3 =>
    F_X12_step_291 x1 x2 x3 q3.1 q3.2
set_option maxRecDepth 100000 in
theorem T_X12_step_274 {Z : ZT} (C : Cx Z cX12_step 6 RX12 8 (some .boolean)) (x1 : Int) (x2 : Int) (x3 : Int) (x4 : Int) (h : MH) (t : (Int × MH)) (hF : F_X12_step_274 x1 x2 x3 x4 h = some t) : MW Z (Qm Z (some (iv t.1)) zN zG t.2 0 0) 6 zN zG h 0 0 274 [(0, rfv (xd (zX Z)) 141), (1, iv x1), (2, iv x2), (3, iv x3), (4, iv x4)] [] := by
  unfold F_X12_step_274 at hF
  refine mw_iload_n 1 C dX12_step_274 rfl rfl ?_
  refine mw_iconst C dX12_step_275 ?_
  obtain ⟨g1, hF⟩ := ck_some hF
  rcases ite_some hF with ⟨c2, hF⟩ | ⟨c2, hF⟩
  · refine mw_icmp_ne_t (tgt := 291) C dX12_step_276 (by decide) g1 (by decide) c2 ?_
    exact T_X12_step_291 C x1 x2 x3 x4 _ _ hF
  · refine mw_icmp_ne_f (tgt := 291) C dX12_step_276 (by decide) g1 (by decide) c2 ?_
    refine mw_aload_n 0 C dX12_step_279 rfl rfl ?_
    refine mw_iload_n 3 C dX12_step_280 rfl rfl ?_
    refine mw_iconst C dX12_step_281 ?_
    refine mw_iadd C dX12_step_282 ?_
    refine mw_iconst C dX12_step_283 ?_
    refine mw_bipush C dX12_step_284 bp_9 ?_
    obtain ⟨q3, hq3, hF⟩ := bind_some hF
    refine mw_callV (c := 141) [iv (x3 + 2), iv 1, iv 9] [] C dX12_step_286 (T_X12_number (zl Z) (zX Z) (x3 + 2) 1 9 _ _ hq3) rfl zn141 zk141 (by decide) rfl wd1048 wd1049 wd1372 wd14 wd1050 hd_X12_number rfl (by decide) (by decide) (Nat.le_of_ble_eq_true rfl) ⟨Nat.zero_le _, Nat.zero_le _⟩ ?_
    refine mw_istore [(4, iv q3.1), (0, rfv (xd (zX Z)) 141), (1, iv x1), (2, iv x2), (3, iv x3)] C dX12_step_289 (by decide) rfl ?_
    refine mw_sub [1, 2, 3, 4, 0] rfl ?_
    exact T_X12_step_291 C x1 x2 x3 q3.1 _ _ hF
def F_X12_step_257 (x1 : Int) (x2 : Int) (x3 : Int) (x4 : Int) (h : MH) : Option (Int × MH) :=
  ck (in32 x1) <|
  if x1 ≠ 2 then
    F_X12_step_274 x1 x2 x3 x4 h
  else
    (F_X12_number (x3 + 2) 0 99 h).bind fun q3 =>
    F_X12_step_274 x1 x2 x3 q3.1 q3.2
set_option maxRecDepth 100000 in
theorem T_X12_step_257 {Z : ZT} (C : Cx Z cX12_step 6 RX12 8 (some .boolean)) (x1 : Int) (x2 : Int) (x3 : Int) (x4 : Int) (h : MH) (t : (Int × MH)) (hF : F_X12_step_257 x1 x2 x3 x4 h = some t) : MW Z (Qm Z (some (iv t.1)) zN zG t.2 0 0) 6 zN zG h 0 0 257 [(0, rfv (xd (zX Z)) 141), (1, iv x1), (2, iv x2), (3, iv x3), (4, iv x4)] [] := by
  unfold F_X12_step_257 at hF
  refine mw_iload_n 1 C dX12_step_257 rfl rfl ?_
  refine mw_iconst C dX12_step_258 ?_
  obtain ⟨g1, hF⟩ := ck_some hF
  rcases ite_some hF with ⟨c2, hF⟩ | ⟨c2, hF⟩
  · refine mw_icmp_ne_t (tgt := 274) C dX12_step_259 (by decide) g1 (by decide) c2 ?_
    exact T_X12_step_274 C x1 x2 x3 x4 _ _ hF
  · refine mw_icmp_ne_f (tgt := 274) C dX12_step_259 (by decide) g1 (by decide) c2 ?_
    refine mw_aload_n 0 C dX12_step_262 rfl rfl ?_
    refine mw_iload_n 3 C dX12_step_263 rfl rfl ?_
    refine mw_iconst C dX12_step_264 ?_
    refine mw_iadd C dX12_step_265 ?_
    refine mw_iconst C dX12_step_266 ?_
    refine mw_bipush C dX12_step_267 bp_99 ?_
    obtain ⟨q3, hq3, hF⟩ := bind_some hF
    refine mw_callV (c := 141) [iv (x3 + 2), iv 0, iv 99] [] C dX12_step_269 (T_X12_number (zl Z) (zX Z) (x3 + 2) 0 99 _ _ hq3) rfl zn141 zk141 (by decide) rfl wd1048 wd1049 wd1372 wd14 wd1050 hd_X12_number rfl (by decide) (by decide) (Nat.le_of_ble_eq_true rfl) ⟨Nat.zero_le _, Nat.zero_le _⟩ ?_
    refine mw_istore [(4, iv q3.1), (0, rfv (xd (zX Z)) 141), (1, iv x1), (2, iv x2), (3, iv x3)] C dX12_step_272 (by decide) rfl ?_
    refine mw_sub [1, 2, 3, 4, 0] rfl ?_
    exact T_X12_step_274 C x1 x2 x3 q3.1 _ _ hF
def F_X12_step_240 (x1 : Int) (x2 : Int) (x3 : Int) (x4 : Int) (h : MH) : Option (Int × MH) :=
  ck (in32 x1) <|
  if x1 ≠ 1 then
    F_X12_step_257 x1 x2 x3 x4 h
  else
    (F_X12_number (x3 + 2) 1 99 h).bind fun q3 =>
    F_X12_step_257 x1 x2 x3 q3.1 q3.2
set_option maxRecDepth 100000 in
theorem T_X12_step_240 {Z : ZT} (C : Cx Z cX12_step 6 RX12 8 (some .boolean)) (x1 : Int) (x2 : Int) (x3 : Int) (x4 : Int) (h : MH) (t : (Int × MH)) (hF : F_X12_step_240 x1 x2 x3 x4 h = some t) : MW Z (Qm Z (some (iv t.1)) zN zG t.2 0 0) 6 zN zG h 0 0 240 [(0, rfv (xd (zX Z)) 141), (1, iv x1), (2, iv x2), (3, iv x3), (4, iv x4)] [] := by
  unfold F_X12_step_240 at hF
  refine mw_iload_n 1 C dX12_step_240 rfl rfl ?_
  refine mw_iconst C dX12_step_241 ?_
  obtain ⟨g1, hF⟩ := ck_some hF
  rcases ite_some hF with ⟨c2, hF⟩ | ⟨c2, hF⟩
  · refine mw_icmp_ne_t (tgt := 257) C dX12_step_242 (by decide) g1 (by decide) c2 ?_
    exact T_X12_step_257 C x1 x2 x3 x4 _ _ hF
  · refine mw_icmp_ne_f (tgt := 257) C dX12_step_242 (by decide) g1 (by decide) c2 ?_
    refine mw_aload_n 0 C dX12_step_245 rfl rfl ?_
    refine mw_iload_n 3 C dX12_step_246 rfl rfl ?_
    refine mw_iconst C dX12_step_247 ?_
    refine mw_iadd C dX12_step_248 ?_
    refine mw_iconst C dX12_step_249 ?_
    refine mw_bipush C dX12_step_250 bp_99 ?_
    obtain ⟨q3, hq3, hF⟩ := bind_some hF
    refine mw_callV (c := 141) [iv (x3 + 2), iv 1, iv 99] [] C dX12_step_252 (T_X12_number (zl Z) (zX Z) (x3 + 2) 1 99 _ _ hq3) rfl zn141 zk141 (by decide) rfl wd1048 wd1049 wd1372 wd14 wd1050 hd_X12_number rfl (by decide) (by decide) (Nat.le_of_ble_eq_true rfl) ⟨Nat.zero_le _, Nat.zero_le _⟩ ?_
    refine mw_istore [(4, iv q3.1), (0, rfv (xd (zX Z)) 141), (1, iv x1), (2, iv x2), (3, iv x3)] C dX12_step_255 (by decide) rfl ?_
    refine mw_sub [1, 2, 3, 4, 0] rfl ?_
    exact T_X12_step_257 C x1 x2 x3 q3.1 _ _ hF
def F_X12_step_221 (x1 : Int) (x2 : Int) (x3 : Int) (h : MH) : Option (Int × MH) :=
  ck (in32 x1) <|
  if x1 ≠ 0 then
    F_X12_step_240 x1 x2 x3 1 h
  else
    (F_X12_number (x3 + 2) 1 60 h).bind fun q3 =>
    F_X12_step_240 x1 x2 x3 q3.1 q3.2
set_option maxRecDepth 100000 in
theorem T_X12_step_221 {Z : ZT} (C : Cx Z cX12_step 6 RX12 8 (some .boolean)) (x1 : Int) (x2 : Int) (x3 : Int) (h : MH) (t : (Int × MH)) (hF : F_X12_step_221 x1 x2 x3 h = some t) : MW Z (Qm Z (some (iv t.1)) zN zG t.2 0 0) 6 zN zG h 0 0 221 [(0, rfv (xd (zX Z)) 141), (1, iv x1), (2, iv x2), (3, iv x3)] [] := by
  unfold F_X12_step_221 at hF
  refine mw_iconst C dX12_step_221 ?_
  refine mw_istore [(4, iv 1), (0, rfv (xd (zX Z)) 141), (1, iv x1), (2, iv x2), (3, iv x3)] C dX12_step_222 (by decide) rfl ?_
  refine mw_iload_n 2 C dX12_step_224 rfl rfl ?_
  obtain ⟨g1, hF⟩ := ck_some hF
  rcases ite_some hF with ⟨c2, hF⟩ | ⟨c2, hF⟩
  · refine mw_if_ne_t (tgt := 240) C dX12_step_225 (by decide) g1 c2 ?_
    refine mw_sub [1, 2, 3, 4, 0] rfl ?_
    exact T_X12_step_240 C x1 x2 x3 1 _ _ hF
  · refine mw_if_ne_f (tgt := 240) C dX12_step_225 (by decide) g1 c2 ?_
    refine mw_aload_n 1 C dX12_step_228 rfl rfl ?_
    refine mw_iload_n 4 C dX12_step_229 rfl rfl ?_
    refine mw_iconst C dX12_step_230 ?_
    refine mw_iadd C dX12_step_231 ?_
    refine mw_iconst C dX12_step_232 ?_
    refine mw_bipush C dX12_step_233 bp_60 ?_
    obtain ⟨q3, hq3, hF⟩ := bind_some hF
    refine mw_callV (c := 141) [iv (x3 + 2), iv 1, iv 60] [] C dX12_step_235 (T_X12_number (zl Z) (zX Z) (x3 + 2) 1 60 _ _ hq3) rfl zn141 zk141 (by decide) rfl wd1048 wd1049 wd1372 wd14 wd1050 hd_X12_number rfl (by decide) (by decide) (Nat.le_of_ble_eq_true rfl) ⟨Nat.zero_le _, Nat.zero_le _⟩ ?_
    refine mw_istore [(4, iv q3.1), (0, rfv (xd (zX Z)) 141), (1, iv x1), (2, iv x2), (3, iv x3)] C dX12_step_238 (by decide) rfl ?_
    refine mw_sub [1, 2, 3, 4, 0] rfl ?_
    exact T_X12_step_240 C x1 x2 x3 q3.1 _ _ hF
def F_X12_step_190 (x1 : Int) (x2 : Int) (x3 : Int) (h : MH) : Option (Int × MH) :=
  (F_X12_isName 20 h).bind fun q1 =>
  ck (in32 q1.1) <|
  if q1.1 ≠ 0 then
    (F_X12_nameHere q1.2).bind fun q4 =>
    ck (0 ≤ (x3 + 1) ∧ (x3 + 1) < 2640) <|
    nx (hup q4.2 142 (x3 + 1).toNat q4.1) fun h6 =>
    (F_X12_ahead h6).bind fun q7 =>
    F_X12_step_221 x1 x2 x3 q7
  else
    (F_X12_fails 2 q1.2).bind fun q8 =>
    ck (q8.1 = 0 ∨ q8.1 = 1) <|
    some (q8.1, q8.2)
set_option maxRecDepth 100000 in
theorem T_X12_step_190 {Z : ZT} (C : Cx Z cX12_step 6 RX12 8 (some .boolean)) (x1 : Int) (x2 : Int) (x3 : Int) (h : MH) (t : (Int × MH)) (hF : F_X12_step_190 x1 x2 x3 h = some t) : MW Z (Qm Z (some (iv t.1)) zN zG t.2 0 0) 6 zN zG h 0 0 190 [(0, rfv (xd (zX Z)) 141), (1, iv x1), (2, iv x2), (3, iv x3)] [] := by
  unfold F_X12_step_190 at hF
  refine mw_aload_n 0 C dX12_step_190 rfl rfl ?_
  refine mw_ldcS 20 (by decide) rfl rfl C dX12_step_191 ?_
  obtain ⟨q1, hq1, hF⟩ := bind_some hF
  refine mw_callV (c := 141) [.ref (xa (zX Z) 20)] [] C dX12_step_193 (T_X12_isName (zl Z) (zX Z) 20 (by decide) _ _ hq1) rfl zn141 zk141 (by decide) rfl wd1032 wd1033 wd1368 wd14 wd1034 hd_X12_isName rfl (by decide) (by decide) (Nat.le_of_ble_eq_true rfl) ⟨Nat.zero_le _, Nat.zero_le _⟩ ?_
  obtain ⟨g2, hF⟩ := ck_some hF
  rcases ite_some hF with ⟨c3, hF⟩ | ⟨c3, hF⟩
  · refine mw_if_ne_t (tgt := 205) C dX12_step_196 (by decide) g2 c3 ?_
    refine mw_aload_n 0 C dX12_step_205 rfl rfl ?_
    refine mw_get (k := 0) (T := TX12) (v := rfv (xd (zX Z)) 142) C dX12_step_206 zn141 zk141 (by decide) rfl inX12 (by decide) wd889 rfl (zfv_r rfl zg_141_0) ?_
    refine mw_iload_n 3 C dX12_step_209 rfl rfl ?_
    refine mw_iconst C dX12_step_210 ?_
    refine mw_iadd C dX12_step_211 ?_
    refine mw_aload_n 0 C dX12_step_212 rfl rfl ?_
    obtain ⟨q4, hq4, hF⟩ := bind_some hF
    refine mw_callV (c := 141) [] [iv (x3 + 1), rfv (xd (zX Z)) 142] C dX12_step_213 (T_X12_nameHere (zl Z) (zX Z) _ _ hq4) rfl zn141 zk141 (by decide) rfl wd1035 wd1036 wd1369 wd14 wd1037 hd_X12_nameHere rfl (by decide) (by decide) (Nat.le_of_ble_eq_true rfl) ⟨Nat.zero_le _, Nat.zero_le _⟩ ?_
    obtain ⟨g5, hF⟩ := ck_some hF
    obtain ⟨h6, eh6, hF⟩ := nx_some hF
    refine mw_last C dX12_step_216 zn142 zk142 (by decide) g5 (mw_h eh6 ?_)
    refine mw_aload_n 0 C dX12_step_217 rfl rfl ?_
    obtain ⟨q7, hq7, hF⟩ := bind_some hF
    refine mw_callV (c := 141) [] [] C dX12_step_218 (T_X12_ahead (zl Z) (zX Z) _ _ hq7) rfl zn141 zk141 (by decide) rfl wd1003 wd1004 wd1362 wd14 wd1005 hd_X12_ahead rfl (by decide) (by decide) (Nat.le_of_ble_eq_true rfl) ⟨Nat.zero_le _, Nat.zero_le _⟩ ?_
    exact T_X12_step_221 C x1 x2 x3 _ _ hF
  · refine mw_if_ne_f (tgt := 205) C dX12_step_196 (by decide) g2 c3 ?_
    refine mw_aload_n 0 C dX12_step_199 rfl rfl ?_
    refine mw_iconst C dX12_step_200 ?_
    obtain ⟨q8, hq8, hF⟩ := bind_some hF
    refine mw_callV (c := 141) [iv 2] [] C dX12_step_201 (T_X12_fails (zl Z) (zX Z) 2 _ _ hq8) rfl zn141 zk141 (by decide) rfl wd1029 wd1030 wd1367 wd14 wd1031 hd_X12_fails rfl (by decide) (by decide) (Nat.le_of_ble_eq_true rfl) ⟨Nat.zero_le _, Nat.zero_le _⟩ ?_
    obtain ⟨g9, hF⟩ := ck_some hF
    cases hF
    exact mw_zret C dX12_step_204 g9 rfl rfl
def F_X12_step_124 : Nat → Int → Int → Int → Int → MH → Option (Int × MH)
  | 0, _, _, _, _, _ => none
  | n + 1, x1, x2, x3, x4, h =>
    ck (in32 x4) <|
    if 4 ≤ x4 then
      ck (in32 x1) <|
      ck (0 ≤ x3 ∧ x3 < 2640) <|
      nx (hup h 142 x3.toNat x1) fun h5 =>
      nx (hup h5 142 1765 ((h5 142 1765) + 1)) fun h6 =>
      (F_X12_ahead h6).bind fun q7 =>
      if x1 = 1 then
        F_X12_step_190 x1 x2 x3 q7
      else
        if x1 = 2 then
          F_X12_step_190 x1 x2 x3 q7
        else
          if x1 = 3 then
            F_X12_step_190 x1 x2 x3 q7
          else
            if x1 ≠ 5 then
              F_X12_step_221 x1 x2 x3 q7
            else
              F_X12_step_190 x1 x2 x3 q7
    else
      ck (0 ≤ (x3 + x4) ∧ (x3 + x4) < 2640) <|
      nx (hup h 142 (x3 + x4).toNat 0) fun h13 =>
      F_X12_step_124 n x1 x2 x3 (x4 + 1) h13
set_option maxRecDepth 100000 in
theorem T_X12_step_124 {Z : ZT} (C : Cx Z cX12_step 6 RX12 8 (some .boolean)) : ∀ (n : Nat) (x1 : Int) (x2 : Int) (x3 : Int) (x4 : Int) (h : MH) (t : (Int × MH)), F_X12_step_124 n x1 x2 x3 x4 h = some t → MW Z (Qm Z (some (iv t.1)) zN zG t.2 0 0) 6 zN zG h 0 0 124 [(0, rfv (xd (zX Z)) 141), (1, iv x1), (2, iv x2), (3, iv x3), (4, iv x4)] [] := by
  intro n
  induction n with
  | zero =>
    intros
    rename_i hF
    exact absurd hF (by intro q; cases q)
  | succ n ih =>
    intro x1 x2 x3 x4 h t hF
    rw [F_X12_step_124] at hF
    refine mw_iload 4 C dX12_step_124 rfl ?_
    refine mw_iconst C dX12_step_126 ?_
    obtain ⟨g1, hF⟩ := ck_some hF
    rcases ite_some hF with ⟨c2, hF⟩ | ⟨c2, hF⟩
    · refine mw_icmp_ge_t (tgt := 146) C dX12_step_127 (by decide) g1 (by decide) c2 ?_
      refine mw_aload_n 0 C dX12_step_146 rfl rfl ?_
      refine mw_get (k := 0) (T := TX12) (v := rfv (xd (zX Z)) 142) C dX12_step_147 zn141 zk141 (by decide) rfl inX12 (by decide) wd889 rfl (zfv_r rfl zg_141_0) ?_
      refine mw_iload_n 3 C dX12_step_150 rfl rfl ?_
      refine mw_iload_n 1 C dX12_step_151 rfl rfl ?_
      obtain ⟨g3, hF⟩ := ck_some hF
      refine mw_i2l C dX12_step_152 g3 ?_
      obtain ⟨g4, hF⟩ := ck_some hF
      obtain ⟨h5, eh5, hF⟩ := nx_some hF
      refine mw_last C dX12_step_153 zn142 zk142 (by decide) g4 (mw_h eh5 ?_)
      refine mw_aload_n 0 C dX12_step_154 rfl rfl ?_
      refine mw_get (k := 0) (T := TX12) (v := rfv (xd (zX Z)) 142) C dX12_step_155 zn141 zk141 (by decide) rfl inX12 (by decide) wd889 rfl (zfv_r rfl zg_141_0) ?_
      refine mw_sipush C dX12_step_158 sp_1765 ?_
      refine mw_dup2 C dX12_step_161 rfl rfl ?_
      refine mw_lald C dX12_step_162 zn142 zk142 (by decide) (by decide) ?_
      refine mw_lconst (a := 1) C dX12_step_163 lc_1 ?_
      refine mw_ladd C dX12_step_164 ?_
      obtain ⟨h6, eh6, hF⟩ := nx_some hF
      refine mw_last C dX12_step_165 zn142 zk142 (by decide) (by decide) (mw_h eh6 ?_)
      refine mw_aload_n 0 C dX12_step_166 rfl rfl ?_
      obtain ⟨q7, hq7, hF⟩ := bind_some hF
      refine mw_callV (c := 141) [] [] C dX12_step_167 (T_X12_ahead (zl Z) (zX Z) _ _ hq7) rfl zn141 zk141 (by decide) rfl wd1003 wd1004 wd1362 wd14 wd1005 hd_X12_ahead rfl (by decide) (by decide) (Nat.le_of_ble_eq_true rfl) ⟨Nat.zero_le _, Nat.zero_le _⟩ ?_
      refine mw_iload_n 1 C dX12_step_170 rfl rfl ?_
      refine mw_iconst C dX12_step_171 ?_
      rcases ite_some hF with ⟨c8, hF⟩ | ⟨c8, hF⟩
      · refine mw_icmp_eq_t (tgt := 190) C dX12_step_172 (by decide) g3 (by decide) c8 ?_
        refine mw_sub [0, 1, 2, 3] rfl ?_
        exact T_X12_step_190 C x1 x2 x3 _ _ hF
      · refine mw_icmp_eq_f (tgt := 190) C dX12_step_172 (by decide) g3 (by decide) c8 ?_
        refine mw_iload_n 1 C dX12_step_175 rfl rfl ?_
        refine mw_iconst C dX12_step_176 ?_
        rcases ite_some hF with ⟨c9, hF⟩ | ⟨c9, hF⟩
        · refine mw_icmp_eq_t (tgt := 190) C dX12_step_177 (by decide) g3 (by decide) c9 ?_
          refine mw_sub [0, 1, 2, 3] rfl ?_
          exact T_X12_step_190 C x1 x2 x3 _ _ hF
        · refine mw_icmp_eq_f (tgt := 190) C dX12_step_177 (by decide) g3 (by decide) c9 ?_
          refine mw_iload_n 1 C dX12_step_180 rfl rfl ?_
          refine mw_iconst C dX12_step_181 ?_
          rcases ite_some hF with ⟨c10, hF⟩ | ⟨c10, hF⟩
          · refine mw_icmp_eq_t (tgt := 190) C dX12_step_182 (by decide) g3 (by decide) c10 ?_
            refine mw_sub [0, 1, 2, 3] rfl ?_
            exact T_X12_step_190 C x1 x2 x3 _ _ hF
          · refine mw_icmp_eq_f (tgt := 190) C dX12_step_182 (by decide) g3 (by decide) c10 ?_
            refine mw_iload_n 1 C dX12_step_185 rfl rfl ?_
            refine mw_iconst C dX12_step_186 ?_
            rcases ite_some hF with ⟨c11, hF⟩ | ⟨c11, hF⟩
            · refine mw_icmp_ne_t (tgt := 221) C dX12_step_187 (by decide) g3 (by decide) c11 ?_
              refine mw_sub [0, 1, 2, 3] rfl ?_
              exact T_X12_step_221 C x1 x2 x3 _ _ hF
            · refine mw_icmp_ne_f (tgt := 221) C dX12_step_187 (by decide) g3 (by decide) c11 ?_
              refine mw_sub [0, 1, 2, 3] rfl ?_
              exact T_X12_step_190 C x1 x2 x3 _ _ hF
    · refine mw_icmp_ge_f (tgt := 146) C dX12_step_127 (by decide) g1 (by decide) c2 ?_
      refine mw_aload_n 0 C dX12_step_130 rfl rfl ?_
      refine mw_get (k := 0) (T := TX12) (v := rfv (xd (zX Z)) 142) C dX12_step_131 zn141 zk141 (by decide) rfl inX12 (by decide) wd889 rfl (zfv_r rfl zg_141_0) ?_
      refine mw_iload_n 3 C dX12_step_134 rfl rfl ?_
      refine mw_iload 4 C dX12_step_135 rfl ?_
      refine mw_iadd C dX12_step_137 ?_
      refine mw_lconst (a := 0) C dX12_step_138 lc_0 ?_
      obtain ⟨g12, hF⟩ := ck_some hF
      obtain ⟨h13, eh13, hF⟩ := nx_some hF
      refine mw_last C dX12_step_139 zn142 zk142 (by decide) g12 (mw_h eh13 ?_)
      refine mw_iinc 4 [(4, iv (x4 + 1)), (0, rfv (xd (zX Z)) 141), (1, iv x1), (2, iv x2), (3, iv x3)] C dX12_step_140 rfl (by decide) rfl ?_
      refine mw_goto (tgt := 124) C dX12_step_143 (by decide) ?_
      refine mw_sub [1, 2, 3, 4, 0] rfl ?_
      exact ih x1 x2 x3 (x4 + 1) _ _ hF
def F_X12_step_117 (x1 : Int) (x2 : Int) (x3 : Int) (s1 : Int) (s2 : Int) (h : MH) : Option (Int × MH) :=
  nx (hup h 141 22 (s1 + s2)) fun h1 =>
  F_X12_step_124 20000 x1 x2 x3 1 h1
set_option maxRecDepth 100000 in
theorem T_X12_step_117 {Z : ZT} (C : Cx Z cX12_step 6 RX12 8 (some .boolean)) (x1 : Int) (x2 : Int) (x3 : Int) (s1 : Int) (s2 : Int) (h : MH) (t : (Int × MH)) (hF : F_X12_step_117 x1 x2 x3 s1 s2 h = some t) : MW Z (Qm Z (some (iv t.1)) zN zG t.2 0 0) 6 zN zG h 0 0 117 [(0, rfv (xd (zX Z)) 141), (1, iv x1), (2, iv x2), (3, iv x3)] [iv s2, iv s1, rfv (xd (zX Z)) 141] := by
  unfold F_X12_step_117 at hF
  refine mw_iadd C dX12_step_117 ?_
  obtain ⟨h1, eh1, hF⟩ := nx_some hF
  refine mw_put (k := 22) (T := TX12) (ty0 := tyX12) (x := (s1 + s2)) C dX12_step_118 zn141 zk141 (by decide) rfl inX12 tyX12_ok nmX12 (by decide) wd911 rfl rfl rfl rfl rfl (by decide) (mw_h eh1 ?_)
  refine mw_iconst C dX12_step_121 ?_
  refine mw_istore [(4, iv 1), (0, rfv (xd (zX Z)) 141), (1, iv x1), (2, iv x2), (3, iv x3)] C dX12_step_122 (by decide) rfl ?_
  refine mw_sub [1, 2, 3, 4, 0] rfl ?_
  exact T_X12_step_124 C 20000 x1 x2 x3 1 _ _ hF
def F_X12_step_101 (x1 : Int) (x2 : Int) (x3 : Int) (h : MH) : Option (Int × MH) :=
  ck (in32 x1) <|
  if x1 = 6 then
    F_X12_step_117 x1 x2 x3 (h 141 22) 0 h
  else
    F_X12_step_117 x1 x2 x3 (h 141 22) 1 h
set_option maxRecDepth 100000 in
theorem T_X12_step_101 {Z : ZT} (C : Cx Z cX12_step 6 RX12 8 (some .boolean)) (x1 : Int) (x2 : Int) (x3 : Int) (h : MH) (t : (Int × MH)) (hF : F_X12_step_101 x1 x2 x3 h = some t) : MW Z (Qm Z (some (iv t.1)) zN zG t.2 0 0) 6 zN zG h 0 0 101 [(0, rfv (xd (zX Z)) 141), (1, iv x1), (2, iv x2), (3, iv x3)] [] := by
  unfold F_X12_step_101 at hF
  refine mw_aload_n 0 C dX12_step_101 rfl rfl ?_
  refine mw_dup C dX12_step_102 rfl ?_
  refine mw_get (k := 22) (T := TX12) (v := iv (h 141 22)) C dX12_step_103 zn141 zk141 (by decide) rfl inX12 (by decide) wd911 rfl rfl ?_
  refine mw_iload_n 1 C dX12_step_106 rfl rfl ?_
  refine mw_bipush C dX12_step_107 bp_6 ?_
  obtain ⟨g1, hF⟩ := ck_some hF
  rcases ite_some hF with ⟨c2, hF⟩ | ⟨c2, hF⟩
  · refine mw_icmp_eq_t (tgt := 116) C dX12_step_109 (by decide) g1 (by decide) c2 ?_
    refine mw_iconst C dX12_step_116 ?_
    exact T_X12_step_117 C x1 x2 x3 (h 141 22) 0 _ _ hF
  · refine mw_icmp_eq_f (tgt := 116) C dX12_step_109 (by decide) g1 (by decide) c2 ?_
    refine mw_iconst C dX12_step_112 ?_
    refine mw_goto (tgt := 117) C dX12_step_113 (by decide) ?_
    exact T_X12_step_117 C x1 x2 x3 (h 141 22) 1 _ _ hF
def F_X12_step_79 (x1 : Int) (x2 : Int) (x3 : Int) (h : MH) : Option (Int × MH) :=
  ck (in32 x1) <|
  if x1 = 6 then
    F_X12_step_101 x1 x2 x3 h
  else
    ck (in32 (h 141 22)) <|
    if (h 141 22) ≠ 30 then
      F_X12_step_101 x1 x2 x3 h
    else
      (F_X12_fails 6 h).bind fun q5 =>
      ck (q5.1 = 0 ∨ q5.1 = 1) <|
      some (q5.1, q5.2)
set_option maxRecDepth 100000 in
theorem T_X12_step_79 {Z : ZT} (C : Cx Z cX12_step 6 RX12 8 (some .boolean)) (x1 : Int) (x2 : Int) (x3 : Int) (h : MH) (t : (Int × MH)) (hF : F_X12_step_79 x1 x2 x3 h = some t) : MW Z (Qm Z (some (iv t.1)) zN zG t.2 0 0) 6 zN zG h 0 0 79 [(0, rfv (xd (zX Z)) 141), (1, iv x1), (2, iv x2), (3, iv x3)] [] := by
  unfold F_X12_step_79 at hF
  refine mw_iload_n 1 C dX12_step_79 rfl rfl ?_
  refine mw_bipush C dX12_step_80 bp_6 ?_
  obtain ⟨g1, hF⟩ := ck_some hF
  rcases ite_some hF with ⟨c2, hF⟩ | ⟨c2, hF⟩
  · refine mw_icmp_eq_t (tgt := 101) C dX12_step_82 (by decide) g1 (by decide) c2 ?_
    exact T_X12_step_101 C x1 x2 x3 _ _ hF
  · refine mw_icmp_eq_f (tgt := 101) C dX12_step_82 (by decide) g1 (by decide) c2 ?_
    refine mw_aload_n 0 C dX12_step_85 rfl rfl ?_
    refine mw_get (k := 22) (T := TX12) (v := iv (h 141 22)) C dX12_step_86 zn141 zk141 (by decide) rfl inX12 (by decide) wd911 rfl rfl ?_
    refine mw_bipush C dX12_step_89 bp_30 ?_
    obtain ⟨g3, hF⟩ := ck_some hF
    rcases ite_some hF with ⟨c4, hF⟩ | ⟨c4, hF⟩
    · refine mw_icmp_ne_t (tgt := 101) C dX12_step_91 (by decide) g3 (by decide) c4 ?_
      exact T_X12_step_101 C x1 x2 x3 _ _ hF
    · refine mw_icmp_ne_f (tgt := 101) C dX12_step_91 (by decide) g3 (by decide) c4 ?_
      refine mw_aload_n 0 C dX12_step_94 rfl rfl ?_
      refine mw_bipush C dX12_step_95 bp_6 ?_
      obtain ⟨q5, hq5, hF⟩ := bind_some hF
      refine mw_callV (c := 141) [iv 6] [] C dX12_step_97 (T_X12_fails (zl Z) (zX Z) 6 _ _ hq5) rfl zn141 zk141 (by decide) rfl wd1029 wd1030 wd1367 wd14 wd1031 hd_X12_fails rfl (by decide) (by decide) (Nat.le_of_ble_eq_true rfl) ⟨Nat.zero_le _, Nat.zero_le _⟩ ?_
      obtain ⟨g6, hF⟩ := ck_some hF
      cases hF
      exact mw_zret C dX12_step_100 g6 rfl rfl
def F_X12_step_65 (x1 : Int) (x2 : Int) (x3 : Int) (h : MH) : Option (Int × MH) :=
  ck (in32 (h 141 21)) <|
  if (h 141 21) ≠ 3 then
    F_X12_step_79 x1 x2 x3 h
  else
    (F_X12_fails 5 h).bind fun q3 =>
    ck (q3.1 = 0 ∨ q3.1 = 1) <|
    some (q3.1, q3.2)
set_option maxRecDepth 100000 in
theorem T_X12_step_65 {Z : ZT} (C : Cx Z cX12_step 6 RX12 8 (some .boolean)) (x1 : Int) (x2 : Int) (x3 : Int) (h : MH) (t : (Int × MH)) (hF : F_X12_step_65 x1 x2 x3 h = some t) : MW Z (Qm Z (some (iv t.1)) zN zG t.2 0 0) 6 zN zG h 0 0 65 [(0, rfv (xd (zX Z)) 141), (1, iv x1), (2, iv x2), (3, iv x3)] [] := by
  unfold F_X12_step_65 at hF
  refine mw_aload_n 0 C dX12_step_65 rfl rfl ?_
  refine mw_get (k := 21) (T := TX12) (v := iv (h 141 21)) C dX12_step_66 zn141 zk141 (by decide) rfl inX12 (by decide) wd910 rfl rfl ?_
  refine mw_iconst C dX12_step_69 ?_
  obtain ⟨g1, hF⟩ := ck_some hF
  rcases ite_some hF with ⟨c2, hF⟩ | ⟨c2, hF⟩
  · refine mw_icmp_ne_t (tgt := 79) C dX12_step_70 (by decide) g1 (by decide) c2 ?_
    exact T_X12_step_79 C x1 x2 x3 _ _ hF
  · refine mw_icmp_ne_f (tgt := 79) C dX12_step_70 (by decide) g1 (by decide) c2 ?_
    refine mw_aload_n 0 C dX12_step_73 rfl rfl ?_
    refine mw_iconst C dX12_step_74 ?_
    obtain ⟨q3, hq3, hF⟩ := bind_some hF
    refine mw_callV (c := 141) [iv 5] [] C dX12_step_75 (T_X12_fails (zl Z) (zX Z) 5 _ _ hq3) rfl zn141 zk141 (by decide) rfl wd1029 wd1030 wd1367 wd14 wd1031 hd_X12_fails rfl (by decide) (by decide) (Nat.le_of_ble_eq_true rfl) ⟨Nat.zero_le _, Nat.zero_le _⟩ ?_
    obtain ⟨g4, hF⟩ := ck_some hF
    cases hF
    exact mw_zret C dX12_step_78 g4 rfl rfl
def F_X12_step_55 (x1 : Int) (x2 : Int) (x3 : Int) (h : MH) : Option (Int × MH) :=
  ck (in32 x1) <|
  if x1 = 4 then
    F_X12_step_65 x1 x2 x3 h
  else
    if x1 ≠ 5 then
      F_X12_step_79 x1 x2 x3 h
    else
      F_X12_step_65 x1 x2 x3 h
set_option maxRecDepth 100000 in
theorem T_X12_step_55 {Z : ZT} (C : Cx Z cX12_step 6 RX12 8 (some .boolean)) (x1 : Int) (x2 : Int) (x3 : Int) (h : MH) (t : (Int × MH)) (hF : F_X12_step_55 x1 x2 x3 h = some t) : MW Z (Qm Z (some (iv t.1)) zN zG t.2 0 0) 6 zN zG h 0 0 55 [(0, rfv (xd (zX Z)) 141), (1, iv x1), (2, iv x2), (3, iv x3)] [] := by
  unfold F_X12_step_55 at hF
  refine mw_iload_n 1 C dX12_step_55 rfl rfl ?_
  refine mw_iconst C dX12_step_56 ?_
  obtain ⟨g1, hF⟩ := ck_some hF
  rcases ite_some hF with ⟨c2, hF⟩ | ⟨c2, hF⟩
  · refine mw_icmp_eq_t (tgt := 65) C dX12_step_57 (by decide) g1 (by decide) c2 ?_
    exact T_X12_step_65 C x1 x2 x3 _ _ hF
  · refine mw_icmp_eq_f (tgt := 65) C dX12_step_57 (by decide) g1 (by decide) c2 ?_
    refine mw_iload_n 1 C dX12_step_60 rfl rfl ?_
    refine mw_iconst C dX12_step_61 ?_
    rcases ite_some hF with ⟨c3, hF⟩ | ⟨c3, hF⟩
    · refine mw_icmp_ne_t (tgt := 79) C dX12_step_62 (by decide) g1 (by decide) c3 ?_
      exact T_X12_step_79 C x1 x2 x3 _ _ hF
    · refine mw_icmp_ne_f (tgt := 79) C dX12_step_62 (by decide) g1 (by decide) c3 ?_
      exact T_X12_step_65 C x1 x2 x3 _ _ hF
def F_X12_step_0 (h : MH) : Option (Int × MH) :=
  (F_X12_inWords 20 h).bind fun q1 =>
  nx (q1.2 142 1765) fun v2 =>
  nx (1950 + (4 * v2)) fun v3 =>
  ck (in32 q1.1) <|
  if q1.1 = (-1) then
    F_X12_step_49 q1.2
  else
    if 7 ≤ q1.1 then
      F_X12_step_49 q1.2
    else
      if q1.1 ≠ 6 then
        F_X12_step_55 q1.1 v2 v3 q1.2
      else
        ck (in32 (q1.2 141 21)) <|
        if (q1.2 141 21) ≠ 0 then
          F_X12_step_55 q1.1 v2 v3 q1.2
        else
          F_X12_step_49 q1.2
set_option maxRecDepth 100000 in
theorem T_X12_step_0 {Z : ZT} (C : Cx Z cX12_step 6 RX12 8 (some .boolean)) (h : MH) (t : (Int × MH)) (hF : F_X12_step_0 h = some t) : MW Z (Qm Z (some (iv t.1)) zN zG t.2 0 0) 6 zN zG h 0 0 0 [(0, rfv (xd (zX Z)) 141)] [] := by
  unfold F_X12_step_0 at hF
  refine mw_aload_n 0 C dX12_step_0 rfl rfl ?_
  refine mw_ldcS 20 (by decide) rfl rfl C dX12_step_1 ?_
  obtain ⟨q1, hq1, hF⟩ := bind_some hF
  refine mw_callV (c := 141) [.ref (xa (zX Z) 20)] [] C dX12_step_3 (T_X12_inWords (zl Z) (zX Z) 20 (by decide) _ _ hq1) rfl zn141 zk141 (by decide) rfl wd1021 wd1022 wd1365 wd14 wd1023 hd_X12_inWords rfl (by decide) (by decide) (Nat.le_of_ble_eq_true rfl) ⟨Nat.zero_le _, Nat.zero_le _⟩ ?_
  refine mw_istore_n [(1, iv q1.1), (0, rfv (xd (zX Z)) 141)] C dX12_step_6 rfl (by decide) rfl ?_
  refine mw_aload_n 1 C dX12_step_7 rfl rfl ?_
  refine mw_get (k := 0) (T := TX12) (v := rfv (xd (zX Z)) 142) C dX12_step_8 zn141 zk141 (by decide) rfl inX12 (by decide) wd889 rfl (zfv_r rfl zg_141_0) ?_
  refine mw_sipush C dX12_step_11 sp_1765 ?_
  refine mw_lald C dX12_step_14 zn142 zk142 (by decide) (by decide) ?_
  refine mw_l2i C dX12_step_15 ?_
  obtain ⟨v2, ev2, hF⟩ := nx_some hF
  refine mw_ti ev2 ?_
  refine mw_istore_n [(2, iv v2), (1, iv q1.1), (0, rfv (xd (zX Z)) 141)] C dX12_step_16 rfl (by decide) rfl ?_
  refine mw_sipush C dX12_step_17 sp_1950 ?_
  refine mw_iconst C dX12_step_20 ?_
  refine mw_iload_n 0 C dX12_step_21 rfl rfl ?_
  refine mw_imul C dX12_step_22 ?_
  refine mw_iadd C dX12_step_23 ?_
  obtain ⟨v3, ev3, hF⟩ := nx_some hF
  refine mw_ti ev3 ?_
  refine mw_istore_n [(3, iv v3), (2, iv v2), (1, iv q1.1), (0, rfv (xd (zX Z)) 141)] C dX12_step_24 rfl (by decide) rfl ?_
  refine mw_iload_n 2 C dX12_step_25 rfl rfl ?_
  refine mw_iconst C dX12_step_26 ?_
  obtain ⟨g4, hF⟩ := ck_some hF
  rcases ite_some hF with ⟨c5, hF⟩ | ⟨c5, hF⟩
  · refine mw_icmp_eq_t (tgt := 49) C dX12_step_27 (by decide) g4 (by decide) c5 ?_
    refine mw_sub [3] rfl ?_
    exact T_X12_step_49 C _ _ hF
  · refine mw_icmp_eq_f (tgt := 49) C dX12_step_27 (by decide) g4 (by decide) c5 ?_
    refine mw_iload_n 2 C dX12_step_30 rfl rfl ?_
    refine mw_bipush C dX12_step_31 bp_7 ?_
    rcases ite_some hF with ⟨c6, hF⟩ | ⟨c6, hF⟩
    · refine mw_icmp_ge_t (tgt := 49) C dX12_step_33 (by decide) g4 (by decide) c6 ?_
      refine mw_sub [3] rfl ?_
      exact T_X12_step_49 C _ _ hF
    · refine mw_icmp_ge_f (tgt := 49) C dX12_step_33 (by decide) g4 (by decide) c6 ?_
      refine mw_iload_n 2 C dX12_step_36 rfl rfl ?_
      refine mw_bipush C dX12_step_37 bp_6 ?_
      rcases ite_some hF with ⟨c7, hF⟩ | ⟨c7, hF⟩
      · refine mw_icmp_ne_t (tgt := 55) C dX12_step_39 (by decide) g4 (by decide) c7 ?_
        refine mw_sub [3, 2, 1, 0] rfl ?_
        exact T_X12_step_55 C q1.1 v2 v3 _ _ hF
      · refine mw_icmp_ne_f (tgt := 55) C dX12_step_39 (by decide) g4 (by decide) c7 ?_
        refine mw_aload_n 3 C dX12_step_42 rfl rfl ?_
        refine mw_get (k := 21) (T := TX12) (v := iv (q1.2 141 21)) C dX12_step_43 zn141 zk141 (by decide) rfl inX12 (by decide) wd910 rfl rfl ?_
        obtain ⟨g8, hF⟩ := ck_some hF
        rcases ite_some hF with ⟨c9, hF⟩ | ⟨c9, hF⟩
        · refine mw_if_ne_t (tgt := 55) C dX12_step_46 (by decide) g8 c9 ?_
          refine mw_sub [3, 2, 1, 0] rfl ?_
          exact T_X12_step_55 C q1.1 v2 v3 _ _ hF
        · refine mw_if_ne_f (tgt := 55) C dX12_step_46 (by decide) g8 c9 ?_
          refine mw_sub [3] rfl ?_
          exact T_X12_step_49 C _ _ hF
def F_X12_step (h : MH) : Option (Int × MH) := F_X12_step_0 h
theorem T_X12_step (l : Launch) (X : XT) (h : MH) (t : (Int × MH)) (hF : F_X12_step h = some t) : Ct l X yX12_step cX12_step 6 (some .boolean) 8 [rfv (xd X) 141] zN zG h (some (iv t.1)) zN zG t.2 0 0 := by
  refine Ct.head (by decide) (Nat.le_of_ble_eq_true rfl) (fun Z hX hl _ _ _ C => ?_)
  subst hX
  subst hl
  exact (T_X12_step_0 C _ _ hF)
/-! BottleLineModel.shift(I)I -/
def F_X12_shift_19 (h : MH) : Option (Int × MH) :=
  (F_X12_refuse 1 h).bind fun q1 =>
  some (q1.1, q1.2)
set_option maxRecDepth 100000 in
theorem T_X12_shift_19 {Z : ZT} (C : Cx Z cX12_shift 4 RX12 9 (some .int)) (h : MH) (t : (Int × MH)) (hF : F_X12_shift_19 h = some t) : MW Z (Qm Z (some (iv t.1)) zN zG t.2 0 0) 4 zN zG h 0 0 19 [(0, rfv (xd (zX Z)) 141)] [] := by
  unfold F_X12_shift_19 at hF
  refine mw_aload_n 0 C dX12_shift_19 rfl rfl ?_
  refine mw_iconst C dX12_shift_20 ?_
  obtain ⟨q1, hq1, hF⟩ := bind_some hF
  refine mw_callV (c := 141) [iv 1] [] C dX12_shift_21 (T_X12_refuse (zl Z) (zX Z) 1 _ _ hq1) rfl zn141 zk141 (by decide) rfl wd997 wd998 wd1360 wd14 wd999 hd_X12_refuse rfl (by decide) (by decide) (Nat.le_of_ble_eq_true rfl) ⟨Nat.zero_le _, Nat.zero_le _⟩ ?_
  cases hF
  exact mw_iret C dX12_shift_24 rfl rfl
def F_X12_shift_149 : Nat → Int → MH → Option (Int × MH)
  | 0, _, _ => none
  | n + 1, x3, h =>
    ck (in32 x3) <|
    if 440 ≤ x3 then
      ck (in32 (h 141 22)) <|
      (F_X12_gives (h 141 22) h).bind fun q4 =>
      some (q4.1, q4.2)
    else
      ck (0 ≤ (1760 + x3) ∧ (1760 + x3) < 2640) <|
      ck (0 ≤ x3 ∧ x3 < 2640) <|
      nx (hup h 142 x3.toNat (h 142 (1760 + x3).toNat)) fun h7 =>
      F_X12_shift_149 n (x3 + 1) h7
set_option maxRecDepth 100000 in
theorem T_X12_shift_149 {Z : ZT} (C : Cx Z cX12_shift 4 RX12 9 (some .int)) : ∀ (n : Nat) (x3 : Int) (h : MH) (t : (Int × MH)), F_X12_shift_149 n x3 h = some t → MW Z (Qm Z (some (iv t.1)) zN zG t.2 0 0) 4 zN zG h 0 0 149 [(0, rfv (xd (zX Z)) 141), (3, iv x3)] [] := by
  intro n
  induction n with
  | zero =>
    intros
    rename_i hF
    exact absurd hF (by intro q; cases q)
  | succ n ih =>
    intro x3 h t hF
    rw [F_X12_shift_149] at hF
    refine mw_iload_n 1 C dX12_shift_149 rfl rfl ?_
    refine mw_sipush C dX12_shift_150 sp_440 ?_
    obtain ⟨g1, hF⟩ := ck_some hF
    rcases ite_some hF with ⟨c2, hF⟩ | ⟨c2, hF⟩
    · refine mw_icmp_ge_t (tgt := 178) C dX12_shift_153 (by decide) g1 (by decide) c2 ?_
      refine mw_aload_n 0 C dX12_shift_178 rfl rfl ?_
      refine mw_aload_n 0 C dX12_shift_179 rfl rfl ?_
      refine mw_get (k := 22) (T := TX12) (v := iv (h 141 22)) C dX12_shift_180 zn141 zk141 (by decide) rfl inX12 (by decide) wd911 rfl rfl ?_
      obtain ⟨g3, hF⟩ := ck_some hF
      refine mw_i2l C dX12_shift_183 g3 ?_
      obtain ⟨q4, hq4, hF⟩ := bind_some hF
      refine mw_callV (c := 141) [lvv (h 141 22)] [] C dX12_shift_184 (T_X12_gives (zl Z) (zX Z) (h 141 22) _ _ hq4) rfl zn141 zk141 (by decide) rfl wd1069 wd1070 wd1379 wd14 wd1071 hd_X12_gives rfl (by decide) (by decide) (Nat.le_of_ble_eq_true rfl) ⟨Nat.zero_le _, Nat.zero_le _⟩ ?_
      cases hF
      exact mw_iret C dX12_shift_187 rfl rfl
    · refine mw_icmp_ge_f (tgt := 178) C dX12_shift_153 (by decide) g1 (by decide) c2 ?_
      refine mw_aload_n 0 C dX12_shift_156 rfl rfl ?_
      refine mw_get (k := 0) (T := TX12) (v := rfv (xd (zX Z)) 142) C dX12_shift_157 zn141 zk141 (by decide) rfl inX12 (by decide) wd889 rfl (zfv_r rfl zg_141_0) ?_
      refine mw_iload_n 1 C dX12_shift_160 rfl rfl ?_
      refine mw_aload_n 0 C dX12_shift_161 rfl rfl ?_
      refine mw_get (k := 0) (T := TX12) (v := rfv (xd (zX Z)) 142) C dX12_shift_162 zn141 zk141 (by decide) rfl inX12 (by decide) wd889 rfl (zfv_r rfl zg_141_0) ?_
      refine mw_sipush C dX12_shift_165 sp_1760 ?_
      refine mw_iload_n 1 C dX12_shift_168 rfl rfl ?_
      refine mw_iadd C dX12_shift_169 ?_
      obtain ⟨g5, hF⟩ := ck_some hF
      refine mw_lald C dX12_shift_170 zn142 zk142 (by decide) g5 ?_
      obtain ⟨g6, hF⟩ := ck_some hF
      obtain ⟨h7, eh7, hF⟩ := nx_some hF
      refine mw_last C dX12_shift_171 zn142 zk142 (by decide) g6 (mw_h eh7 ?_)
      refine mw_iinc 1 [(3, iv (x3 + 1)), (0, rfv (xd (zX Z)) 141)] C dX12_shift_172 rfl (by decide) rfl ?_
      refine mw_goto (tgt := 149) C dX12_shift_175 (by decide) ?_
      refine mw_sub [1, 0] rfl ?_
      exact ih (x3 + 1) _ _ hF
def F_X12_shift_109 (h : MH) : Option (Int × MH) :=
  nx (hup h 141 15 (h 141 17)) fun h1 =>
  ck (in32 (h1 141 17)) <|
  if (h1 141 17) ≤ 0 then
    nx (hup h1 142 5 (h1 142 1765)) fun h4 =>
    F_X12_shift_149 20000 190 h4
  else
    (F_X12_refuse 9 h1).bind fun q5 =>
    some (q5.1, q5.2)
set_option maxRecDepth 100000 in
theorem T_X12_shift_109 {Z : ZT} (C : Cx Z cX12_shift 4 RX12 9 (some .int)) (h : MH) (t : (Int × MH)) (hF : F_X12_shift_109 h = some t) : MW Z (Qm Z (some (iv t.1)) zN zG t.2 0 0) 4 zN zG h 0 0 109 [(0, rfv (xd (zX Z)) 141)] [] := by
  unfold F_X12_shift_109 at hF
  refine mw_aload_n 0 C dX12_shift_109 rfl rfl ?_
  refine mw_aload_n 0 C dX12_shift_110 rfl rfl ?_
  refine mw_get (k := 17) (T := TX12) (v := iv (h 141 17)) C dX12_shift_111 zn141 zk141 (by decide) rfl inX12 (by decide) wd906 rfl rfl ?_
  obtain ⟨h1, eh1, hF⟩ := nx_some hF
  refine mw_put (k := 15) (T := TX12) (ty0 := tyX12) (x := (h 141 17)) C dX12_shift_114 zn141 zk141 (by decide) rfl inX12 tyX12_ok nmX12 (by decide) wd904 rfl rfl rfl rfl rfl (by decide) (mw_h eh1 ?_)
  refine mw_aload_n 0 C dX12_shift_117 rfl rfl ?_
  refine mw_get (k := 17) (T := TX12) (v := iv (h1 141 17)) C dX12_shift_118 zn141 zk141 (by decide) rfl inX12 (by decide) wd906 rfl rfl ?_
  obtain ⟨g2, hF⟩ := ck_some hF
  rcases ite_some hF with ⟨c3, hF⟩ | ⟨c3, hF⟩
  · refine mw_if_le_t (tgt := 131) C dX12_shift_121 (by decide) g2 c3 ?_
    refine mw_aload_n 0 C dX12_shift_131 rfl rfl ?_
    refine mw_get (k := 0) (T := TX12) (v := rfv (xd (zX Z)) 142) C dX12_shift_132 zn141 zk141 (by decide) rfl inX12 (by decide) wd889 rfl (zfv_r rfl zg_141_0) ?_
    refine mw_iconst C dX12_shift_135 ?_
    refine mw_aload_n 0 C dX12_shift_136 rfl rfl ?_
    refine mw_get (k := 0) (T := TX12) (v := rfv (xd (zX Z)) 142) C dX12_shift_137 zn141 zk141 (by decide) rfl inX12 (by decide) wd889 rfl (zfv_r rfl zg_141_0) ?_
    refine mw_sipush C dX12_shift_140 sp_1765 ?_
    refine mw_lald C dX12_shift_143 zn142 zk142 (by decide) (by decide) ?_
    obtain ⟨h4, eh4, hF⟩ := nx_some hF
    refine mw_last C dX12_shift_144 zn142 zk142 (by decide) (by decide) (mw_h eh4 ?_)
    refine mw_sipush C dX12_shift_145 sp_190 ?_
    refine mw_istore_n [(3, iv 190), (0, rfv (xd (zX Z)) 141)] C dX12_shift_148 rfl (by decide) rfl ?_
    refine mw_sub [1, 0] rfl ?_
    exact T_X12_shift_149 C 20000 190 _ _ hF
  · refine mw_if_le_f (tgt := 131) C dX12_shift_121 (by decide) g2 c3 ?_
    refine mw_aload_n 0 C dX12_shift_124 rfl rfl ?_
    refine mw_bipush C dX12_shift_125 bp_9 ?_
    obtain ⟨q5, hq5, hF⟩ := bind_some hF
    refine mw_callV (c := 141) [iv 9] [] C dX12_shift_127 (T_X12_refuse (zl Z) (zX Z) 9 _ _ hq5) rfl zn141 zk141 (by decide) rfl wd997 wd998 wd1360 wd14 wd999 hd_X12_refuse rfl (by decide) (by decide) (Nat.le_of_ble_eq_true rfl) ⟨Nat.zero_le _, Nat.zero_le _⟩ ?_
    cases hF
    exact mw_iret C dX12_shift_130 rfl rfl
def F_X12_shift_85 (k62 : Int → MH → Option (Int × MH)) (s0 : Int) (h : MH) : Option (Int × MH) :=
  k62 s0 h
set_option maxRecDepth 100000 in
theorem T_X12_shift_85 {Z : ZT} (C : Cx Z cX12_shift 4 RX12 9 (some .int)) (k62 : Int → MH → Option (Int × MH)) (hk62 : ∀ (x2 : Int) (h : MH) (t : (Int × MH)), k62 x2 h = some t → MW Z (Qm Z (some (iv t.1)) zN zG t.2 0 0) 4 zN zG h 0 0 62 [(0, rfv (xd (zX Z)) 141), (2, iv x2)] []) (s0 : Int) (h : MH) (t : (Int × MH)) (hF : F_X12_shift_85 k62 s0 h = some t) : MW Z (Qm Z (some (iv t.1)) zN zG t.2 0 0) 4 zN zG h 0 0 85 [(0, rfv (xd (zX Z)) 141)] [iv s0] := by
  unfold F_X12_shift_85 at hF
  refine mw_istore_n [(2, iv s0), (0, rfv (xd (zX Z)) 141)] C dX12_shift_85 rfl (by decide) rfl ?_
  refine mw_goto (tgt := 62) C dX12_shift_86 (by decide) ?_
  refine mw_sub [1, 0] rfl ?_
  exact hk62 s0 _ _ hF
def F_X12_shift_84 (k62 : Int → MH → Option (Int × MH)) (h : MH) : Option (Int × MH) :=
  F_X12_shift_85 k62 0 h
set_option maxRecDepth 100000 in
theorem T_X12_shift_84 {Z : ZT} (C : Cx Z cX12_shift 4 RX12 9 (some .int)) (k62 : Int → MH → Option (Int × MH)) (hk62 : ∀ (x2 : Int) (h : MH) (t : (Int × MH)), k62 x2 h = some t → MW Z (Qm Z (some (iv t.1)) zN zG t.2 0 0) 4 zN zG h 0 0 62 [(0, rfv (xd (zX Z)) 141), (2, iv x2)] []) (h : MH) (t : (Int × MH)) (hF : F_X12_shift_84 k62 h = some t) : MW Z (Qm Z (some (iv t.1)) zN zG t.2 0 0) 4 zN zG h 0 0 84 [(0, rfv (xd (zX Z)) 141)] [] := by
  unfold F_X12_shift_84 at hF
  refine mw_iconst C dX12_shift_84 ?_
  exact T_X12_shift_85 C k62 hk62 0 _ _ hF
def F_X12_shift_62 : Nat → Int → MH → Option (Int × MH)
  | 0, _, _ => none
  | n + 1, x2, h =>
    ck (in32 x2) <|
    if x2 = 0 then
      ck (in32 (h 141 17)) <|
      if (h 141 17) ≠ 0 then
        F_X12_shift_109 h
      else
        ck (in32 (h 141 21)) <|
        if (h 141 21) ≤ 0 then
          F_X12_shift_109 h
        else
          (F_X12_fails 2 h).bind fun q7 =>
          F_X12_shift_109 q7.2
    else
      (F_X12_step h).bind fun q8 =>
      ck (in32 q8.1) <|
      if q8.1 = 0 then
        F_X12_shift_84 (F_X12_shift_62 n) q8.2
      else
        ck (in32 (q8.2 141 11)) <|
        if (q8.2 141 11) = 0 then
          F_X12_shift_84 (F_X12_shift_62 n) q8.2
        else
          F_X12_shift_85 (F_X12_shift_62 n) 1 q8.2
set_option maxRecDepth 100000 in
theorem T_X12_shift_62 {Z : ZT} (C : Cx Z cX12_shift 4 RX12 9 (some .int)) : ∀ (n : Nat) (x2 : Int) (h : MH) (t : (Int × MH)), F_X12_shift_62 n x2 h = some t → MW Z (Qm Z (some (iv t.1)) zN zG t.2 0 0) 4 zN zG h 0 0 62 [(0, rfv (xd (zX Z)) 141), (2, iv x2)] [] := by
  intro n
  induction n with
  | zero =>
    intros
    rename_i hF
    exact absurd hF (by intro q; cases q)
  | succ n ih =>
    intro x2 h t hF
    rw [F_X12_shift_62] at hF
    refine mw_iload_n 1 C dX12_shift_62 rfl rfl ?_
    obtain ⟨g1, hF⟩ := ck_some hF
    rcases ite_some hF with ⟨c2, hF⟩ | ⟨c2, hF⟩
    · refine mw_if_eq_t (tgt := 89) C dX12_shift_63 (by decide) g1 c2 ?_
      refine mw_aload_n 0 C dX12_shift_89 rfl rfl ?_
      refine mw_get (k := 17) (T := TX12) (v := iv (h 141 17)) C dX12_shift_90 zn141 zk141 (by decide) rfl inX12 (by decide) wd906 rfl rfl ?_
      obtain ⟨g3, hF⟩ := ck_some hF
      rcases ite_some hF with ⟨c4, hF⟩ | ⟨c4, hF⟩
      · refine mw_if_ne_t (tgt := 109) C dX12_shift_93 (by decide) g3 c4 ?_
        refine mw_sub [0] rfl ?_
        exact T_X12_shift_109 C _ _ hF
      · refine mw_if_ne_f (tgt := 109) C dX12_shift_93 (by decide) g3 c4 ?_
        refine mw_aload_n 0 C dX12_shift_96 rfl rfl ?_
        refine mw_get (k := 21) (T := TX12) (v := iv (h 141 21)) C dX12_shift_97 zn141 zk141 (by decide) rfl inX12 (by decide) wd910 rfl rfl ?_
        obtain ⟨g5, hF⟩ := ck_some hF
        rcases ite_some hF with ⟨c6, hF⟩ | ⟨c6, hF⟩
        · refine mw_if_le_t (tgt := 109) C dX12_shift_100 (by decide) g5 c6 ?_
          refine mw_sub [0] rfl ?_
          exact T_X12_shift_109 C _ _ hF
        · refine mw_if_le_f (tgt := 109) C dX12_shift_100 (by decide) g5 c6 ?_
          refine mw_aload_n 0 C dX12_shift_103 rfl rfl ?_
          refine mw_iconst C dX12_shift_104 ?_
          obtain ⟨q7, hq7, hF⟩ := bind_some hF
          refine mw_callV (c := 141) [iv 2] [] C dX12_shift_105 (T_X12_fails (zl Z) (zX Z) 2 _ _ hq7) rfl zn141 zk141 (by decide) rfl wd1029 wd1030 wd1367 wd14 wd1031 hd_X12_fails rfl (by decide) (by decide) (Nat.le_of_ble_eq_true rfl) ⟨Nat.zero_le _, Nat.zero_le _⟩ ?_
          refine mw_pop C dX12_shift_108 rfl ?_
          refine mw_sub [0] rfl ?_
          exact T_X12_shift_109 C _ _ hF
    · refine mw_if_eq_f (tgt := 89) C dX12_shift_63 (by decide) g1 c2 ?_
      refine mw_aload_n 0 C dX12_shift_66 rfl rfl ?_
      obtain ⟨q8, hq8, hF⟩ := bind_some hF
      refine mw_callV (c := 141) [] [] C dX12_shift_67 (T_X12_step (zl Z) (zX Z) _ _ hq8) rfl zn141 zk141 (by decide) rfl wd1076 wd1077 wd1380 wd14 wd1078 hd_X12_step rfl (by decide) (by decide) (Nat.le_of_ble_eq_true rfl) ⟨Nat.zero_le _, Nat.zero_le _⟩ ?_
      obtain ⟨g9, hF⟩ := ck_some hF
      rcases ite_some hF with ⟨c10, hF⟩ | ⟨c10, hF⟩
      · refine mw_if_eq_t (tgt := 84) C dX12_shift_70 (by decide) g9 c10 ?_
        refine mw_sub [0] rfl ?_
        exact T_X12_shift_84 C (F_X12_shift_62 n) ih _ _ hF
      · refine mw_if_eq_f (tgt := 84) C dX12_shift_70 (by decide) g9 c10 ?_
        refine mw_aload_n 0 C dX12_shift_73 rfl rfl ?_
        refine mw_get (k := 11) (T := TX12) (v := iv (q8.2 141 11)) C dX12_shift_74 zn141 zk141 (by decide) rfl inX12 (by decide) wd900 rfl rfl ?_
        obtain ⟨g11, hF⟩ := ck_some hF
        rcases ite_some hF with ⟨c12, hF⟩ | ⟨c12, hF⟩
        · refine mw_if_eq_t (tgt := 84) C dX12_shift_77 (by decide) g11 c12 ?_
          refine mw_sub [0] rfl ?_
          exact T_X12_shift_84 C (F_X12_shift_62 n) ih _ _ hF
        · refine mw_if_eq_f (tgt := 84) C dX12_shift_77 (by decide) g11 c12 ?_
          refine mw_iconst C dX12_shift_80 ?_
          refine mw_goto (tgt := 85) C dX12_shift_81 (by decide) ?_
          refine mw_sub [0] rfl ?_
          exact T_X12_shift_85 C (F_X12_shift_62 n) ih 1 _ _ hF
def F_X12_shift_61 (s0 : Int) (h : MH) : Option (Int × MH) :=
  F_X12_shift_62 20000 s0 h
set_option maxRecDepth 100000 in
theorem T_X12_shift_61 {Z : ZT} (C : Cx Z cX12_shift 4 RX12 9 (some .int)) (s0 : Int) (h : MH) (t : (Int × MH)) (hF : F_X12_shift_61 s0 h = some t) : MW Z (Qm Z (some (iv t.1)) zN zG t.2 0 0) 4 zN zG h 0 0 61 [(0, rfv (xd (zX Z)) 141)] [iv s0] := by
  unfold F_X12_shift_61 at hF
  refine mw_istore_n [(2, iv s0), (0, rfv (xd (zX Z)) 141)] C dX12_shift_61 rfl (by decide) rfl ?_
  refine mw_sub [1, 0] rfl ?_
  exact T_X12_shift_62 C 20000 s0 _ _ hF
def F_X12_shift_0 (x1 : Int) (h : MH) : Option (Int × MH) :=
  ck (in32 x1) <|
  if x1 < 0 then
    F_X12_shift_19 h
  else
    ck (in32 (h 141 9)) <|
    if (h 141 9) < x1 then
      F_X12_shift_19 h
    else
      if x1 ≤ 300 then
        (F_X12_begins x1 h).bind fun q6 =>
        nx (hup q6 142 1765 0) fun h7 =>
        nx (hup h7 141 21 0) fun h8 =>
        nx (hup h8 141 22 0) fun h9 =>
        ck (in32 (h9 141 11)) <|
        if (h9 141 11) = 0 then
          F_X12_shift_61 0 h9
        else
          F_X12_shift_61 1 h9
      else
        F_X12_shift_19 h
set_option maxRecDepth 100000 in
theorem T_X12_shift_0 {Z : ZT} (C : Cx Z cX12_shift 4 RX12 9 (some .int)) (x1 : Int) (h : MH) (t : (Int × MH)) (hF : F_X12_shift_0 x1 h = some t) : MW Z (Qm Z (some (iv t.1)) zN zG t.2 0 0) 4 zN zG h 0 0 0 [(0, rfv (xd (zX Z)) 141), (1, iv x1)] [] := by
  unfold F_X12_shift_0 at hF
  refine mw_iload_n 1 C dX12_shift_0 rfl rfl ?_
  obtain ⟨g1, hF⟩ := ck_some hF
  rcases ite_some hF with ⟨c2, hF⟩ | ⟨c2, hF⟩
  · refine mw_if_lt_t (tgt := 19) C dX12_shift_1 (by decide) g1 c2 ?_
    refine mw_sub [0] rfl ?_
    exact T_X12_shift_19 C _ _ hF
  · refine mw_if_lt_f (tgt := 19) C dX12_shift_1 (by decide) g1 c2 ?_
    refine mw_iload_n 1 C dX12_shift_4 rfl rfl ?_
    refine mw_aload_n 0 C dX12_shift_5 rfl rfl ?_
    refine mw_get (k := 9) (T := TX12) (v := iv (h 141 9)) C dX12_shift_6 zn141 zk141 (by decide) rfl inX12 (by decide) wd898 rfl rfl ?_
    obtain ⟨g3, hF⟩ := ck_some hF
    rcases ite_some hF with ⟨c4, hF⟩ | ⟨c4, hF⟩
    · refine mw_icmp_gt_t (tgt := 19) C dX12_shift_9 (by decide) g1 g3 c4 ?_
      refine mw_sub [0] rfl ?_
      exact T_X12_shift_19 C _ _ hF
    · refine mw_icmp_gt_f (tgt := 19) C dX12_shift_9 (by decide) g1 g3 c4 ?_
      refine mw_iload_n 1 C dX12_shift_12 rfl rfl ?_
      refine mw_sipush C dX12_shift_13 sp_300 ?_
      rcases ite_some hF with ⟨c5, hF⟩ | ⟨c5, hF⟩
      · refine mw_icmp_le_t (tgt := 25) C dX12_shift_16 (by decide) g1 (by decide) c5 ?_
        refine mw_aload_n 0 C dX12_shift_25 rfl rfl ?_
        refine mw_iload_n 1 C dX12_shift_26 rfl rfl ?_
        obtain ⟨q6, hq6, hF⟩ := bind_some hF
        refine mw_callV (c := 141) [iv x1] [] C dX12_shift_27 (T_X12_begins (zl Z) (zX Z) x1 _ _ hq6) rfl zn141 zk141 (by decide) rfl wd1000 wd1001 wd1361 wd14 wd1002 hd_X12_begins rfl (by decide) (by decide) (Nat.le_of_ble_eq_true rfl) ⟨Nat.zero_le _, Nat.zero_le _⟩ ?_
        refine mw_aload_n 0 C dX12_shift_30 rfl rfl ?_
        refine mw_get (k := 0) (T := TX12) (v := rfv (xd (zX Z)) 142) C dX12_shift_31 zn141 zk141 (by decide) rfl inX12 (by decide) wd889 rfl (zfv_r rfl zg_141_0) ?_
        refine mw_sipush C dX12_shift_34 sp_1765 ?_
        refine mw_lconst (a := 0) C dX12_shift_37 lc_0 ?_
        obtain ⟨h7, eh7, hF⟩ := nx_some hF
        refine mw_last C dX12_shift_38 zn142 zk142 (by decide) (by decide) (mw_h eh7 ?_)
        refine mw_aload_n 0 C dX12_shift_39 rfl rfl ?_
        refine mw_iconst C dX12_shift_40 ?_
        obtain ⟨h8, eh8, hF⟩ := nx_some hF
        refine mw_put (k := 21) (T := TX12) (ty0 := tyX12) (x := 0) C dX12_shift_41 zn141 zk141 (by decide) rfl inX12 tyX12_ok nmX12 (by decide) wd910 rfl rfl rfl rfl rfl (by decide) (mw_h eh8 ?_)
        refine mw_aload_n 0 C dX12_shift_44 rfl rfl ?_
        refine mw_iconst C dX12_shift_45 ?_
        obtain ⟨h9, eh9, hF⟩ := nx_some hF
        refine mw_put (k := 22) (T := TX12) (ty0 := tyX12) (x := 0) C dX12_shift_46 zn141 zk141 (by decide) rfl inX12 tyX12_ok nmX12 (by decide) wd911 rfl rfl rfl rfl rfl (by decide) (mw_h eh9 ?_)
        refine mw_aload_n 0 C dX12_shift_49 rfl rfl ?_
        refine mw_get (k := 11) (T := TX12) (v := iv (h9 141 11)) C dX12_shift_50 zn141 zk141 (by decide) rfl inX12 (by decide) wd900 rfl rfl ?_
        obtain ⟨g10, hF⟩ := ck_some hF
        rcases ite_some hF with ⟨c11, hF⟩ | ⟨c11, hF⟩
        · refine mw_if_eq_t (tgt := 60) C dX12_shift_53 (by decide) g10 c11 ?_
          refine mw_iconst C dX12_shift_60 ?_
          refine mw_sub [0] rfl ?_
          exact T_X12_shift_61 C 0 _ _ hF
        · refine mw_if_eq_f (tgt := 60) C dX12_shift_53 (by decide) g10 c11 ?_
          refine mw_iconst C dX12_shift_56 ?_
          refine mw_goto (tgt := 61) C dX12_shift_57 (by decide) ?_
          refine mw_sub [0] rfl ?_
          exact T_X12_shift_61 C 1 _ _ hF
      · refine mw_icmp_le_f (tgt := 25) C dX12_shift_16 (by decide) g1 (by decide) c5 ?_
        refine mw_sub [0] rfl ?_
        exact T_X12_shift_19 C _ _ hF
def F_X12_shift (x1 : Int) (h : MH) : Option (Int × MH) := F_X12_shift_0 x1 h
theorem T_X12_shift (l : Launch) (X : XT) (x1 : Int) (h : MH) (t : (Int × MH)) (hF : F_X12_shift x1 h = some t) : Ct l X yX12_shift cX12_shift 4 (some .int) 9 [rfv (xd X) 141, iv x1] zN zG h (some (iv t.1)) zN zG t.2 0 0 := by
  refine Ct.head (by decide) (Nat.le_of_ble_eq_true rfl) (fun Z hX hl _ _ _ C => ?_)
  subst hX
  subst hl
  exact (T_X12_shift_0 C x1 _ _ hF)
/-! BottleLineModel.isMachine(J)Z -/
def F_X12_isMachine_0 (x1 : Int) (h : MH) : Option (Int × MH) :=
  ck (in64 x1) <|
  if x1 < 0 then
    some (0, h)
  else
    ck (in64 (h 142 0)) <|
    if (h 142 0) ≤ x1 then
      some (0, h)
    else
      some (1, h)
set_option maxRecDepth 100000 in
theorem T_X12_isMachine_0 {Z : ZT} (C : Cx Z cX12_isMachine 3 RX12 1 (some .boolean)) (x1 : Int) (h : MH) (t : (Int × MH)) (hF : F_X12_isMachine_0 x1 h = some t) : MW Z (Qm Z (some (iv t.1)) zN zG t.2 0 0) 3 zN zG h 0 0 0 [(0, rfv (xd (zX Z)) 141), (1, lvv x1)] [] := by
  unfold F_X12_isMachine_0 at hF
  refine mw_lload_n 1 C dX12_isMachine_0 rfl rfl ?_
  refine mw_lconst (a := 0) C dX12_isMachine_1 lc_0 ?_
  obtain ⟨g1, hF⟩ := ck_some hF
  rcases ite_some hF with ⟨c2, hF⟩ | ⟨c2, hF⟩
  · refine mw_lcmp_lt_t (tgt := 21) C dX12_isMachine_2 dX12_isMachine_3 (by decide) g1 (by decide) c2 ?_
    refine mw_iconst C dX12_isMachine_21 ?_
    cases hF
    exact mw_zret C dX12_isMachine_22 (Or.inl rfl) rfl rfl
  · refine mw_lcmp_lt_f (tgt := 21) C dX12_isMachine_2 dX12_isMachine_3 (by decide) g1 (by decide) c2 ?_
    refine mw_lload_n 1 C dX12_isMachine_6 rfl rfl ?_
    refine mw_aload_n 0 C dX12_isMachine_7 rfl rfl ?_
    refine mw_get (k := 0) (T := TX12) (v := rfv (xd (zX Z)) 142) C dX12_isMachine_8 zn141 zk141 (by decide) rfl inX12 (by decide) wd889 rfl (zfv_r rfl zg_141_0) ?_
    refine mw_iconst C dX12_isMachine_11 ?_
    refine mw_lald C dX12_isMachine_12 zn142 zk142 (by decide) (by decide) ?_
    obtain ⟨g3, hF⟩ := ck_some hF
    rcases ite_some hF with ⟨c4, hF⟩ | ⟨c4, hF⟩
    · refine mw_lcmp_ge_t (tgt := 21) C dX12_isMachine_13 dX12_isMachine_14 (by decide) g1 g3 c4 ?_
      refine mw_iconst C dX12_isMachine_21 ?_
      cases hF
      exact mw_zret C dX12_isMachine_22 (Or.inl rfl) rfl rfl
    · refine mw_lcmp_ge_f (tgt := 21) C dX12_isMachine_13 dX12_isMachine_14 (by decide) g1 g3 c4 ?_
      refine mw_iconst C dX12_isMachine_17 ?_
      refine mw_goto (tgt := 22) C dX12_isMachine_18 (by decide) ?_
      cases hF
      exact mw_zret C dX12_isMachine_22 (Or.inr rfl) rfl rfl
def F_X12_isMachine (x1 : Int) (h : MH) : Option (Int × MH) := F_X12_isMachine_0 x1 h
theorem T_X12_isMachine (l : Launch) (X : XT) (x1 : Int) (h : MH) (t : (Int × MH)) (hF : F_X12_isMachine x1 h = some t) : Ct l X yX12_isMachine cX12_isMachine 3 (some .boolean) 1 [rfv (xd X) 141, lvv x1] zN zG h (some (iv t.1)) zN zG t.2 0 0 := by
  refine Ct.head (by decide) (Nat.le_of_ble_eq_true rfl) (fun Z hX hl _ _ _ C => ?_)
  subst hX
  subst hl
  exact (T_X12_isMachine_0 C x1 _ _ hF)
/-! BottleLineModel.ofMachine(II)J -/
def F_X12_ofMachine_0 (x1 : Int) (x2 : Int) (h : MH) : Option (Int × MH) :=
  (F_X12_machineAt 0 x1 h).bind fun q1 =>
  ck (0 ≤ (q1.1 + x2) ∧ (q1.1 + x2) < 2640) <|
  some ((q1.2 142 (q1.1 + x2).toNat), q1.2)
set_option maxRecDepth 100000 in
theorem T_X12_ofMachine_0 {Z : ZT} (C : Cx Z cX12_ofMachine 3 RX12 2 (some .long)) (x1 : Int) (x2 : Int) (h : MH) (t : (Int × MH)) (hF : F_X12_ofMachine_0 x1 x2 h = some t) : MW Z (Qm Z (some (lvv t.1)) zN zG t.2 0 0) 3 zN zG h 0 0 0 [(0, rfv (xd (zX Z)) 141), (1, iv x1), (2, iv x2)] [] := by
  unfold F_X12_ofMachine_0 at hF
  refine mw_aload_n 0 C dX12_ofMachine_0 rfl rfl ?_
  refine mw_get (k := 0) (T := TX12) (v := rfv (xd (zX Z)) 142) C dX12_ofMachine_1 zn141 zk141 (by decide) rfl inX12 (by decide) wd889 rfl (zfv_r rfl zg_141_0) ?_
  refine mw_iconst C dX12_ofMachine_4 ?_
  refine mw_iload_n 1 C dX12_ofMachine_5 rfl rfl ?_
  obtain ⟨q1, hq1, hF⟩ := bind_some hF
  refine mw_callS [iv 0, iv x1] [rfv (xd (zX Z)) 142] C dX12_ofMachine_6 (T_X12_machineAt (zl Z) (zX Z) 0 x1 _ _ hq1) rfl wd1041 wd1042 wd14 wd1043 hd_X12_machineAt rfl (by decide) (by decide) (Nat.le_of_ble_eq_true rfl) ⟨Nat.zero_le _, Nat.zero_le _⟩ ?_
  refine mw_iload_n 2 C dX12_ofMachine_9 rfl rfl ?_
  refine mw_iadd C dX12_ofMachine_10 ?_
  obtain ⟨g2, hF⟩ := ck_some hF
  refine mw_lald C dX12_ofMachine_11 zn142 zk142 (by decide) g2 ?_
  cases hF
  exact mw_lret C dX12_ofMachine_12 rfl rfl
def F_X12_ofMachine (x1 : Int) (x2 : Int) (h : MH) : Option (Int × MH) := F_X12_ofMachine_0 x1 x2 h
theorem T_X12_ofMachine (l : Launch) (X : XT) (x1 : Int) (x2 : Int) (h : MH) (t : (Int × MH)) (hF : F_X12_ofMachine x1 x2 h = some t) : Ct l X yX12_ofMachine cX12_ofMachine 3 (some .long) 2 [rfv (xd X) 141, iv x1, iv x2] zN zG h (some (lvv t.1)) zN zG t.2 0 0 := by
  refine Ct.head (by decide) (Nat.le_of_ble_eq_true rfl) (fun Z hX hl _ _ _ C => ?_)
  subst hX
  subst hl
  exact (T_X12_ofMachine_0 C x1 x2 _ _ hF)
/-! BottleLineModel.tables()I -/
def F_X12_tables_0 (h : MH) : Option (Int × MH) :=
  ck (in64 ((h 142 0) - 1)) <|
  some ((max 0 ((h 142 0) - 1)), h)
set_option maxRecDepth 100000 in
theorem T_X12_tables_0 {Z : ZT} (C : Cx Z cX12_tables 1 RX12 1 (some .int)) (h : MH) (t : (Int × MH)) (hF : F_X12_tables_0 h = some t) : MW Z (Qm Z (some (iv t.1)) zN zG t.2 0 0) 1 zN zG h 0 0 0 [(0, rfv (xd (zX Z)) 141)] [] := by
  unfold F_X12_tables_0 at hF
  refine mw_lconst (a := 0) C dX12_tables_0 lc_0 ?_
  refine mw_aload_n 0 C dX12_tables_1 rfl rfl ?_
  refine mw_get (k := 0) (T := TX12) (v := rfv (xd (zX Z)) 142) C dX12_tables_2 zn141 zk141 (by decide) rfl inX12 (by decide) wd889 rfl (zfv_r rfl zg_141_0) ?_
  refine mw_iconst C dX12_tables_5 ?_
  refine mw_lald C dX12_tables_6 zn142 zk142 (by decide) (by decide) ?_
  refine mw_lconst (a := 1) C dX12_tables_7 lc_1 ?_
  refine mw_lsub C dX12_tables_8 ?_
  obtain ⟨g1, hF⟩ := ck_some hF
  refine mw_mmaxL C dX12_tables_9 wd1103 wd806 wd16 wd807 (by decide) (Nat.le_of_ble_eq_true rfl) ⟨Nat.zero_le _, Nat.zero_le _⟩ (by decide) g1 ?_
  refine mw_l2i C dX12_tables_12 ?_
  cases hF
  exact mw_iret C dX12_tables_13 rfl rfl
def F_X12_tables (h : MH) : Option (Int × MH) := F_X12_tables_0 h
theorem T_X12_tables (l : Launch) (X : XT) (h : MH) (t : (Int × MH)) (hF : F_X12_tables h = some t) : Ct l X yX12_tables cX12_tables 1 (some .int) 1 [rfv (xd X) 141] zN zG h (some (iv t.1)) zN zG t.2 0 0 := by
  refine Ct.head (by decide) (Nat.le_of_ble_eq_true rfl) (fun Z hX hl _ _ _ C => ?_)
  subst hX
  subst hl
  exact (T_X12_tables_0 C _ _ hF)
/-! BottleLineModel.isSort(I)Z -/
def F_X12_isSort_0 (x1 : Int) (h : MH) : Option (Int × MH) :=
  ck (in32 x1) <|
  if x1 < 0 then
    some (0, h)
  else
    ck (in64 (h 142 1)) <|
    if (h 142 1) ≤ x1 then
      some (0, h)
    else
      some (1, h)
set_option maxRecDepth 100000 in
theorem T_X12_isSort_0 {Z : ZT} (C : Cx Z cX12_isSort 2 RX12 1 (some .boolean)) (x1 : Int) (h : MH) (t : (Int × MH)) (hF : F_X12_isSort_0 x1 h = some t) : MW Z (Qm Z (some (iv t.1)) zN zG t.2 0 0) 2 zN zG h 0 0 0 [(0, rfv (xd (zX Z)) 141), (1, iv x1)] [] := by
  unfold F_X12_isSort_0 at hF
  refine mw_iload_n 1 C dX12_isSort_0 rfl rfl ?_
  obtain ⟨g1, hF⟩ := ck_some hF
  rcases ite_some hF with ⟨c2, hF⟩ | ⟨c2, hF⟩
  · refine mw_if_lt_t (tgt := 20) C dX12_isSort_1 (by decide) g1 c2 ?_
    refine mw_iconst C dX12_isSort_20 ?_
    cases hF
    exact mw_zret C dX12_isSort_21 (Or.inl rfl) rfl rfl
  · refine mw_if_lt_f (tgt := 20) C dX12_isSort_1 (by decide) g1 c2 ?_
    refine mw_iload_n 1 C dX12_isSort_4 rfl rfl ?_
    refine mw_i2l C dX12_isSort_5 g1 ?_
    refine mw_aload_n 0 C dX12_isSort_6 rfl rfl ?_
    refine mw_get (k := 0) (T := TX12) (v := rfv (xd (zX Z)) 142) C dX12_isSort_7 zn141 zk141 (by decide) rfl inX12 (by decide) wd889 rfl (zfv_r rfl zg_141_0) ?_
    refine mw_iconst C dX12_isSort_10 ?_
    refine mw_lald C dX12_isSort_11 zn142 zk142 (by decide) (by decide) ?_
    obtain ⟨g3, hF⟩ := ck_some hF
    rcases ite_some hF with ⟨c4, hF⟩ | ⟨c4, hF⟩
    · refine mw_lcmp_ge_t (tgt := 20) C dX12_isSort_12 dX12_isSort_13 (by decide) (in64_of g1) g3 c4 ?_
      refine mw_iconst C dX12_isSort_20 ?_
      cases hF
      exact mw_zret C dX12_isSort_21 (Or.inl rfl) rfl rfl
    · refine mw_lcmp_ge_f (tgt := 20) C dX12_isSort_12 dX12_isSort_13 (by decide) (in64_of g1) g3 c4 ?_
      refine mw_iconst C dX12_isSort_16 ?_
      refine mw_goto (tgt := 21) C dX12_isSort_17 (by decide) ?_
      cases hF
      exact mw_zret C dX12_isSort_21 (Or.inr rfl) rfl rfl
def F_X12_isSort (x1 : Int) (h : MH) : Option (Int × MH) := F_X12_isSort_0 x1 h
theorem T_X12_isSort (l : Launch) (X : XT) (x1 : Int) (h : MH) (t : (Int × MH)) (hF : F_X12_isSort x1 h = some t) : Ct l X yX12_isSort cX12_isSort 2 (some .boolean) 1 [rfv (xd X) 141, iv x1] zN zG h (some (iv t.1)) zN zG t.2 0 0 := by
  refine Ct.head (by decide) (Nat.le_of_ble_eq_true rfl) (fun Z hX hl _ _ _ C => ?_)
  subst hX
  subst hl
  exact (T_X12_isSort_0 C x1 _ _ hF)
/-! BottleLineModel.made()J -/
def F_X12_made_0 (h : MH) : Option (Int × MH) :=
  ck (in64 (h 142 0)) <|
  if (h 142 0) ≠ 0 then
    (F_X12_ofMachine ((h 142 0) - 1) 6 h).bind fun q3 =>
    some (q3.1, q3.2)
  else
    some (0, h)
set_option maxRecDepth 100000 in
theorem T_X12_made_0 {Z : ZT} (C : Cx Z cX12_made 1 RX12 3 (some .long)) (h : MH) (t : (Int × MH)) (hF : F_X12_made_0 h = some t) : MW Z (Qm Z (some (lvv t.1)) zN zG t.2 0 0) 1 zN zG h 0 0 0 [(0, rfv (xd (zX Z)) 141)] [] := by
  unfold F_X12_made_0 at hF
  refine mw_aload_n 0 C dX12_made_0 rfl rfl ?_
  refine mw_get (k := 0) (T := TX12) (v := rfv (xd (zX Z)) 142) C dX12_made_1 zn141 zk141 (by decide) rfl inX12 (by decide) wd889 rfl (zfv_r rfl zg_141_0) ?_
  refine mw_iconst C dX12_made_4 ?_
  refine mw_lald C dX12_made_5 zn142 zk142 (by decide) (by decide) ?_
  refine mw_lconst (a := 0) C dX12_made_6 lc_0 ?_
  obtain ⟨g1, hF⟩ := ck_some hF
  rcases ite_some hF with ⟨c2, hF⟩ | ⟨c2, hF⟩
  · refine mw_lcmp_ne_t (tgt := 15) C dX12_made_7 dX12_made_8 (by decide) g1 (by decide) c2 ?_
    refine mw_aload_n 0 C dX12_made_15 rfl rfl ?_
    refine mw_aload_n 0 C dX12_made_16 rfl rfl ?_
    refine mw_get (k := 0) (T := TX12) (v := rfv (xd (zX Z)) 142) C dX12_made_17 zn141 zk141 (by decide) rfl inX12 (by decide) wd889 rfl (zfv_r rfl zg_141_0) ?_
    refine mw_iconst C dX12_made_20 ?_
    refine mw_lald C dX12_made_21 zn142 zk142 (by decide) (by decide) ?_
    refine mw_l2i C dX12_made_22 ?_
    refine mw_iconst C dX12_made_23 ?_
    refine mw_isub C dX12_made_24 ?_
    refine mw_bipush C dX12_made_25 bp_6 ?_
    obtain ⟨q3, hq3, hF⟩ := bind_some hF
    refine mw_callV (c := 141) [iv ((h 142 0) - 1), iv 6] [] C dX12_made_27 (T_X12_ofMachine (zl Z) (zX Z) ((h 142 0) - 1) 6 _ _ hq3) rfl zn141 zk141 (by decide) rfl wd1086 wd1087 wd1382 wd14 wd1088 hd_X12_ofMachine rfl (by decide) (by decide) (Nat.le_of_ble_eq_true rfl) ⟨Nat.zero_le _, Nat.zero_le _⟩ ?_
    cases hF
    exact mw_lret C dX12_made_30 rfl rfl
  · refine mw_lcmp_ne_f (tgt := 15) C dX12_made_7 dX12_made_8 (by decide) g1 (by decide) c2 ?_
    refine mw_lconst (a := 0) C dX12_made_11 lc_0 ?_
    refine mw_goto (tgt := 30) C dX12_made_12 (by decide) ?_
    cases hF
    exact mw_lret C dX12_made_30 rfl rfl
def F_X12_made (h : MH) : Option (Int × MH) := F_X12_made_0 h
theorem T_X12_made (l : Launch) (X : XT) (h : MH) (t : (Int × MH)) (hF : F_X12_made h = some t) : Ct l X yX12_made cX12_made 1 (some .long) 3 [rfv (xd X) 141] zN zG h (some (lvv t.1)) zN zG t.2 0 0 := by
  refine Ct.head (by decide) (Nat.le_of_ble_eq_true rfl) (fun Z hX hl _ _ _ C => ?_)
  subst hX
  subst hl
  exact (T_X12_made_0 C _ _ hF)
/-! BottleLineModel.many(I)I -/
def F_X12_many_9 (h : MH) : Option (Int × MH) :=
  (F_X12_refuse 1 h).bind fun q1 =>
  some (q1.1, q1.2)
set_option maxRecDepth 100000 in
theorem T_X12_many_9 {Z : ZT} (C : Cx Z cX12_many 2 RX12 4 (some .int)) (h : MH) (t : (Int × MH)) (hF : F_X12_many_9 h = some t) : MW Z (Qm Z (some (iv t.1)) zN zG t.2 0 0) 2 zN zG h 0 0 9 [(0, rfv (xd (zX Z)) 141)] [] := by
  unfold F_X12_many_9 at hF
  refine mw_aload_n 0 C dX12_many_9 rfl rfl ?_
  refine mw_iconst C dX12_many_10 ?_
  obtain ⟨q1, hq1, hF⟩ := bind_some hF
  refine mw_callV (c := 141) [iv 1] [] C dX12_many_11 (T_X12_refuse (zl Z) (zX Z) 1 _ _ hq1) rfl zn141 zk141 (by decide) rfl wd997 wd998 wd1360 wd14 wd999 hd_X12_refuse rfl (by decide) (by decide) (Nat.le_of_ble_eq_true rfl) ⟨Nat.zero_le _, Nat.zero_le _⟩ ?_
  cases hF
  exact mw_iret C dX12_many_14 rfl rfl
def F_X12_many_34 (s1 : Int) (h : MH) : Option (Int × MH) :=
  (F_X12_gives s1 h).bind fun q1 =>
  some (q1.1, q1.2)
set_option maxRecDepth 100000 in
theorem T_X12_many_34 {Z : ZT} (C : Cx Z cX12_many 2 RX12 4 (some .int)) (s1 : Int) (h : MH) (t : (Int × MH)) (hF : F_X12_many_34 s1 h = some t) : MW Z (Qm Z (some (iv t.1)) zN zG t.2 0 0) 2 zN zG h 0 0 34 [] [lvv s1, rfv (xd (zX Z)) 141] := by
  unfold F_X12_many_34 at hF
  obtain ⟨q1, hq1, hF⟩ := bind_some hF
  refine mw_callV (c := 141) [lvv s1] [] C dX12_many_34 (T_X12_gives (zl Z) (zX Z) s1 _ _ hq1) rfl zn141 zk141 (by decide) rfl wd1069 wd1070 wd1379 wd14 wd1071 hd_X12_gives rfl (by decide) (by decide) (Nat.le_of_ble_eq_true rfl) ⟨Nat.zero_le _, Nat.zero_le _⟩ ?_
  cases hF
  exact mw_iret C dX12_many_37 rfl rfl
def F_X12_many_0 (x1 : Int) (h : MH) : Option (Int × MH) :=
  ck (in32 x1) <|
  if x1 < 0 then
    F_X12_many_9 h
  else
    if x1 ≤ 3 then
      if x1 ≠ 3 then
        ck (0 ≤ x1 ∧ x1 < 2640) <|
        F_X12_many_34 (h 142 x1.toNat) h
      else
        (F_X12_made h).bind fun q6 =>
        F_X12_many_34 q6.1 q6.2
    else
      F_X12_many_9 h
set_option maxRecDepth 100000 in
theorem T_X12_many_0 {Z : ZT} (C : Cx Z cX12_many 2 RX12 4 (some .int)) (x1 : Int) (h : MH) (t : (Int × MH)) (hF : F_X12_many_0 x1 h = some t) : MW Z (Qm Z (some (iv t.1)) zN zG t.2 0 0) 2 zN zG h 0 0 0 [(0, rfv (xd (zX Z)) 141), (1, iv x1)] [] := by
  unfold F_X12_many_0 at hF
  refine mw_iload_n 1 C dX12_many_0 rfl rfl ?_
  obtain ⟨g1, hF⟩ := ck_some hF
  rcases ite_some hF with ⟨c2, hF⟩ | ⟨c2, hF⟩
  · refine mw_if_lt_t (tgt := 9) C dX12_many_1 (by decide) g1 c2 ?_
    refine mw_sub [0] rfl ?_
    exact T_X12_many_9 C _ _ hF
  · refine mw_if_lt_f (tgt := 9) C dX12_many_1 (by decide) g1 c2 ?_
    refine mw_iload_n 1 C dX12_many_4 rfl rfl ?_
    refine mw_iconst C dX12_many_5 ?_
    rcases ite_some hF with ⟨c3, hF⟩ | ⟨c3, hF⟩
    · refine mw_icmp_le_t (tgt := 15) C dX12_many_6 (by decide) g1 (by decide) c3 ?_
      refine mw_aload_n 0 C dX12_many_15 rfl rfl ?_
      refine mw_iload_n 1 C dX12_many_16 rfl rfl ?_
      refine mw_iconst C dX12_many_17 ?_
      rcases ite_some hF with ⟨c4, hF⟩ | ⟨c4, hF⟩
      · refine mw_icmp_ne_t (tgt := 28) C dX12_many_18 (by decide) g1 (by decide) c4 ?_
        refine mw_aload_n 0 C dX12_many_28 rfl rfl ?_
        refine mw_get (k := 0) (T := TX12) (v := rfv (xd (zX Z)) 142) C dX12_many_29 zn141 zk141 (by decide) rfl inX12 (by decide) wd889 rfl (zfv_r rfl zg_141_0) ?_
        refine mw_iload_n 1 C dX12_many_32 rfl rfl ?_
        obtain ⟨g5, hF⟩ := ck_some hF
        refine mw_lald C dX12_many_33 zn142 zk142 (by decide) g5 ?_
        refine mw_sub [] rfl ?_
        exact T_X12_many_34 C (h 142 x1.toNat) _ _ hF
      · refine mw_icmp_ne_f (tgt := 28) C dX12_many_18 (by decide) g1 (by decide) c4 ?_
        refine mw_aload_n 0 C dX12_many_21 rfl rfl ?_
        obtain ⟨q6, hq6, hF⟩ := bind_some hF
        refine mw_callV (c := 141) [] [rfv (xd (zX Z)) 141] C dX12_many_22 (T_X12_made (zl Z) (zX Z) _ _ hq6) rfl zn141 zk141 (by decide) rfl wd1083 wd1084 wd1381 wd14 wd1085 hd_X12_made rfl (by decide) (by decide) (Nat.le_of_ble_eq_true rfl) ⟨Nat.zero_le _, Nat.zero_le _⟩ ?_
        refine mw_goto (tgt := 34) C dX12_many_25 (by decide) ?_
        refine mw_sub [] rfl ?_
        exact T_X12_many_34 C q6.1 _ _ hF
    · refine mw_icmp_le_f (tgt := 15) C dX12_many_6 (by decide) g1 (by decide) c3 ?_
      refine mw_sub [0] rfl ?_
      exact T_X12_many_9 C _ _ hF
def F_X12_many (x1 : Int) (h : MH) : Option (Int × MH) := F_X12_many_0 x1 h
theorem T_X12_many (l : Launch) (X : XT) (x1 : Int) (h : MH) (t : (Int × MH)) (hF : F_X12_many x1 h = some t) : Ct l X yX12_many cX12_many 2 (some .int) 4 [rfv (xd X) 141, iv x1] zN zG h (some (iv t.1)) zN zG t.2 0 0 := by
  refine Ct.head (by decide) (Nat.le_of_ble_eq_true rfl) (fun Z hX hl _ _ _ C => ?_)
  subst hX
  subst hl
  exact (T_X12_many_0 C x1 _ _ hF)
/-! BottleLineModel.machine(II)I -/
def F_X12_machine_19 (h : MH) : Option (Int × MH) :=
  (F_X12_refuse 1 h).bind fun q1 =>
  some (q1.1, q1.2)
set_option maxRecDepth 100000 in
theorem T_X12_machine_19 {Z : ZT} (C : Cx Z cX12_machine 3 RX12 3 (some .int)) (h : MH) (t : (Int × MH)) (hF : F_X12_machine_19 h = some t) : MW Z (Qm Z (some (iv t.1)) zN zG t.2 0 0) 3 zN zG h 0 0 19 [(0, rfv (xd (zX Z)) 141)] [] := by
  unfold F_X12_machine_19 at hF
  refine mw_aload_n 0 C dX12_machine_19 rfl rfl ?_
  refine mw_iconst C dX12_machine_20 ?_
  obtain ⟨q1, hq1, hF⟩ := bind_some hF
  refine mw_callV (c := 141) [iv 1] [] C dX12_machine_21 (T_X12_refuse (zl Z) (zX Z) 1 _ _ hq1) rfl zn141 zk141 (by decide) rfl wd997 wd998 wd1360 wd14 wd999 hd_X12_refuse rfl (by decide) (by decide) (Nat.le_of_ble_eq_true rfl) ⟨Nat.zero_le _, Nat.zero_le _⟩ ?_
  cases hF
  exact mw_iret C dX12_machine_24 rfl rfl
def F_X12_machine_50 (x1 : Int) (x2 : Int) (h : MH) : Option (Int × MH) :=
  (F_X12_ofMachine x1 x2 h).bind fun q1 =>
  (F_X12_gives q1.1 q1.2).bind fun q2 =>
  some (q2.1, q2.2)
set_option maxRecDepth 100000 in
theorem T_X12_machine_50 {Z : ZT} (C : Cx Z cX12_machine 3 RX12 3 (some .int)) (x1 : Int) (x2 : Int) (h : MH) (t : (Int × MH)) (hF : F_X12_machine_50 x1 x2 h = some t) : MW Z (Qm Z (some (iv t.1)) zN zG t.2 0 0) 3 zN zG h 0 0 50 [(0, rfv (xd (zX Z)) 141), (1, iv x1), (2, iv x2)] [] := by
  unfold F_X12_machine_50 at hF
  refine mw_aload_n 0 C dX12_machine_50 rfl rfl ?_
  refine mw_aload_n 0 C dX12_machine_51 rfl rfl ?_
  refine mw_iload_n 1 C dX12_machine_52 rfl rfl ?_
  refine mw_iload_n 2 C dX12_machine_53 rfl rfl ?_
  obtain ⟨q1, hq1, hF⟩ := bind_some hF
  refine mw_callV (c := 141) [iv x1, iv x2] [rfv (xd (zX Z)) 141] C dX12_machine_54 (T_X12_ofMachine (zl Z) (zX Z) x1 x2 _ _ hq1) rfl zn141 zk141 (by decide) rfl wd1086 wd1087 wd1382 wd14 wd1088 hd_X12_ofMachine rfl (by decide) (by decide) (Nat.le_of_ble_eq_true rfl) ⟨Nat.zero_le _, Nat.zero_le _⟩ ?_
  obtain ⟨q2, hq2, hF⟩ := bind_some hF
  refine mw_callV (c := 141) [lvv q1.1] [] C dX12_machine_57 (T_X12_gives (zl Z) (zX Z) q1.1 _ _ hq2) rfl zn141 zk141 (by decide) rfl wd1069 wd1070 wd1379 wd14 wd1071 hd_X12_gives rfl (by decide) (by decide) (Nat.le_of_ble_eq_true rfl) ⟨Nat.zero_le _, Nat.zero_le _⟩ ?_
  cases hF
  exact mw_iret C dX12_machine_60 rfl rfl
def F_X12_machine_0 (x1 : Int) (x2 : Int) (h : MH) : Option (Int × MH) :=
  ck (in32 x1) <|
  (F_X12_isMachine x1 h).bind fun q2 =>
  ck (in32 q2.1) <|
  if q2.1 = 0 then
    F_X12_machine_19 q2.2
  else
    ck (in32 x2) <|
    if x2 < 0 then
      F_X12_machine_19 q2.2
    else
      if x2 ≤ 6 then
        if x2 ≠ 5 then
          F_X12_machine_50 x1 x2 q2.2
        else
          (F_X12_ofMachine x1 5 q2.2).bind fun q9 =>
          ck (in64 q9.1) <|
          if q9.1 ≠ (-1) then
            F_X12_machine_50 x1 x2 q9.2
          else
            (F_X12_refuse 6 q9.2).bind fun q12 =>
            some (q12.1, q12.2)
      else
        F_X12_machine_19 q2.2
set_option maxRecDepth 100000 in
theorem T_X12_machine_0 {Z : ZT} (C : Cx Z cX12_machine 3 RX12 3 (some .int)) (x1 : Int) (x2 : Int) (h : MH) (t : (Int × MH)) (hF : F_X12_machine_0 x1 x2 h = some t) : MW Z (Qm Z (some (iv t.1)) zN zG t.2 0 0) 3 zN zG h 0 0 0 [(0, rfv (xd (zX Z)) 141), (1, iv x1), (2, iv x2)] [] := by
  unfold F_X12_machine_0 at hF
  refine mw_aload_n 0 C dX12_machine_0 rfl rfl ?_
  refine mw_iload_n 1 C dX12_machine_1 rfl rfl ?_
  obtain ⟨g1, hF⟩ := ck_some hF
  refine mw_i2l C dX12_machine_2 g1 ?_
  obtain ⟨q2, hq2, hF⟩ := bind_some hF
  refine mw_callV (c := 141) [lvv x1] [] C dX12_machine_3 (T_X12_isMachine (zl Z) (zX Z) x1 _ _ hq2) rfl zn141 zk141 (by decide) rfl wd1093 wd1094 wd1383 wd14 wd1095 hd_X12_isMachine rfl (by decide) (by decide) (Nat.le_of_ble_eq_true rfl) ⟨Nat.zero_le _, Nat.zero_le _⟩ ?_
  obtain ⟨g3, hF⟩ := ck_some hF
  rcases ite_some hF with ⟨c4, hF⟩ | ⟨c4, hF⟩
  · refine mw_if_eq_t (tgt := 19) C dX12_machine_6 (by decide) g3 c4 ?_
    refine mw_sub [0] rfl ?_
    exact T_X12_machine_19 C _ _ hF
  · refine mw_if_eq_f (tgt := 19) C dX12_machine_6 (by decide) g3 c4 ?_
    refine mw_iload_n 2 C dX12_machine_9 rfl rfl ?_
    obtain ⟨g5, hF⟩ := ck_some hF
    rcases ite_some hF with ⟨c6, hF⟩ | ⟨c6, hF⟩
    · refine mw_if_lt_t (tgt := 19) C dX12_machine_10 (by decide) g5 c6 ?_
      refine mw_sub [0] rfl ?_
      exact T_X12_machine_19 C _ _ hF
    · refine mw_if_lt_f (tgt := 19) C dX12_machine_10 (by decide) g5 c6 ?_
      refine mw_iload_n 2 C dX12_machine_13 rfl rfl ?_
      refine mw_bipush C dX12_machine_14 bp_6 ?_
      rcases ite_some hF with ⟨c7, hF⟩ | ⟨c7, hF⟩
      · refine mw_icmp_le_t (tgt := 25) C dX12_machine_16 (by decide) g5 (by decide) c7 ?_
        refine mw_iload_n 2 C dX12_machine_25 rfl rfl ?_
        refine mw_iconst C dX12_machine_26 ?_
        rcases ite_some hF with ⟨c8, hF⟩ | ⟨c8, hF⟩
        · refine mw_icmp_ne_t (tgt := 50) C dX12_machine_27 (by decide) g5 (by decide) c8 ?_
          exact T_X12_machine_50 C x1 x2 _ _ hF
        · refine mw_icmp_ne_f (tgt := 50) C dX12_machine_27 (by decide) g5 (by decide) c8 ?_
          refine mw_aload_n 0 C dX12_machine_30 rfl rfl ?_
          refine mw_iload_n 1 C dX12_machine_31 rfl rfl ?_
          refine mw_iconst C dX12_machine_32 ?_
          obtain ⟨q9, hq9, hF⟩ := bind_some hF
          refine mw_callV (c := 141) [iv x1, iv 5] [] C dX12_machine_33 (T_X12_ofMachine (zl Z) (zX Z) x1 5 _ _ hq9) rfl zn141 zk141 (by decide) rfl wd1086 wd1087 wd1382 wd14 wd1088 hd_X12_ofMachine rfl (by decide) (by decide) (Nat.le_of_ble_eq_true rfl) ⟨Nat.zero_le _, Nat.zero_le _⟩ ?_
          refine mw_ldc2 (a := (-1)) C dX12_machine_36 wd977 rfl ?_
          obtain ⟨g10, hF⟩ := ck_some hF
          rcases ite_some hF with ⟨c11, hF⟩ | ⟨c11, hF⟩
          · refine mw_lcmp_ne_t (tgt := 50) C dX12_machine_39 dX12_machine_40 (by decide) g10 (by decide) c11 ?_
            exact T_X12_machine_50 C x1 x2 _ _ hF
          · refine mw_lcmp_ne_f (tgt := 50) C dX12_machine_39 dX12_machine_40 (by decide) g10 (by decide) c11 ?_
            refine mw_aload_n 0 C dX12_machine_43 rfl rfl ?_
            refine mw_bipush C dX12_machine_44 bp_6 ?_
            obtain ⟨q12, hq12, hF⟩ := bind_some hF
            refine mw_callV (c := 141) [iv 6] [] C dX12_machine_46 (T_X12_refuse (zl Z) (zX Z) 6 _ _ hq12) rfl zn141 zk141 (by decide) rfl wd997 wd998 wd1360 wd14 wd999 hd_X12_refuse rfl (by decide) (by decide) (Nat.le_of_ble_eq_true rfl) ⟨Nat.zero_le _, Nat.zero_le _⟩ ?_
            cases hF
            exact mw_iret C dX12_machine_49 rfl rfl
      · refine mw_icmp_le_f (tgt := 25) C dX12_machine_16 (by decide) g5 (by decide) c7 ?_
        refine mw_sub [0] rfl ?_
        exact T_X12_machine_19 C _ _ hF
def F_X12_machine (x1 : Int) (x2 : Int) (h : MH) : Option (Int × MH) := F_X12_machine_0 x1 x2 h
theorem T_X12_machine (l : Launch) (X : XT) (x1 : Int) (x2 : Int) (h : MH) (t : (Int × MH)) (hF : F_X12_machine x1 x2 h = some t) : Ct l X yX12_machine cX12_machine 3 (some .int) 3 [rfv (xd X) 141, iv x1, iv x2] zN zG h (some (iv t.1)) zN zG t.2 0 0 := by
  refine Ct.head (by decide) (Nat.le_of_ble_eq_true rfl) (fun Z hX hl _ _ _ C => ?_)
  subst hX
  subst hl
  exact (T_X12_machine_0 C x1 x2 _ _ hF)
/-! BottleLineModel.table(II)I -/
def F_X12_table_21 (h : MH) : Option (Int × MH) :=
  (F_X12_refuse 1 h).bind fun q1 =>
  some (q1.1, q1.2)
set_option maxRecDepth 100000 in
theorem T_X12_table_21 {Z : ZT} (C : Cx Z cX12_table 3 RX12 3 (some .int)) (h : MH) (t : (Int × MH)) (hF : F_X12_table_21 h = some t) : MW Z (Qm Z (some (iv t.1)) zN zG t.2 0 0) 3 zN zG h 0 0 21 [(0, rfv (xd (zX Z)) 141)] [] := by
  unfold F_X12_table_21 at hF
  refine mw_aload_n 0 C dX12_table_21 rfl rfl ?_
  refine mw_iconst C dX12_table_22 ?_
  obtain ⟨q1, hq1, hF⟩ := bind_some hF
  refine mw_callV (c := 141) [iv 1] [] C dX12_table_23 (T_X12_refuse (zl Z) (zX Z) 1 _ _ hq1) rfl zn141 zk141 (by decide) rfl wd997 wd998 wd1360 wd14 wd999 hd_X12_refuse rfl (by decide) (by decide) (Nat.le_of_ble_eq_true rfl) ⟨Nat.zero_le _, Nat.zero_le _⟩ ?_
  cases hF
  exact mw_iret C dX12_table_26 rfl rfl
def F_X12_table_41 (s2 : Int) (s3 : Int) (h : MH) : Option (Int × MH) :=
  (F_X12_ofMachine s2 s3 h).bind fun q1 =>
  (F_X12_gives q1.1 q1.2).bind fun q2 =>
  some (q2.1, q2.2)
set_option maxRecDepth 100000 in
theorem T_X12_table_41 {Z : ZT} (C : Cx Z cX12_table 3 RX12 3 (some .int)) (s2 : Int) (s3 : Int) (h : MH) (t : (Int × MH)) (hF : F_X12_table_41 s2 s3 h = some t) : MW Z (Qm Z (some (iv t.1)) zN zG t.2 0 0) 3 zN zG h 0 0 41 [] [iv s3, iv s2, rfv (xd (zX Z)) 141, rfv (xd (zX Z)) 141] := by
  unfold F_X12_table_41 at hF
  obtain ⟨q1, hq1, hF⟩ := bind_some hF
  refine mw_callV (c := 141) [iv s2, iv s3] [rfv (xd (zX Z)) 141] C dX12_table_41 (T_X12_ofMachine (zl Z) (zX Z) s2 s3 _ _ hq1) rfl zn141 zk141 (by decide) rfl wd1086 wd1087 wd1382 wd14 wd1088 hd_X12_ofMachine rfl (by decide) (by decide) (Nat.le_of_ble_eq_true rfl) ⟨Nat.zero_le _, Nat.zero_le _⟩ ?_
  obtain ⟨q2, hq2, hF⟩ := bind_some hF
  refine mw_callV (c := 141) [lvv q1.1] [] C dX12_table_44 (T_X12_gives (zl Z) (zX Z) q1.1 _ _ hq2) rfl zn141 zk141 (by decide) rfl wd1069 wd1070 wd1379 wd14 wd1071 hd_X12_gives rfl (by decide) (by decide) (Nat.le_of_ble_eq_true rfl) ⟨Nat.zero_le _, Nat.zero_le _⟩ ?_
  cases hF
  exact mw_iret C dX12_table_47 rfl rfl
def F_X12_table_0 (x1 : Int) (x2 : Int) (h : MH) : Option (Int × MH) :=
  ck (in32 x1) <|
  if x1 < 0 then
    F_X12_table_21 h
  else
    (F_X12_tables h).bind fun q3 =>
    ck (in32 q3.1) <|
    if q3.1 ≤ x1 then
      F_X12_table_21 q3.2
    else
      ck (in32 x2) <|
      if x2 < 0 then
        F_X12_table_21 q3.2
      else
        if x2 ≤ 1 then
          if x2 ≠ 0 then
            F_X12_table_41 x1 12 q3.2
          else
            F_X12_table_41 x1 11 q3.2
        else
          F_X12_table_21 q3.2
set_option maxRecDepth 100000 in
theorem T_X12_table_0 {Z : ZT} (C : Cx Z cX12_table 3 RX12 3 (some .int)) (x1 : Int) (x2 : Int) (h : MH) (t : (Int × MH)) (hF : F_X12_table_0 x1 x2 h = some t) : MW Z (Qm Z (some (iv t.1)) zN zG t.2 0 0) 3 zN zG h 0 0 0 [(0, rfv (xd (zX Z)) 141), (1, iv x1), (2, iv x2)] [] := by
  unfold F_X12_table_0 at hF
  refine mw_iload_n 1 C dX12_table_0 rfl rfl ?_
  obtain ⟨g1, hF⟩ := ck_some hF
  rcases ite_some hF with ⟨c2, hF⟩ | ⟨c2, hF⟩
  · refine mw_if_lt_t (tgt := 21) C dX12_table_1 (by decide) g1 c2 ?_
    refine mw_sub [0] rfl ?_
    exact T_X12_table_21 C _ _ hF
  · refine mw_if_lt_f (tgt := 21) C dX12_table_1 (by decide) g1 c2 ?_
    refine mw_iload_n 1 C dX12_table_4 rfl rfl ?_
    refine mw_aload_n 0 C dX12_table_5 rfl rfl ?_
    obtain ⟨q3, hq3, hF⟩ := bind_some hF
    refine mw_callV (c := 141) [] [iv x1] C dX12_table_6 (T_X12_tables (zl Z) (zX Z) _ _ hq3) rfl zn141 zk141 (by decide) rfl wd1100 wd1101 wd1384 wd14 wd1102 hd_X12_tables rfl (by decide) (by decide) (Nat.le_of_ble_eq_true rfl) ⟨Nat.zero_le _, Nat.zero_le _⟩ ?_
    obtain ⟨g4, hF⟩ := ck_some hF
    rcases ite_some hF with ⟨c5, hF⟩ | ⟨c5, hF⟩
    · refine mw_icmp_ge_t (tgt := 21) C dX12_table_9 (by decide) g1 g4 c5 ?_
      refine mw_sub [0] rfl ?_
      exact T_X12_table_21 C _ _ hF
    · refine mw_icmp_ge_f (tgt := 21) C dX12_table_9 (by decide) g1 g4 c5 ?_
      refine mw_iload_n 2 C dX12_table_12 rfl rfl ?_
      obtain ⟨g6, hF⟩ := ck_some hF
      rcases ite_some hF with ⟨c7, hF⟩ | ⟨c7, hF⟩
      · refine mw_if_lt_t (tgt := 21) C dX12_table_13 (by decide) g6 c7 ?_
        refine mw_sub [0] rfl ?_
        exact T_X12_table_21 C _ _ hF
      · refine mw_if_lt_f (tgt := 21) C dX12_table_13 (by decide) g6 c7 ?_
        refine mw_iload_n 2 C dX12_table_16 rfl rfl ?_
        refine mw_iconst C dX12_table_17 ?_
        rcases ite_some hF with ⟨c8, hF⟩ | ⟨c8, hF⟩
        · refine mw_icmp_le_t (tgt := 27) C dX12_table_18 (by decide) g6 (by decide) c8 ?_
          refine mw_aload_n 0 C dX12_table_27 rfl rfl ?_
          refine mw_aload_n 0 C dX12_table_28 rfl rfl ?_
          refine mw_iload_n 1 C dX12_table_29 rfl rfl ?_
          refine mw_iload_n 2 C dX12_table_30 rfl rfl ?_
          rcases ite_some hF with ⟨c9, hF⟩ | ⟨c9, hF⟩
          · refine mw_if_ne_t (tgt := 39) C dX12_table_31 (by decide) g6 c9 ?_
            refine mw_bipush C dX12_table_39 bp_12 ?_
            refine mw_sub [] rfl ?_
            exact T_X12_table_41 C x1 12 _ _ hF
          · refine mw_if_ne_f (tgt := 39) C dX12_table_31 (by decide) g6 c9 ?_
            refine mw_bipush C dX12_table_34 bp_11 ?_
            refine mw_goto (tgt := 41) C dX12_table_36 (by decide) ?_
            refine mw_sub [] rfl ?_
            exact T_X12_table_41 C x1 11 _ _ hF
        · refine mw_icmp_le_f (tgt := 27) C dX12_table_18 (by decide) g6 (by decide) c8 ?_
          refine mw_sub [0] rfl ?_
          exact T_X12_table_21 C _ _ hF
def F_X12_table (x1 : Int) (x2 : Int) (h : MH) : Option (Int × MH) := F_X12_table_0 x1 x2 h
theorem T_X12_table (l : Launch) (X : XT) (x1 : Int) (x2 : Int) (h : MH) (t : (Int × MH)) (hF : F_X12_table x1 x2 h = some t) : Ct l X yX12_table cX12_table 3 (some .int) 3 [rfv (xd X) 141, iv x1, iv x2] zN zG h (some (iv t.1)) zN zG t.2 0 0 := by
  refine Ct.head (by decide) (Nat.le_of_ble_eq_true rfl) (fun Z hX hl _ _ _ C => ?_)
  subst hX
  subst hl
  exact (T_X12_table_0 C x1 x2 _ _ hF)
/-! BottleLineModel.wash(II)I -/
def F_X12_wash_43 (h : MH) : Option (Int × MH) :=
  (F_X12_refuse 1 h).bind fun q1 =>
  some (q1.1, q1.2)
set_option maxRecDepth 100000 in
theorem T_X12_wash_43 {Z : ZT} (C : Cx Z cX12_wash 3 RX12 2 (some .int)) (h : MH) (t : (Int × MH)) (hF : F_X12_wash_43 h = some t) : MW Z (Qm Z (some (iv t.1)) zN zG t.2 0 0) 3 zN zG h 0 0 43 [(0, rfv (xd (zX Z)) 141)] [] := by
  unfold F_X12_wash_43 at hF
  refine mw_aload_n 0 C dX12_wash_43 rfl rfl ?_
  refine mw_iconst C dX12_wash_44 ?_
  obtain ⟨q1, hq1, hF⟩ := bind_some hF
  refine mw_callV (c := 141) [iv 1] [] C dX12_wash_45 (T_X12_refuse (zl Z) (zX Z) 1 _ _ hq1) rfl zn141 zk141 (by decide) rfl wd997 wd998 wd1360 wd14 wd999 hd_X12_refuse rfl (by decide) (by decide) (Nat.le_of_ble_eq_true rfl) ⟨Nat.zero_le _, Nat.zero_le _⟩ ?_
  cases hF
  exact mw_iret C dX12_wash_48 rfl rfl
def F_X12_wash_0 (x1 : Int) (x2 : Int) (h : MH) : Option (Int × MH) :=
  (F_X12_isSort x1 h).bind fun q1 =>
  ck (in32 q1.1) <|
  if q1.1 = 0 then
    F_X12_wash_43 q1.2
  else
    (F_X12_isSort x2 q1.2).bind fun q4 =>
    ck (in32 q4.1) <|
    if q4.1 = 0 then
      F_X12_wash_43 q4.2
    else
      ck (in32 x1) <|
      ck (in32 x2) <|
      if x1 = x2 then
        F_X12_wash_43 q4.2
      else
        ck (0 ≤ ((140 + (7 * x1)) + x2) ∧ ((140 + (7 * x1)) + x2) < 2640) <|
        (F_X12_gives (q4.2 142 ((140 + (7 * x1)) + x2).toNat) q4.2).bind fun q11 =>
        some (q11.1, q11.2)
set_option maxRecDepth 100000 in
theorem T_X12_wash_0 {Z : ZT} (C : Cx Z cX12_wash 3 RX12 2 (some .int)) (x1 : Int) (x2 : Int) (h : MH) (t : (Int × MH)) (hF : F_X12_wash_0 x1 x2 h = some t) : MW Z (Qm Z (some (iv t.1)) zN zG t.2 0 0) 3 zN zG h 0 0 0 [(0, rfv (xd (zX Z)) 141), (1, iv x1), (2, iv x2)] [] := by
  unfold F_X12_wash_0 at hF
  refine mw_aload_n 0 C dX12_wash_0 rfl rfl ?_
  refine mw_iload_n 1 C dX12_wash_1 rfl rfl ?_
  obtain ⟨q1, hq1, hF⟩ := bind_some hF
  refine mw_callV (c := 141) [iv x1] [] C dX12_wash_2 (T_X12_isSort (zl Z) (zX Z) x1 _ _ hq1) rfl zn141 zk141 (by decide) rfl wd1108 wd1109 wd1385 wd14 wd1110 hd_X12_isSort rfl (by decide) (by decide) (Nat.le_of_ble_eq_true rfl) ⟨Nat.zero_le _, Nat.zero_le _⟩ ?_
  obtain ⟨g2, hF⟩ := ck_some hF
  rcases ite_some hF with ⟨c3, hF⟩ | ⟨c3, hF⟩
  · refine mw_if_eq_t (tgt := 43) C dX12_wash_5 (by decide) g2 c3 ?_
    refine mw_sub [0] rfl ?_
    exact T_X12_wash_43 C _ _ hF
  · refine mw_if_eq_f (tgt := 43) C dX12_wash_5 (by decide) g2 c3 ?_
    refine mw_aload_n 0 C dX12_wash_8 rfl rfl ?_
    refine mw_iload_n 2 C dX12_wash_9 rfl rfl ?_
    obtain ⟨q4, hq4, hF⟩ := bind_some hF
    refine mw_callV (c := 141) [iv x2] [] C dX12_wash_10 (T_X12_isSort (zl Z) (zX Z) x2 _ _ hq4) rfl zn141 zk141 (by decide) rfl wd1108 wd1109 wd1385 wd14 wd1110 hd_X12_isSort rfl (by decide) (by decide) (Nat.le_of_ble_eq_true rfl) ⟨Nat.zero_le _, Nat.zero_le _⟩ ?_
    obtain ⟨g5, hF⟩ := ck_some hF
    rcases ite_some hF with ⟨c6, hF⟩ | ⟨c6, hF⟩
    · refine mw_if_eq_t (tgt := 43) C dX12_wash_13 (by decide) g5 c6 ?_
      refine mw_sub [0] rfl ?_
      exact T_X12_wash_43 C _ _ hF
    · refine mw_if_eq_f (tgt := 43) C dX12_wash_13 (by decide) g5 c6 ?_
      refine mw_iload_n 1 C dX12_wash_16 rfl rfl ?_
      refine mw_iload_n 2 C dX12_wash_17 rfl rfl ?_
      obtain ⟨g7, hF⟩ := ck_some hF
      obtain ⟨g8, hF⟩ := ck_some hF
      rcases ite_some hF with ⟨c9, hF⟩ | ⟨c9, hF⟩
      · refine mw_icmp_eq_t (tgt := 43) C dX12_wash_18 (by decide) g7 g8 c9 ?_
        refine mw_sub [0] rfl ?_
        exact T_X12_wash_43 C _ _ hF
      · refine mw_icmp_eq_f (tgt := 43) C dX12_wash_18 (by decide) g7 g8 c9 ?_
        refine mw_aload_n 0 C dX12_wash_21 rfl rfl ?_
        refine mw_aload_n 0 C dX12_wash_22 rfl rfl ?_
        refine mw_get (k := 0) (T := TX12) (v := rfv (xd (zX Z)) 142) C dX12_wash_23 zn141 zk141 (by decide) rfl inX12 (by decide) wd889 rfl (zfv_r rfl zg_141_0) ?_
        refine mw_sipush C dX12_wash_26 sp_140 ?_
        refine mw_bipush C dX12_wash_29 bp_7 ?_
        refine mw_iload_n 1 C dX12_wash_31 rfl rfl ?_
        refine mw_imul C dX12_wash_32 ?_
        refine mw_iadd C dX12_wash_33 ?_
        refine mw_iload_n 2 C dX12_wash_34 rfl rfl ?_
        refine mw_iadd C dX12_wash_35 ?_
        obtain ⟨g10, hF⟩ := ck_some hF
        refine mw_lald C dX12_wash_36 zn142 zk142 (by decide) g10 ?_
        obtain ⟨q11, hq11, hF⟩ := bind_some hF
        refine mw_callV (c := 141) [lvv (q4.2 142 ((140 + (7 * x1)) + x2).toNat)] [] C dX12_wash_37 (T_X12_gives (zl Z) (zX Z) (q4.2 142 ((140 + (7 * x1)) + x2).toNat) _ _ hq11) rfl zn141 zk141 (by decide) rfl wd1069 wd1070 wd1379 wd14 wd1071 hd_X12_gives rfl (by decide) (by decide) (Nat.le_of_ble_eq_true rfl) ⟨Nat.zero_le _, Nat.zero_le _⟩ ?_
        refine mw_goto (tgt := 48) C dX12_wash_40 (by decide) ?_
        cases hF
        exact mw_iret C dX12_wash_48 rfl rfl
def F_X12_wash (x1 : Int) (x2 : Int) (h : MH) : Option (Int × MH) := F_X12_wash_0 x1 x2 h
theorem T_X12_wash (l : Launch) (X : XT) (x1 : Int) (x2 : Int) (h : MH) (t : (Int × MH)) (hF : F_X12_wash x1 x2 h = some t) : Ct l X yX12_wash cX12_wash 3 (some .int) 2 [rfv (xd X) 141, iv x1, iv x2] zN zG h (some (iv t.1)) zN zG t.2 0 0 := by
  refine Ct.head (by decide) (Nat.le_of_ble_eq_true rfl) (fun Z hX hl _ _ _ C => ?_)
  subst hX
  subst hl
  exact (T_X12_wash_0 C x1 x2 _ _ hF)
/-! BottleLineModel.begin(I)Z -/
def F_X12_begin_0 (x1 : Int) (h : MH) : Option (Int × MH) :=
  ck (in32 x1) <|
  (F_X12_isFrom x1 0 9999 h).bind fun q2 =>
  ck (in32 q2.1) <|
  if q2.1 ≠ 0 then
    (F_X12_fresh 0 x1 q2.2).bind fun q5 =>
    (F_X12_is 0 q5).bind fun q6 =>
    ck (q6.1 = 0 ∨ q6.1 = 1) <|
    some (q6.1, q6.2)
  else
    (F_X12_is 1 q2.2).bind fun q8 =>
    ck (q8.1 = 0 ∨ q8.1 = 1) <|
    some (q8.1, q8.2)
set_option maxRecDepth 100000 in
theorem T_X12_begin_0 {Z : ZT} (C : Cx Z cX12_begin 2 RX12 3 (some .boolean)) (x1 : Int) (h : MH) (t : (Int × MH)) (hF : F_X12_begin_0 x1 h = some t) : MW Z (Qm Z (some (iv t.1)) zN zG t.2 0 0) 2 zN zG h 0 0 0 [(0, rfv (xd (zX Z)) 141), (1, iv x1)] [] := by
  unfold F_X12_begin_0 at hF
  refine mw_iload_n 1 C dX12_begin_0 rfl rfl ?_
  obtain ⟨g1, hF⟩ := ck_some hF
  refine mw_i2l C dX12_begin_1 g1 ?_
  refine mw_lconst (a := 0) C dX12_begin_2 lc_0 ?_
  refine mw_ldc2 (a := 9999) C dX12_begin_3 wd1115 rfl ?_
  obtain ⟨q2, hq2, hF⟩ := bind_some hF
  refine mw_callS [lvv x1, lvv 0, lvv 9999] [] C dX12_begin_6 (T_X12_isFrom (zl Z) (zX Z) x1 0 9999 _ _ hq2) rfl wd1116 wd1117 wd14 wd1118 hd_X12_isFrom rfl (by decide) (by decide) (Nat.le_of_ble_eq_true rfl) ⟨Nat.zero_le _, Nat.zero_le _⟩ ?_
  obtain ⟨g3, hF⟩ := ck_some hF
  rcases ite_some hF with ⟨c4, hF⟩ | ⟨c4, hF⟩
  · refine mw_if_ne_t (tgt := 18) C dX12_begin_9 (by decide) g3 c4 ?_
    refine mw_aload_n 0 C dX12_begin_18 rfl rfl ?_
    refine mw_iconst C dX12_begin_19 ?_
    refine mw_iload_n 1 C dX12_begin_20 rfl rfl ?_
    obtain ⟨q5, hq5, hF⟩ := bind_some hF
    refine mw_callV (c := 141) [iv 0, iv x1] [] C dX12_begin_21 (T_X12_fresh (zl Z) (zX Z) 0 x1 _ _ hq5) rfl zn141 zk141 (by decide) rfl wd1066 wd1067 wd1378 wd14 wd1068 hd_X12_fresh rfl (by decide) (by decide) (Nat.le_of_ble_eq_true rfl) ⟨Nat.zero_le _, Nat.zero_le _⟩ ?_
    refine mw_aload_n 0 C dX12_begin_24 rfl rfl ?_
    refine mw_iconst C dX12_begin_25 ?_
    obtain ⟨q6, hq6, hF⟩ := bind_some hF
    refine mw_callV (c := 141) [iv 0] [] C dX12_begin_26 (T_X12_is (zl Z) (zX Z) 0 _ _ hq6) rfl zn141 zk141 (by decide) rfl wd960 wd961 wd1357 wd14 wd962 hd_X12_is rfl (by decide) (by decide) (Nat.le_of_ble_eq_true rfl) ⟨Nat.zero_le _, Nat.zero_le _⟩ ?_
    obtain ⟨g7, hF⟩ := ck_some hF
    cases hF
    exact mw_zret C dX12_begin_29 g7 rfl rfl
  · refine mw_if_ne_f (tgt := 18) C dX12_begin_9 (by decide) g3 c4 ?_
    refine mw_aload_n 0 C dX12_begin_12 rfl rfl ?_
    refine mw_iconst C dX12_begin_13 ?_
    obtain ⟨q8, hq8, hF⟩ := bind_some hF
    refine mw_callV (c := 141) [iv 1] [] C dX12_begin_14 (T_X12_is (zl Z) (zX Z) 1 _ _ hq8) rfl zn141 zk141 (by decide) rfl wd960 wd961 wd1357 wd14 wd962 hd_X12_is rfl (by decide) (by decide) (Nat.le_of_ble_eq_true rfl) ⟨Nat.zero_le _, Nat.zero_le _⟩ ?_
    obtain ⟨g9, hF⟩ := ck_some hF
    cases hF
    exact mw_zret C dX12_begin_17 g9 rfl rfl
def F_X12_begin (x1 : Int) (h : MH) : Option (Int × MH) := F_X12_begin_0 x1 h
theorem T_X12_begin (l : Launch) (X : XT) (x1 : Int) (h : MH) (t : (Int × MH)) (hF : F_X12_begin x1 h = some t) : Ct l X yX12_begin cX12_begin 2 (some .boolean) 3 [rfv (xd X) 141, iv x1] zN zG h (some (iv t.1)) zN zG t.2 0 0 := by
  refine Ct.head (by decide) (Nat.le_of_ble_eq_true rfl) (fun Z hX hl _ _ _ C => ?_)
  subst hX
  subst hl
  exact (T_X12_begin_0 C x1 _ _ hF)
/-! BottleLineModel.draw(I)J -/
def F_X12_draw_0 (x1 : Int) (h : MH) : Option (Int × MH) :=
  ck (in64 (((h 142 4) * 3373) + 12289)) <|
  nx (hup h 142 4 (Int.tmod (((h 142 4) * 3373) + 12289) 65536)) fun h2 =>
  ck (in64 (h2 142 4)) <|
  ck (in32 x1) <|
  ck (in64 (Int.tdiv (h2 142 4) 8)) <|
  ck (x1 ≠ 0) <|
  some ((Int.tmod (Int.tdiv (h2 142 4) 8) x1), h2)
set_option maxRecDepth 100000 in
theorem T_X12_draw_0 {Z : ZT} (C : Cx Z cX12_draw 2 RX12 1 (some .long)) (x1 : Int) (h : MH) (t : (Int × MH)) (hF : F_X12_draw_0 x1 h = some t) : MW Z (Qm Z (some (lvv t.1)) zN zG t.2 0 0) 2 zN zG h 0 0 0 [(0, rfv (xd (zX Z)) 141), (1, iv x1)] [] := by
  unfold F_X12_draw_0 at hF
  refine mw_aload_n 0 C dX12_draw_0 rfl rfl ?_
  refine mw_get (k := 0) (T := TX12) (v := rfv (xd (zX Z)) 142) C dX12_draw_1 zn141 zk141 (by decide) rfl inX12 (by decide) wd889 rfl (zfv_r rfl zg_141_0) ?_
  refine mw_iconst C dX12_draw_4 ?_
  refine mw_aload_n 0 C dX12_draw_5 rfl rfl ?_
  refine mw_get (k := 0) (T := TX12) (v := rfv (xd (zX Z)) 142) C dX12_draw_6 zn141 zk141 (by decide) rfl inX12 (by decide) wd889 rfl (zfv_r rfl zg_141_0) ?_
  refine mw_iconst C dX12_draw_9 ?_
  refine mw_lald C dX12_draw_10 zn142 zk142 (by decide) (by decide) ?_
  refine mw_ldc2 (a := 3373) C dX12_draw_11 wd1136 rfl ?_
  refine mw_lmul C dX12_draw_14 ?_
  refine mw_ldc2 (a := 12289) C dX12_draw_15 wd1137 rfl ?_
  refine mw_ladd C dX12_draw_18 ?_
  refine mw_ldc2 (a := 65536) C dX12_draw_19 wd1138 rfl ?_
  obtain ⟨g1, hF⟩ := ck_some hF
  refine mw_lrem C dX12_draw_22 g1 (by decide) (by decide) ?_
  obtain ⟨h2, eh2, hF⟩ := nx_some hF
  refine mw_last C dX12_draw_23 zn142 zk142 (by decide) (by decide) (mw_h eh2 ?_)
  refine mw_aload_n 0 C dX12_draw_24 rfl rfl ?_
  refine mw_get (k := 0) (T := TX12) (v := rfv (xd (zX Z)) 142) C dX12_draw_25 zn141 zk141 (by decide) rfl inX12 (by decide) wd889 rfl (zfv_r rfl zg_141_0) ?_
  refine mw_iconst C dX12_draw_28 ?_
  refine mw_lald C dX12_draw_29 zn142 zk142 (by decide) (by decide) ?_
  refine mw_ldc2 (a := 8) C dX12_draw_30 wd1139 rfl ?_
  obtain ⟨g3, hF⟩ := ck_some hF
  refine mw_ldiv C dX12_draw_33 g3 (by decide) (by decide) ?_
  refine mw_iload_n 1 C dX12_draw_34 rfl rfl ?_
  obtain ⟨g4, hF⟩ := ck_some hF
  refine mw_i2l C dX12_draw_35 g4 ?_
  obtain ⟨g5, hF⟩ := ck_some hF
  obtain ⟨g6, hF⟩ := ck_some hF
  refine mw_lrem C dX12_draw_36 g5 (in64_of g4) g6 ?_
  cases hF
  exact mw_lret C dX12_draw_37 rfl rfl
def F_X12_draw (x1 : Int) (h : MH) : Option (Int × MH) := F_X12_draw_0 x1 h
theorem T_X12_draw (l : Launch) (X : XT) (x1 : Int) (h : MH) (t : (Int × MH)) (hF : F_X12_draw x1 h = some t) : Ct l X yX12_draw cX12_draw 2 (some .long) 1 [rfv (xd X) 141, iv x1] zN zG h (some (lvv t.1)) zN zG t.2 0 0 := by
  refine Ct.head (by decide) (Nat.le_of_ble_eq_true rfl) (fun Z hX hl _ _ _ C => ?_)
  subst hX
  subst hl
  exact (T_X12_draw_0 C x1 _ _ hF)
/-! BottleLineModel.stops(I)V -/
def F_X12_stops_104 (x2 : Int) (x3 : Int) (h : MH) : Option MH :=
  ck (in32 x3) <|
  if x3 = 0 then
    some h
  else
    ck (0 ≤ (x2 + 5) ∧ (x2 + 5) < 2640) <|
    nx (hup h 142 (x2 + 5).toNat 3) fun h4 =>
    some h4
set_option maxRecDepth 100000 in
theorem T_X12_stops_104 {Z : ZT} (C : Cx Z cX12_stops 4 RX12 2 none) (x2 : Int) (x3 : Int) (h : MH) (t : MH) (hF : F_X12_stops_104 x2 x3 h = some t) : MW Z (Qm Z none zN zG t 0 0) 4 zN zG h 0 0 104 [(0, rfv (xd (zX Z)) 141), (2, iv x2), (3, iv x3)] [] := by
  unfold F_X12_stops_104 at hF
  refine mw_iload_n 2 C dX12_stops_104 rfl rfl ?_
  obtain ⟨g1, hF⟩ := ck_some hF
  rcases ite_some hF with ⟨c2, hF⟩ | ⟨c2, hF⟩
  · refine mw_if_eq_t (tgt := 119) C dX12_stops_105 (by decide) g1 c2 ?_
    cases hF
    exact mw_vret C dX12_stops_119 rfl rfl
  · refine mw_if_eq_f (tgt := 119) C dX12_stops_105 (by decide) g1 c2 ?_
    refine mw_aload_n 0 C dX12_stops_108 rfl rfl ?_
    refine mw_get (k := 0) (T := TX12) (v := rfv (xd (zX Z)) 142) C dX12_stops_109 zn141 zk141 (by decide) rfl inX12 (by decide) wd889 rfl (zfv_r rfl zg_141_0) ?_
    refine mw_iload_n 1 C dX12_stops_112 rfl rfl ?_
    refine mw_iconst C dX12_stops_113 ?_
    refine mw_iadd C dX12_stops_114 ?_
    refine mw_ldc2 (a := 3) C dX12_stops_115 wd1140 rfl ?_
    obtain ⟨g3, hF⟩ := ck_some hF
    obtain ⟨h4, eh4, hF⟩ := nx_some hF
    refine mw_last C dX12_stops_118 zn142 zk142 (by decide) g3 (mw_h eh4 ?_)
    cases hF
    exact mw_vret C dX12_stops_119 rfl rfl
def F_X12_stops_24 (x2 : Int) (s0 : Int) (h : MH) : Option MH :=
  ck (0 ≤ (x2 + 5) ∧ (x2 + 5) < 2640) <|
  nx (hup h 142 (x2 + 5).toNat 0) fun h2 =>
  ck (in32 s0) <|
  if s0 = 0 then
    ck (0 ≤ (x2 + 2) ∧ (x2 + 2) < 2640) <|
    ck (in64 (h2 142 (x2 + 2).toNat)) <|
    if (h2 142 (x2 + 2).toNat) ≤ 0 then
      F_X12_stops_104 x2 s0 h2
    else
      (F_X12_draw 64 h2).bind fun q8 =>
      ck (in64 q8.1) <|
      ck (in64 (q8.2 142 (x2 + 2).toNat)) <|
      if (q8.2 142 (x2 + 2).toNat) ≤ q8.1 then
        F_X12_stops_104 x2 s0 q8.2
      else
        ck (0 ≤ (x2 + 3) ∧ (x2 + 3) < 2640) <|
        ck (0 ≤ (x2 + 4) ∧ (x2 + 4) < 2640) <|
        nx (hup q8.2 142 (x2 + 4).toNat ((q8.2 142 (x2 + 3).toNat) - 1)) fun h14 =>
        F_X12_stops_104 x2 1 h14
  else
    ck (0 ≤ (x2 + 4) ∧ (x2 + 4) < 2640) <|
    nx (hup h2 142 (x2 + 4).toNat ((h2 142 (x2 + 4).toNat) - 1)) fun h16 =>
    F_X12_stops_104 x2 s0 h16
set_option maxRecDepth 100000 in
theorem T_X12_stops_24 {Z : ZT} (C : Cx Z cX12_stops 4 RX12 2 none) (x2 : Int) (s0 : Int) (h : MH) (t : MH) (hF : F_X12_stops_24 x2 s0 h = some t) : MW Z (Qm Z none zN zG t 0 0) 4 zN zG h 0 0 24 [(0, rfv (xd (zX Z)) 141), (2, iv x2)] [iv s0] := by
  unfold F_X12_stops_24 at hF
  refine mw_istore_n [(3, iv s0), (0, rfv (xd (zX Z)) 141), (2, iv x2)] C dX12_stops_24 rfl (by decide) rfl ?_
  refine mw_aload_n 1 C dX12_stops_25 rfl rfl ?_
  refine mw_get (k := 0) (T := TX12) (v := rfv (xd (zX Z)) 142) C dX12_stops_26 zn141 zk141 (by decide) rfl inX12 (by decide) wd889 rfl (zfv_r rfl zg_141_0) ?_
  refine mw_iload_n 2 C dX12_stops_29 rfl rfl ?_
  refine mw_iconst C dX12_stops_30 ?_
  refine mw_iadd C dX12_stops_31 ?_
  refine mw_lconst (a := 0) C dX12_stops_32 lc_0 ?_
  obtain ⟨g1, hF⟩ := ck_some hF
  obtain ⟨h2, eh2, hF⟩ := nx_some hF
  refine mw_last C dX12_stops_33 zn142 zk142 (by decide) g1 (mw_h eh2 ?_)
  refine mw_iload_n 0 C dX12_stops_34 rfl rfl ?_
  obtain ⟨g3, hF⟩ := ck_some hF
  rcases ite_some hF with ⟨c4, hF⟩ | ⟨c4, hF⟩
  · refine mw_if_eq_t (tgt := 53) C dX12_stops_35 (by decide) g3 c4 ?_
    refine mw_aload_n 1 C dX12_stops_53 rfl rfl ?_
    refine mw_get (k := 0) (T := TX12) (v := rfv (xd (zX Z)) 142) C dX12_stops_54 zn141 zk141 (by decide) rfl inX12 (by decide) wd889 rfl (zfv_r rfl zg_141_0) ?_
    refine mw_iload_n 2 C dX12_stops_57 rfl rfl ?_
    refine mw_iconst C dX12_stops_58 ?_
    refine mw_iadd C dX12_stops_59 ?_
    obtain ⟨g5, hF⟩ := ck_some hF
    refine mw_lald C dX12_stops_60 zn142 zk142 (by decide) g5 ?_
    refine mw_lconst (a := 0) C dX12_stops_61 lc_0 ?_
    obtain ⟨g6, hF⟩ := ck_some hF
    rcases ite_some hF with ⟨c7, hF⟩ | ⟨c7, hF⟩
    · refine mw_lcmp_le_t (tgt := 104) C dX12_stops_62 dX12_stops_63 (by decide) g6 (by decide) c7 ?_
      refine mw_sub [1, 2, 0] rfl ?_
      exact T_X12_stops_104 C x2 s0 _ _ hF
    · refine mw_lcmp_le_f (tgt := 104) C dX12_stops_62 dX12_stops_63 (by decide) g6 (by decide) c7 ?_
      refine mw_aload_n 1 C dX12_stops_66 rfl rfl ?_
      refine mw_bipush C dX12_stops_67 bp_64 ?_
      obtain ⟨q8, hq8, hF⟩ := bind_some hF
      refine mw_callV (c := 141) [iv 64] [] C dX12_stops_69 (T_X12_draw (zl Z) (zX Z) 64 _ _ hq8) rfl zn141 zk141 (by decide) rfl wd1133 wd1134 wd1389 wd14 wd1135 hd_X12_draw rfl (by decide) (by decide) (Nat.le_of_ble_eq_true rfl) ⟨Nat.zero_le _, Nat.zero_le _⟩ ?_
      refine mw_aload_n 1 C dX12_stops_72 rfl rfl ?_
      refine mw_get (k := 0) (T := TX12) (v := rfv (xd (zX Z)) 142) C dX12_stops_73 zn141 zk141 (by decide) rfl inX12 (by decide) wd889 rfl (zfv_r rfl zg_141_0) ?_
      refine mw_iload_n 2 C dX12_stops_76 rfl rfl ?_
      refine mw_iconst C dX12_stops_77 ?_
      refine mw_iadd C dX12_stops_78 ?_
      refine mw_lald C dX12_stops_79 zn142 zk142 (by decide) g5 ?_
      obtain ⟨g9, hF⟩ := ck_some hF
      obtain ⟨g10, hF⟩ := ck_some hF
      rcases ite_some hF with ⟨c11, hF⟩ | ⟨c11, hF⟩
      · refine mw_lcmp_ge_t (tgt := 104) C dX12_stops_80 dX12_stops_81 (by decide) g9 g10 c11 ?_
        refine mw_sub [1, 2, 0] rfl ?_
        exact T_X12_stops_104 C x2 s0 _ _ hF
      · refine mw_lcmp_ge_f (tgt := 104) C dX12_stops_80 dX12_stops_81 (by decide) g9 g10 c11 ?_
        refine mw_aload_n 1 C dX12_stops_84 rfl rfl ?_
        refine mw_get (k := 0) (T := TX12) (v := rfv (xd (zX Z)) 142) C dX12_stops_85 zn141 zk141 (by decide) rfl inX12 (by decide) wd889 rfl (zfv_r rfl zg_141_0) ?_
        refine mw_iload_n 2 C dX12_stops_88 rfl rfl ?_
        refine mw_iconst C dX12_stops_89 ?_
        refine mw_iadd C dX12_stops_90 ?_
        refine mw_aload_n 1 C dX12_stops_91 rfl rfl ?_
        refine mw_get (k := 0) (T := TX12) (v := rfv (xd (zX Z)) 142) C dX12_stops_92 zn141 zk141 (by decide) rfl inX12 (by decide) wd889 rfl (zfv_r rfl zg_141_0) ?_
        refine mw_iload_n 2 C dX12_stops_95 rfl rfl ?_
        refine mw_iconst C dX12_stops_96 ?_
        refine mw_iadd C dX12_stops_97 ?_
        obtain ⟨g12, hF⟩ := ck_some hF
        refine mw_lald C dX12_stops_98 zn142 zk142 (by decide) g12 ?_
        refine mw_lconst (a := 1) C dX12_stops_99 lc_1 ?_
        refine mw_lsub C dX12_stops_100 ?_
        obtain ⟨g13, hF⟩ := ck_some hF
        obtain ⟨h14, eh14, hF⟩ := nx_some hF
        refine mw_last C dX12_stops_101 zn142 zk142 (by decide) g13 (mw_h eh14 ?_)
        refine mw_iconst C dX12_stops_102 ?_
        refine mw_istore_n [(3, iv 1), (0, rfv (xd (zX Z)) 141), (2, iv x2)] C dX12_stops_103 rfl (by decide) rfl ?_
        refine mw_sub [1, 2, 0] rfl ?_
        exact T_X12_stops_104 C x2 1 _ _ hF
  · refine mw_if_eq_f (tgt := 53) C dX12_stops_35 (by decide) g3 c4 ?_
    refine mw_aload_n 1 C dX12_stops_38 rfl rfl ?_
    refine mw_get (k := 0) (T := TX12) (v := rfv (xd (zX Z)) 142) C dX12_stops_39 zn141 zk141 (by decide) rfl inX12 (by decide) wd889 rfl (zfv_r rfl zg_141_0) ?_
    refine mw_iload_n 2 C dX12_stops_42 rfl rfl ?_
    refine mw_iconst C dX12_stops_43 ?_
    refine mw_iadd C dX12_stops_44 ?_
    refine mw_dup2 C dX12_stops_45 rfl rfl ?_
    obtain ⟨g15, hF⟩ := ck_some hF
    refine mw_lald C dX12_stops_46 zn142 zk142 (by decide) g15 ?_
    refine mw_lconst (a := 1) C dX12_stops_47 lc_1 ?_
    refine mw_lsub C dX12_stops_48 ?_
    obtain ⟨h16, eh16, hF⟩ := nx_some hF
    refine mw_last C dX12_stops_49 zn142 zk142 (by decide) g15 (mw_h eh16 ?_)
    refine mw_goto (tgt := 104) C dX12_stops_50 (by decide) ?_
    refine mw_sub [1, 2, 0] rfl ?_
    exact T_X12_stops_104 C x2 s0 _ _ hF
def F_X12_stops_0 (x1 : Int) (h : MH) : Option MH :=
  (F_X12_machineAt 0 x1 h).bind fun q1 =>
  ck (0 ≤ (q1.1 + 4) ∧ (q1.1 + 4) < 2640) <|
  ck (in64 (q1.2 142 (q1.1 + 4).toNat)) <|
  if (q1.2 142 (q1.1 + 4).toNat) ≤ 0 then
    F_X12_stops_24 q1.1 0 q1.2
  else
    F_X12_stops_24 q1.1 1 q1.2
set_option maxRecDepth 100000 in
theorem T_X12_stops_0 {Z : ZT} (C : Cx Z cX12_stops 4 RX12 2 none) (x1 : Int) (h : MH) (t : MH) (hF : F_X12_stops_0 x1 h = some t) : MW Z (Qm Z none zN zG t 0 0) 4 zN zG h 0 0 0 [(0, rfv (xd (zX Z)) 141), (1, iv x1)] [] := by
  unfold F_X12_stops_0 at hF
  refine mw_iconst C dX12_stops_0 ?_
  refine mw_iload_n 1 C dX12_stops_1 rfl rfl ?_
  obtain ⟨q1, hq1, hF⟩ := bind_some hF
  refine mw_callS [iv 0, iv x1] [] C dX12_stops_2 (T_X12_machineAt (zl Z) (zX Z) 0 x1 _ _ hq1) rfl wd1041 wd1042 wd14 wd1043 hd_X12_machineAt rfl (by decide) (by decide) (Nat.le_of_ble_eq_true rfl) ⟨Nat.zero_le _, Nat.zero_le _⟩ ?_
  refine mw_istore_n [(2, iv q1.1), (0, rfv (xd (zX Z)) 141), (1, iv x1)] C dX12_stops_5 rfl (by decide) rfl ?_
  refine mw_aload_n 1 C dX12_stops_6 rfl rfl ?_
  refine mw_get (k := 0) (T := TX12) (v := rfv (xd (zX Z)) 142) C dX12_stops_7 zn141 zk141 (by decide) rfl inX12 (by decide) wd889 rfl (zfv_r rfl zg_141_0) ?_
  refine mw_iload_n 0 C dX12_stops_10 rfl rfl ?_
  refine mw_iconst C dX12_stops_11 ?_
  refine mw_iadd C dX12_stops_12 ?_
  obtain ⟨g2, hF⟩ := ck_some hF
  refine mw_lald C dX12_stops_13 zn142 zk142 (by decide) g2 ?_
  refine mw_lconst (a := 0) C dX12_stops_14 lc_0 ?_
  obtain ⟨g3, hF⟩ := ck_some hF
  rcases ite_some hF with ⟨c4, hF⟩ | ⟨c4, hF⟩
  · refine mw_lcmp_le_t (tgt := 23) C dX12_stops_15 dX12_stops_16 (by decide) g3 (by decide) c4 ?_
    refine mw_iconst C dX12_stops_23 ?_
    refine mw_sub [1, 0] rfl ?_
    exact T_X12_stops_24 C q1.1 0 _ _ hF
  · refine mw_lcmp_le_f (tgt := 23) C dX12_stops_15 dX12_stops_16 (by decide) g3 (by decide) c4 ?_
    refine mw_iconst C dX12_stops_19 ?_
    refine mw_goto (tgt := 24) C dX12_stops_20 (by decide) ?_
    refine mw_sub [1, 0] rfl ?_
    exact T_X12_stops_24 C q1.1 1 _ _ hF
def F_X12_stops (x1 : Int) (h : MH) : Option MH := F_X12_stops_0 x1 h
theorem T_X12_stops (l : Launch) (X : XT) (x1 : Int) (h : MH) (t : MH) (hF : F_X12_stops x1 h = some t) : Ct l X yX12_stops cX12_stops 4 none 2 [rfv (xd X) 141, iv x1] zN zG h none zN zG t 0 0 := by
  refine Ct.head (by decide) (Nat.le_of_ble_eq_true rfl) (fun Z hX hl _ _ _ C => ?_)
  subst hX
  subst hl
  exact (T_X12_stops_0 C x1 _ _ hF)
/-! BottleLineModel.moves(II)V -/
def F_X12_moves_146 (x1 : Int) (x2 : Int) (x3 : Int) (x4 : Int) (x6 : Int) (x8 : Int) (x10 : Int) (h : MH) : Option MH :=
  ck (0 ≤ (x3 + 6) ∧ (x3 + 6) < 2640) <|
  nx (hup h 142 (x3 + 6).toNat ((h 142 (x3 + 6).toNat) + x10)) fun h2 =>
  ck (in64 x10) <|
  ck (in64 x4) <|
  if x4 ≤ x10 then
    some h2
  else
    ck (in64 x6) <|
    if x4 ≤ x6 then
      ck (0 ≤ (x3 + 5) ∧ (x3 + 5) < 2640) <|
      nx (hup h2 142 (x3 + 5).toNat 2) fun h9 =>
      some h9
    else
      ck (in32 x1) <|
      ck (in32 x2) <|
      if x1 = x2 then
        ck (0 ≤ (x3 + 5) ∧ (x3 + 5) < 2640) <|
        nx (hup h2 142 (x3 + 5).toNat 1) fun h14 =>
        some h14
      else
        ck (in64 x8) <|
        if x8 < x6 then
          ck (0 ≤ (x3 + 5) ∧ (x3 + 5) < 2640) <|
          nx (hup h2 142 (x3 + 5).toNat 2) fun h18 =>
          some h18
        else
          ck (0 ≤ (x3 + 5) ∧ (x3 + 5) < 2640) <|
          nx (hup h2 142 (x3 + 5).toNat 1) fun h20 =>
          some h20
set_option maxRecDepth 100000 in
theorem T_X12_moves_146 {Z : ZT} (C : Cx Z cX12_moves 12 RX12 2 none) (x1 : Int) (x2 : Int) (x3 : Int) (x4 : Int) (x6 : Int) (x8 : Int) (x10 : Int) (h : MH) (t : MH) (hF : F_X12_moves_146 x1 x2 x3 x4 x6 x8 x10 h = some t) : MW Z (Qm Z none zN zG t 0 0) 12 zN zG h 0 0 146 [(0, rfv (xd (zX Z)) 141), (1, iv x1), (2, iv x2), (3, iv x3), (4, lvv x4), (6, lvv x6), (8, lvv x8), (10, lvv x10)] [] := by
  unfold F_X12_moves_146 at hF
  refine mw_aload_n 0 C dX12_moves_146 rfl rfl ?_
  refine mw_get (k := 0) (T := TX12) (v := rfv (xd (zX Z)) 142) C dX12_moves_147 zn141 zk141 (by decide) rfl inX12 (by decide) wd889 rfl (zfv_r rfl zg_141_0) ?_
  refine mw_iload_n 3 C dX12_moves_150 rfl rfl ?_
  refine mw_bipush C dX12_moves_151 bp_6 ?_
  refine mw_iadd C dX12_moves_153 ?_
  refine mw_dup2 C dX12_moves_154 rfl rfl ?_
  obtain ⟨g1, hF⟩ := ck_some hF
  refine mw_lald C dX12_moves_155 zn142 zk142 (by decide) g1 ?_
  refine mw_lload 7 C dX12_moves_156 rfl ?_
  refine mw_ladd C dX12_moves_158 ?_
  obtain ⟨h2, eh2, hF⟩ := nx_some hF
  refine mw_last C dX12_moves_159 zn142 zk142 (by decide) g1 (mw_h eh2 ?_)
  refine mw_lload 7 C dX12_moves_160 rfl ?_
  refine mw_lload 4 C dX12_moves_162 rfl ?_
  obtain ⟨g3, hF⟩ := ck_some hF
  obtain ⟨g4, hF⟩ := ck_some hF
  rcases ite_some hF with ⟨c5, hF⟩ | ⟨c5, hF⟩
  · refine mw_lcmp_ge_t (tgt := 204) C dX12_moves_164 dX12_moves_165 (by decide) g3 g4 c5 ?_
    cases hF
    exact mw_vret C dX12_moves_204 rfl rfl
  · refine mw_lcmp_ge_f (tgt := 204) C dX12_moves_164 dX12_moves_165 (by decide) g3 g4 c5 ?_
    refine mw_aload_n 0 C dX12_moves_168 rfl rfl ?_
    refine mw_get (k := 0) (T := TX12) (v := rfv (xd (zX Z)) 142) C dX12_moves_169 zn141 zk141 (by decide) rfl inX12 (by decide) wd889 rfl (zfv_r rfl zg_141_0) ?_
    refine mw_iload_n 3 C dX12_moves_172 rfl rfl ?_
    refine mw_iconst C dX12_moves_173 ?_
    refine mw_iadd C dX12_moves_174 ?_
    refine mw_lload 5 C dX12_moves_175 rfl ?_
    refine mw_lload 4 C dX12_moves_177 rfl ?_
    obtain ⟨g6, hF⟩ := ck_some hF
    rcases ite_some hF with ⟨c7, hF⟩ | ⟨c7, hF⟩
    · refine mw_lcmp_ge_t (tgt := 200) C dX12_moves_179 dX12_moves_180 (by decide) g6 g4 c7 ?_
      refine mw_ldc2 (a := 2) C dX12_moves_200 wd1147 rfl ?_
      obtain ⟨g8, hF⟩ := ck_some hF
      obtain ⟨h9, eh9, hF⟩ := nx_some hF
      refine mw_last C dX12_moves_203 zn142 zk142 (by decide) g8 (mw_h eh9 ?_)
      cases hF
      exact mw_vret C dX12_moves_204 rfl rfl
    · refine mw_lcmp_ge_f (tgt := 200) C dX12_moves_179 dX12_moves_180 (by decide) g6 g4 c7 ?_
      refine mw_iload_n 1 C dX12_moves_183 rfl rfl ?_
      refine mw_iload_n 2 C dX12_moves_184 rfl rfl ?_
      obtain ⟨g10, hF⟩ := ck_some hF
      obtain ⟨g11, hF⟩ := ck_some hF
      rcases ite_some hF with ⟨c12, hF⟩ | ⟨c12, hF⟩
      · refine mw_icmp_eq_t (tgt := 196) C dX12_moves_185 (by decide) g10 g11 c12 ?_
        refine mw_lconst (a := 1) C dX12_moves_196 lc_1 ?_
        refine mw_goto (tgt := 203) C dX12_moves_197 (by decide) ?_
        obtain ⟨g13, hF⟩ := ck_some hF
        obtain ⟨h14, eh14, hF⟩ := nx_some hF
        refine mw_last C dX12_moves_203 zn142 zk142 (by decide) g13 (mw_h eh14 ?_)
        cases hF
        exact mw_vret C dX12_moves_204 rfl rfl
      · refine mw_icmp_eq_f (tgt := 196) C dX12_moves_185 (by decide) g10 g11 c12 ?_
        refine mw_lload 5 C dX12_moves_188 rfl ?_
        refine mw_lload 6 C dX12_moves_190 rfl ?_
        obtain ⟨g15, hF⟩ := ck_some hF
        rcases ite_some hF with ⟨c16, hF⟩ | ⟨c16, hF⟩
        · refine mw_lcmp_gt_t (tgt := 200) C dX12_moves_192 dX12_moves_193 (by decide) g6 g15 c16 ?_
          refine mw_ldc2 (a := 2) C dX12_moves_200 wd1147 rfl ?_
          obtain ⟨g17, hF⟩ := ck_some hF
          obtain ⟨h18, eh18, hF⟩ := nx_some hF
          refine mw_last C dX12_moves_203 zn142 zk142 (by decide) g17 (mw_h eh18 ?_)
          cases hF
          exact mw_vret C dX12_moves_204 rfl rfl
        · refine mw_lcmp_gt_f (tgt := 200) C dX12_moves_192 dX12_moves_193 (by decide) g6 g15 c16 ?_
          refine mw_lconst (a := 1) C dX12_moves_196 lc_1 ?_
          refine mw_goto (tgt := 203) C dX12_moves_197 (by decide) ?_
          obtain ⟨g19, hF⟩ := ck_some hF
          obtain ⟨h20, eh20, hF⟩ := nx_some hF
          refine mw_last C dX12_moves_203 zn142 zk142 (by decide) g19 (mw_h eh20 ?_)
          cases hF
          exact mw_vret C dX12_moves_204 rfl rfl
def F_X12_moves_127 (x1 : Int) (x2 : Int) (x3 : Int) (x4 : Int) (x6 : Int) (x8 : Int) (x10 : Int) (h : MH) : Option MH :=
  ck (in32 x1) <|
  ck (in32 x2) <|
  if x2 ≤ x1 then
    F_X12_moves_146 x1 x2 x3 x4 x6 x8 x10 h
  else
    ck (0 ≤ (x3 + 12) ∧ (x3 + 12) < 2640) <|
    nx (hup h 142 (x3 + 12).toNat ((h 142 (x3 + 12).toNat) + x10)) fun h5 =>
    F_X12_moves_146 x1 x2 x3 x4 x6 x8 x10 h5
set_option maxRecDepth 100000 in
theorem T_X12_moves_127 {Z : ZT} (C : Cx Z cX12_moves 12 RX12 2 none) (x1 : Int) (x2 : Int) (x3 : Int) (x4 : Int) (x6 : Int) (x8 : Int) (x10 : Int) (h : MH) (t : MH) (hF : F_X12_moves_127 x1 x2 x3 x4 x6 x8 x10 h = some t) : MW Z (Qm Z none zN zG t 0 0) 12 zN zG h 0 0 127 [(0, rfv (xd (zX Z)) 141), (1, iv x1), (2, iv x2), (3, iv x3), (4, lvv x4), (6, lvv x6), (8, lvv x8), (10, lvv x10)] [] := by
  unfold F_X12_moves_127 at hF
  refine mw_iload_n 1 C dX12_moves_127 rfl rfl ?_
  refine mw_iload_n 2 C dX12_moves_128 rfl rfl ?_
  obtain ⟨g1, hF⟩ := ck_some hF
  obtain ⟨g2, hF⟩ := ck_some hF
  rcases ite_some hF with ⟨c3, hF⟩ | ⟨c3, hF⟩
  · refine mw_icmp_ge_t (tgt := 146) C dX12_moves_129 (by decide) g1 g2 c3 ?_
    exact T_X12_moves_146 C x1 x2 x3 x4 x6 x8 x10 _ _ hF
  · refine mw_icmp_ge_f (tgt := 146) C dX12_moves_129 (by decide) g1 g2 c3 ?_
    refine mw_aload_n 0 C dX12_moves_132 rfl rfl ?_
    refine mw_get (k := 0) (T := TX12) (v := rfv (xd (zX Z)) 142) C dX12_moves_133 zn141 zk141 (by decide) rfl inX12 (by decide) wd889 rfl (zfv_r rfl zg_141_0) ?_
    refine mw_iload_n 3 C dX12_moves_136 rfl rfl ?_
    refine mw_bipush C dX12_moves_137 bp_12 ?_
    refine mw_iadd C dX12_moves_139 ?_
    refine mw_dup2 C dX12_moves_140 rfl rfl ?_
    obtain ⟨g4, hF⟩ := ck_some hF
    refine mw_lald C dX12_moves_141 zn142 zk142 (by decide) g4 ?_
    refine mw_lload 7 C dX12_moves_142 rfl ?_
    refine mw_ladd C dX12_moves_144 ?_
    obtain ⟨h5, eh5, hF⟩ := nx_some hF
    refine mw_last C dX12_moves_145 zn142 zk142 (by decide) g4 (mw_h eh5 ?_)
    exact T_X12_moves_146 C x1 x2 x3 x4 x6 x8 x10 _ _ hF
def F_X12_moves_87 (x1 : Int) (x2 : Int) (x3 : Int) (x4 : Int) (x6 : Int) (s0 : Int) (h : MH) : Option MH :=
  ck (in64 x6) <|
  ck (in64 s0) <|
  ck (in64 x4) <|
  ck (in64 (min x6 s0)) <|
  nx (min x4 (min x6 s0)) fun v5 =>
  ck (in32 x1) <|
  if x1 ≤ 0 then
    F_X12_moves_127 x1 x2 x3 x4 x6 s0 v5 h
  else
    (F_X12_machineAt 0 (x1 - 1) h).bind fun q8 =>
    ck (0 ≤ (q8.1 + 12) ∧ (q8.1 + 12) < 2640) <|
    nx (hup q8.2 142 (q8.1 + 12).toNat ((q8.2 142 (q8.1 + 12).toNat) - v5)) fun h10 =>
    F_X12_moves_127 x1 x2 x3 x4 x6 s0 v5 h10
set_option maxRecDepth 100000 in
theorem T_X12_moves_87 {Z : ZT} (C : Cx Z cX12_moves 12 RX12 2 none) (x1 : Int) (x2 : Int) (x3 : Int) (x4 : Int) (x6 : Int) (s0 : Int) (h : MH) (t : MH) (hF : F_X12_moves_87 x1 x2 x3 x4 x6 s0 h = some t) : MW Z (Qm Z none zN zG t 0 0) 12 zN zG h 0 0 87 [(0, rfv (xd (zX Z)) 141), (1, iv x1), (2, iv x2), (3, iv x3), (4, lvv x4), (6, lvv x6)] [lvv s0] := by
  unfold F_X12_moves_87 at hF
  refine mw_lstore [(8, lvv s0), (0, rfv (xd (zX Z)) 141), (1, iv x1), (2, iv x2), (3, iv x3), (4, lvv x4), (6, lvv x6)] C dX12_moves_87 (by decide) rfl ?_
  refine mw_lload 5 C dX12_moves_89 rfl ?_
  refine mw_lload 6 C dX12_moves_91 rfl ?_
  refine mw_lload 0 C dX12_moves_93 rfl ?_
  obtain ⟨g1, hF⟩ := ck_some hF
  obtain ⟨g2, hF⟩ := ck_some hF
  refine mw_mminL C dX12_moves_95 wd1144 wd1145 wd16 wd1146 (by decide) (Nat.le_of_ble_eq_true rfl) ⟨Nat.zero_le _, Nat.zero_le _⟩ g1 g2 ?_
  obtain ⟨g3, hF⟩ := ck_some hF
  obtain ⟨g4, hF⟩ := ck_some hF
  refine mw_mminL C dX12_moves_98 wd1144 wd1145 wd16 wd1146 (by decide) (Nat.le_of_ble_eq_true rfl) ⟨Nat.zero_le _, Nat.zero_le _⟩ g3 g4 ?_
  obtain ⟨v5, ev5, hF⟩ := nx_some hF
  refine mw_tl ev5 ?_
  refine mw_lstore [(10, lvv v5), (8, lvv s0), (0, rfv (xd (zX Z)) 141), (1, iv x1), (2, iv x2), (3, iv x3), (4, lvv x4), (6, lvv x6)] C dX12_moves_101 (by decide) rfl ?_
  refine mw_iload_n 3 C dX12_moves_103 rfl rfl ?_
  obtain ⟨g6, hF⟩ := ck_some hF
  rcases ite_some hF with ⟨c7, hF⟩ | ⟨c7, hF⟩
  · refine mw_if_le_t (tgt := 127) C dX12_moves_104 (by decide) g6 c7 ?_
    refine mw_sub [2, 3, 4, 5, 6, 7, 1, 0] rfl ?_
    exact T_X12_moves_127 C x1 x2 x3 x4 x6 s0 v5 _ _ hF
  · refine mw_if_le_f (tgt := 127) C dX12_moves_104 (by decide) g6 c7 ?_
    refine mw_aload_n 2 C dX12_moves_107 rfl rfl ?_
    refine mw_get (k := 0) (T := TX12) (v := rfv (xd (zX Z)) 142) C dX12_moves_108 zn141 zk141 (by decide) rfl inX12 (by decide) wd889 rfl (zfv_r rfl zg_141_0) ?_
    refine mw_iconst C dX12_moves_111 ?_
    refine mw_iload_n 3 C dX12_moves_112 rfl rfl ?_
    refine mw_iconst C dX12_moves_113 ?_
    refine mw_isub C dX12_moves_114 ?_
    obtain ⟨q8, hq8, hF⟩ := bind_some hF
    refine mw_callS [iv 0, iv (x1 - 1)] [rfv (xd (zX Z)) 142] C dX12_moves_115 (T_X12_machineAt (zl Z) (zX Z) 0 (x1 - 1) _ _ hq8) rfl wd1041 wd1042 wd14 wd1043 hd_X12_machineAt rfl (by decide) (by decide) (Nat.le_of_ble_eq_true rfl) ⟨Nat.zero_le _, Nat.zero_le _⟩ ?_
    refine mw_bipush C dX12_moves_118 bp_12 ?_
    refine mw_iadd C dX12_moves_120 ?_
    refine mw_dup2 C dX12_moves_121 rfl rfl ?_
    obtain ⟨g9, hF⟩ := ck_some hF
    refine mw_lald C dX12_moves_122 zn142 zk142 (by decide) g9 ?_
    refine mw_lload 0 C dX12_moves_123 rfl ?_
    refine mw_lsub C dX12_moves_125 ?_
    obtain ⟨h10, eh10, hF⟩ := nx_some hF
    refine mw_last C dX12_moves_126 zn142 zk142 (by decide) g9 (mw_h eh10 ?_)
    refine mw_sub [2, 3, 4, 5, 6, 7, 1, 0] rfl ?_
    exact T_X12_moves_127 C x1 x2 x3 x4 x6 s0 v5 _ _ hF
def F_X12_moves_56 (x1 : Int) (x2 : Int) (x3 : Int) (x4 : Int) (s0 : Int) (h : MH) : Option MH :=
  ck (in32 x1) <|
  ck (in32 x2) <|
  if x1 ≠ x2 then
    ck (0 ≤ (x3 + 11) ∧ (x3 + 11) < 2640) <|
    ck (0 ≤ (x3 + 12) ∧ (x3 + 12) < 2640) <|
    F_X12_moves_87 x1 x2 x3 x4 s0 ((h 142 (x3 + 11).toNat) - (h 142 (x3 + 12).toNat)) h
  else
    F_X12_moves_87 x1 x2 x3 x4 s0 x4 h
set_option maxRecDepth 100000 in
theorem T_X12_moves_56 {Z : ZT} (C : Cx Z cX12_moves 12 RX12 2 none) (x1 : Int) (x2 : Int) (x3 : Int) (x4 : Int) (s0 : Int) (h : MH) (t : MH) (hF : F_X12_moves_56 x1 x2 x3 x4 s0 h = some t) : MW Z (Qm Z none zN zG t 0 0) 12 zN zG h 0 0 56 [(0, rfv (xd (zX Z)) 141), (1, iv x1), (2, iv x2), (3, iv x3), (4, lvv x4)] [lvv s0] := by
  unfold F_X12_moves_56 at hF
  refine mw_lstore [(6, lvv s0), (0, rfv (xd (zX Z)) 141), (1, iv x1), (2, iv x2), (3, iv x3), (4, lvv x4)] C dX12_moves_56 (by decide) rfl ?_
  refine mw_iload_n 2 C dX12_moves_58 rfl rfl ?_
  refine mw_iload_n 3 C dX12_moves_59 rfl rfl ?_
  obtain ⟨g1, hF⟩ := ck_some hF
  obtain ⟨g2, hF⟩ := ck_some hF
  rcases ite_some hF with ⟨c3, hF⟩ | ⟨c3, hF⟩
  · refine mw_icmp_ne_t (tgt := 68) C dX12_moves_60 (by decide) g1 g2 c3 ?_
    refine mw_aload_n 1 C dX12_moves_68 rfl rfl ?_
    refine mw_get (k := 0) (T := TX12) (v := rfv (xd (zX Z)) 142) C dX12_moves_69 zn141 zk141 (by decide) rfl inX12 (by decide) wd889 rfl (zfv_r rfl zg_141_0) ?_
    refine mw_iload_n 4 C dX12_moves_72 rfl rfl ?_
    refine mw_bipush C dX12_moves_73 bp_11 ?_
    refine mw_iadd C dX12_moves_75 ?_
    obtain ⟨g4, hF⟩ := ck_some hF
    refine mw_lald C dX12_moves_76 zn142 zk142 (by decide) g4 ?_
    refine mw_aload_n 1 C dX12_moves_77 rfl rfl ?_
    refine mw_get (k := 0) (T := TX12) (v := rfv (xd (zX Z)) 142) C dX12_moves_78 zn141 zk141 (by decide) rfl inX12 (by decide) wd889 rfl (zfv_r rfl zg_141_0) ?_
    refine mw_iload_n 4 C dX12_moves_81 rfl rfl ?_
    refine mw_bipush C dX12_moves_82 bp_12 ?_
    refine mw_iadd C dX12_moves_84 ?_
    obtain ⟨g5, hF⟩ := ck_some hF
    refine mw_lald C dX12_moves_85 zn142 zk142 (by decide) g5 ?_
    refine mw_lsub C dX12_moves_86 ?_
    refine mw_sub [1, 2, 3, 4, 5, 0] rfl ?_
    exact T_X12_moves_87 C x1 x2 x3 x4 s0 ((h 142 (x3 + 11).toNat) - (h 142 (x3 + 12).toNat)) _ _ hF
  · refine mw_icmp_ne_f (tgt := 68) C dX12_moves_60 (by decide) g1 g2 c3 ?_
    refine mw_lload 5 C dX12_moves_63 rfl ?_
    refine mw_goto (tgt := 87) C dX12_moves_65 (by decide) ?_
    refine mw_sub [1, 2, 3, 4, 5, 0] rfl ?_
    exact T_X12_moves_87 C x1 x2 x3 x4 s0 x4 _ _ hF
def F_X12_moves_0 (x1 : Int) (x2 : Int) (h : MH) : Option MH :=
  (F_X12_machineAt 0 x1 h).bind fun q1 =>
  ck (0 ≤ (q1.1 + 0) ∧ (q1.1 + 0) < 2640) <|
  nx (q1.2 142 (q1.1 + 0).toNat) fun v3 =>
  ck (0 ≤ (q1.1 + 5) ∧ (q1.1 + 5) < 2640) <|
  ck (in64 (q1.2 142 (q1.1 + 5).toNat)) <|
  if (q1.2 142 (q1.1 + 5).toNat) ≠ 3 then
    ck (in32 x1) <|
    if x1 ≠ 0 then
      (F_X12_machineAt 0 (x1 - 1) q1.2).bind fun q9 =>
      ck (0 ≤ (q9.1 + 12) ∧ (q9.1 + 12) < 2640) <|
      F_X12_moves_56 x1 x2 q1.1 v3 (q9.2 142 (q9.1 + 12).toNat) q9.2
    else
      F_X12_moves_56 x1 x2 q1.1 v3 v3 q1.2
  else
    some q1.2
set_option maxRecDepth 100000 in
theorem T_X12_moves_0 {Z : ZT} (C : Cx Z cX12_moves 12 RX12 2 none) (x1 : Int) (x2 : Int) (h : MH) (t : MH) (hF : F_X12_moves_0 x1 x2 h = some t) : MW Z (Qm Z none zN zG t 0 0) 12 zN zG h 0 0 0 [(0, rfv (xd (zX Z)) 141), (1, iv x1), (2, iv x2)] [] := by
  unfold F_X12_moves_0 at hF
  refine mw_iconst C dX12_moves_0 ?_
  refine mw_iload_n 1 C dX12_moves_1 rfl rfl ?_
  obtain ⟨q1, hq1, hF⟩ := bind_some hF
  refine mw_callS [iv 0, iv x1] [] C dX12_moves_2 (T_X12_machineAt (zl Z) (zX Z) 0 x1 _ _ hq1) rfl wd1041 wd1042 wd14 wd1043 hd_X12_machineAt rfl (by decide) (by decide) (Nat.le_of_ble_eq_true rfl) ⟨Nat.zero_le _, Nat.zero_le _⟩ ?_
  refine mw_istore_n [(3, iv q1.1), (0, rfv (xd (zX Z)) 141), (1, iv x1), (2, iv x2)] C dX12_moves_5 rfl (by decide) rfl ?_
  refine mw_aload_n 1 C dX12_moves_6 rfl rfl ?_
  refine mw_get (k := 0) (T := TX12) (v := rfv (xd (zX Z)) 142) C dX12_moves_7 zn141 zk141 (by decide) rfl inX12 (by decide) wd889 rfl (zfv_r rfl zg_141_0) ?_
  refine mw_iload_n 0 C dX12_moves_10 rfl rfl ?_
  refine mw_iconst C dX12_moves_11 ?_
  refine mw_iadd C dX12_moves_12 ?_
  obtain ⟨g2, hF⟩ := ck_some hF
  refine mw_lald C dX12_moves_13 zn142 zk142 (by decide) g2 ?_
  obtain ⟨v3, ev3, hF⟩ := nx_some hF
  refine mw_tl ev3 ?_
  refine mw_lstore [(4, lvv v3), (3, iv q1.1), (0, rfv (xd (zX Z)) 141), (1, iv x1), (2, iv x2)] C dX12_moves_14 (by decide) rfl ?_
  refine mw_aload_n 2 C dX12_moves_16 rfl rfl ?_
  refine mw_get (k := 0) (T := TX12) (v := rfv (xd (zX Z)) 142) C dX12_moves_17 zn141 zk141 (by decide) rfl inX12 (by decide) wd889 rfl (zfv_r rfl zg_141_0) ?_
  refine mw_iload_n 1 C dX12_moves_20 rfl rfl ?_
  refine mw_iconst C dX12_moves_21 ?_
  refine mw_iadd C dX12_moves_22 ?_
  obtain ⟨g4, hF⟩ := ck_some hF
  refine mw_lald C dX12_moves_23 zn142 zk142 (by decide) g4 ?_
  refine mw_ldc2 (a := 3) C dX12_moves_24 wd1140 rfl ?_
  obtain ⟨g5, hF⟩ := ck_some hF
  rcases ite_some hF with ⟨c6, hF⟩ | ⟨c6, hF⟩
  · refine mw_lcmp_ne_t (tgt := 32) C dX12_moves_27 dX12_moves_28 (by decide) g5 (by decide) c6 ?_
    refine mw_iload_n 3 C dX12_moves_32 rfl rfl ?_
    obtain ⟨g7, hF⟩ := ck_some hF
    rcases ite_some hF with ⟨c8, hF⟩ | ⟨c8, hF⟩
    · refine mw_if_ne_t (tgt := 41) C dX12_moves_33 (by decide) g7 c8 ?_
      refine mw_aload_n 2 C dX12_moves_41 rfl rfl ?_
      refine mw_get (k := 0) (T := TX12) (v := rfv (xd (zX Z)) 142) C dX12_moves_42 zn141 zk141 (by decide) rfl inX12 (by decide) wd889 rfl (zfv_r rfl zg_141_0) ?_
      refine mw_iconst C dX12_moves_45 ?_
      refine mw_iload_n 3 C dX12_moves_46 rfl rfl ?_
      refine mw_iconst C dX12_moves_47 ?_
      refine mw_isub C dX12_moves_48 ?_
      obtain ⟨q9, hq9, hF⟩ := bind_some hF
      refine mw_callS [iv 0, iv (x1 - 1)] [rfv (xd (zX Z)) 142] C dX12_moves_49 (T_X12_machineAt (zl Z) (zX Z) 0 (x1 - 1) _ _ hq9) rfl wd1041 wd1042 wd14 wd1043 hd_X12_machineAt rfl (by decide) (by decide) (Nat.le_of_ble_eq_true rfl) ⟨Nat.zero_le _, Nat.zero_le _⟩ ?_
      refine mw_bipush C dX12_moves_52 bp_12 ?_
      refine mw_iadd C dX12_moves_54 ?_
      obtain ⟨g10, hF⟩ := ck_some hF
      refine mw_lald C dX12_moves_55 zn142 zk142 (by decide) g10 ?_
      refine mw_sub [2, 3, 4, 1, 0] rfl ?_
      exact T_X12_moves_56 C x1 x2 q1.1 v3 (q9.2 142 (q9.1 + 12).toNat) _ _ hF
    · refine mw_if_ne_f (tgt := 41) C dX12_moves_33 (by decide) g7 c8 ?_
      refine mw_lload 0 C dX12_moves_36 rfl ?_
      refine mw_goto (tgt := 56) C dX12_moves_38 (by decide) ?_
      refine mw_sub [2, 3, 4, 1, 0] rfl ?_
      exact T_X12_moves_56 C x1 x2 q1.1 v3 v3 _ _ hF
  · refine mw_lcmp_ne_f (tgt := 32) C dX12_moves_27 dX12_moves_28 (by decide) g5 (by decide) c6 ?_
    cases hF
    exact mw_vret C dX12_moves_31 rfl rfl
def F_X12_moves (x1 : Int) (x2 : Int) (h : MH) : Option MH := F_X12_moves_0 x1 x2 h
theorem T_X12_moves (l : Launch) (X : XT) (x1 : Int) (x2 : Int) (h : MH) (t : MH) (hF : F_X12_moves x1 x2 h = some t) : Ct l X yX12_moves cX12_moves 12 none 2 [rfv (xd X) 141, iv x1, iv x2] zN zG h none zN zG t 0 0 := by
  refine Ct.head (by decide) (Nat.le_of_ble_eq_true rfl) (fun Z hX hl _ _ _ C => ?_)
  subst hX
  subst hl
  exact (T_X12_moves_0 C x1 x2 _ _ hF)
/-! BottleLineModel.minute()V -/
def F_X12_minute_146 (k48 : Int → Int → MH → Option MH) (x1 : Int) (x2 : Int) (h : MH) : Option MH :=
  k48 x1 (x2 + 1) h
set_option maxRecDepth 100000 in
theorem T_X12_minute_146 {Z : ZT} (C : Cx Z cX12_minute 5 RX12 3 none) (k48 : Int → Int → MH → Option MH) (hk48 : ∀ (x1 : Int) (x2 : Int) (h : MH) (t : MH), k48 x1 x2 h = some t → MW Z (Qm Z none zN zG t 0 0) 5 zN zG h 0 0 48 [(0, rfv (xd (zX Z)) 141), (1, iv x1), (2, iv x2)] []) (x1 : Int) (x2 : Int) (h : MH) (t : MH) (hF : F_X12_minute_146 k48 x1 x2 h = some t) : MW Z (Qm Z none zN zG t 0 0) 5 zN zG h 0 0 146 [(0, rfv (xd (zX Z)) 141), (1, iv x1), (2, iv x2)] [] := by
  unfold F_X12_minute_146 at hF
  refine mw_iinc 2 [(2, iv (x2 + 1)), (0, rfv (xd (zX Z)) 141), (1, iv x1)] C dX12_minute_146 rfl (by decide) rfl ?_
  refine mw_goto (tgt := 48) C dX12_minute_149 (by decide) ?_
  refine mw_sub [1, 2, 0] rfl ?_
  exact hk48 x1 (x2 + 1) _ _ hF
def F_X12_minute_121 (k48 : Int → Int → MH → Option MH) (k96 : Int → Int → Int → Int → MH → Option MH) (x1 : Int) (x2 : Int) (x3 : Int) (s0 : Int) (s1 : Int) (h : MH) : Option MH :=
  nx (s0 + s1) fun v1 =>
  k96 x1 x2 x3 v1 h
set_option maxRecDepth 100000 in
theorem T_X12_minute_121 {Z : ZT} (C : Cx Z cX12_minute 5 RX12 3 none) (k48 : Int → Int → MH → Option MH) (hk48 : ∀ (x1 : Int) (x2 : Int) (h : MH) (t : MH), k48 x1 x2 h = some t → MW Z (Qm Z none zN zG t 0 0) 5 zN zG h 0 0 48 [(0, rfv (xd (zX Z)) 141), (1, iv x1), (2, iv x2)] []) (k96 : Int → Int → Int → Int → MH → Option MH) (hk96 : ∀ (x1 : Int) (x2 : Int) (x3 : Int) (x4 : Int) (h : MH) (t : MH), k96 x1 x2 x3 x4 h = some t → MW Z (Qm Z none zN zG t 0 0) 5 zN zG h 0 0 96 [(0, rfv (xd (zX Z)) 141), (1, iv x1), (2, iv x2), (3, iv x3), (4, iv x4)] []) (x1 : Int) (x2 : Int) (x3 : Int) (s0 : Int) (s1 : Int) (h : MH) (t : MH) (hF : F_X12_minute_121 k48 k96 x1 x2 x3 s0 s1 h = some t) : MW Z (Qm Z none zN zG t 0 0) 5 zN zG h 0 0 121 [(0, rfv (xd (zX Z)) 141), (1, iv x1), (2, iv x2), (3, iv x3)] [iv s1, iv s0] := by
  unfold F_X12_minute_121 at hF
  refine mw_iadd C dX12_minute_121 ?_
  obtain ⟨v1, ev1, hF⟩ := nx_some hF
  refine mw_ti ev1 ?_
  refine mw_istore [(4, iv v1), (0, rfv (xd (zX Z)) 141), (1, iv x1), (2, iv x2), (3, iv x3)] C dX12_minute_122 (by decide) rfl ?_
  refine mw_goto (tgt := 96) C dX12_minute_124 (by decide) ?_
  refine mw_sub [1, 2, 3, 4, 0] rfl ?_
  exact hk96 x1 x2 x3 v1 _ _ hF
def F_X12_minute_96 (k48 : Int → Int → MH → Option MH) : Nat → Int → Int → Int → Int → MH → Option MH
  | 0, _, _, _, _, _ => none
  | n + 1, x1, x2, x3, x4, h =>
    (F_X12_ofMachine x4 5 h).bind fun q1 =>
    ck (in32 x3) <|
    ck (in64 q1.1) <|
    if q1.1 ≠ x3 then
      ck (0 ≤ ((104 + (6 * x2)) + x4) ∧ ((104 + (6 * x2)) + x4) < 2640) <|
      nx (hup q1.2 142 ((104 + (6 * x2)) + x4).toNat ((q1.2 142 ((104 + (6 * x2)) + x4).toNat) + 1)) fun h6 =>
      F_X12_minute_146 k48 x1 x2 h6
    else
      if x3 ≠ 1 then
        F_X12_minute_121 k48 (F_X12_minute_96 k48 n) x1 x2 x3 x4 1 q1.2
      else
        F_X12_minute_121 k48 (F_X12_minute_96 k48 n) x1 x2 x3 x4 (-1) q1.2
set_option maxRecDepth 100000 in
theorem T_X12_minute_96 {Z : ZT} (C : Cx Z cX12_minute 5 RX12 3 none) (k48 : Int → Int → MH → Option MH) (hk48 : ∀ (x1 : Int) (x2 : Int) (h : MH) (t : MH), k48 x1 x2 h = some t → MW Z (Qm Z none zN zG t 0 0) 5 zN zG h 0 0 48 [(0, rfv (xd (zX Z)) 141), (1, iv x1), (2, iv x2)] []) : ∀ (n : Nat) (x1 : Int) (x2 : Int) (x3 : Int) (x4 : Int) (h : MH) (t : MH), F_X12_minute_96 k48 n x1 x2 x3 x4 h = some t → MW Z (Qm Z none zN zG t 0 0) 5 zN zG h 0 0 96 [(0, rfv (xd (zX Z)) 141), (1, iv x1), (2, iv x2), (3, iv x3), (4, iv x4)] [] := by
  intro n
  induction n with
  | zero =>
    intros
    rename_i hF
    exact absurd hF (by intro q; cases q)
  | succ n ih =>
    intro x1 x2 x3 x4 h t hF
    rw [F_X12_minute_96] at hF
    refine mw_aload_n 0 C dX12_minute_96 rfl rfl ?_
    refine mw_iload 4 C dX12_minute_97 rfl ?_
    refine mw_iconst C dX12_minute_99 ?_
    obtain ⟨q1, hq1, hF⟩ := bind_some hF
    refine mw_callV (c := 141) [iv x4, iv 5] [] C dX12_minute_100 (T_X12_ofMachine (zl Z) (zX Z) x4 5 _ _ hq1) rfl zn141 zk141 (by decide) rfl wd1086 wd1087 wd1382 wd14 wd1088 hd_X12_ofMachine rfl (by decide) (by decide) (Nat.le_of_ble_eq_true rfl) ⟨Nat.zero_le _, Nat.zero_le _⟩ ?_
    refine mw_iload_n 3 C dX12_minute_103 rfl rfl ?_
    obtain ⟨g2, hF⟩ := ck_some hF
    refine mw_i2l C dX12_minute_104 g2 ?_
    obtain ⟨g3, hF⟩ := ck_some hF
    rcases ite_some hF with ⟨c4, hF⟩ | ⟨c4, hF⟩
    · refine mw_lcmp_ne_t (tgt := 127) C dX12_minute_105 dX12_minute_106 (by decide) g3 (in64_of g2) c4 ?_
      refine mw_aload_n 0 C dX12_minute_127 rfl rfl ?_
      refine mw_get (k := 0) (T := TX12) (v := rfv (xd (zX Z)) 142) C dX12_minute_128 zn141 zk141 (by decide) rfl inX12 (by decide) wd889 rfl (zfv_r rfl zg_141_0) ?_
      refine mw_bipush C dX12_minute_131 bp_104 ?_
      refine mw_bipush C dX12_minute_133 bp_6 ?_
      refine mw_iload_n 2 C dX12_minute_135 rfl rfl ?_
      refine mw_imul C dX12_minute_136 ?_
      refine mw_iadd C dX12_minute_137 ?_
      refine mw_iload 4 C dX12_minute_138 rfl ?_
      refine mw_iadd C dX12_minute_140 ?_
      refine mw_dup2 C dX12_minute_141 rfl rfl ?_
      obtain ⟨g5, hF⟩ := ck_some hF
      refine mw_lald C dX12_minute_142 zn142 zk142 (by decide) g5 ?_
      refine mw_lconst (a := 1) C dX12_minute_143 lc_1 ?_
      refine mw_ladd C dX12_minute_144 ?_
      obtain ⟨h6, eh6, hF⟩ := nx_some hF
      refine mw_last C dX12_minute_145 zn142 zk142 (by decide) g5 (mw_h eh6 ?_)
      refine mw_sub [0, 1, 2] rfl ?_
      exact T_X12_minute_146 C k48 hk48 x1 x2 _ _ hF
    · refine mw_lcmp_ne_f (tgt := 127) C dX12_minute_105 dX12_minute_106 (by decide) g3 (in64_of g2) c4 ?_
      refine mw_iload 4 C dX12_minute_109 rfl ?_
      refine mw_iload_n 3 C dX12_minute_111 rfl rfl ?_
      refine mw_iconst C dX12_minute_112 ?_
      rcases ite_some hF with ⟨c7, hF⟩ | ⟨c7, hF⟩
      · refine mw_icmp_ne_t (tgt := 120) C dX12_minute_113 (by decide) g2 (by decide) c7 ?_
        refine mw_iconst C dX12_minute_120 ?_
        refine mw_sub [0, 1, 2, 3] rfl ?_
        exact T_X12_minute_121 C k48 hk48 (F_X12_minute_96 k48 n) ih x1 x2 x3 x4 1 _ _ hF
      · refine mw_icmp_ne_f (tgt := 120) C dX12_minute_113 (by decide) g2 (by decide) c7 ?_
        refine mw_iconst C dX12_minute_116 ?_
        refine mw_goto (tgt := 121) C dX12_minute_117 (by decide) ?_
        refine mw_sub [0, 1, 2, 3] rfl ?_
        exact T_X12_minute_121 C k48 hk48 (F_X12_minute_96 k48 n) ih x1 x2 x3 x4 (-1) _ _ hF
def F_X12_minute_93 (k48 : Int → Int → MH → Option MH) (x1 : Int) (x2 : Int) (x3 : Int) (h : MH) : Option MH :=
  F_X12_minute_96 k48 20000 x1 x2 x3 x2 h
set_option maxRecDepth 100000 in
theorem T_X12_minute_93 {Z : ZT} (C : Cx Z cX12_minute 5 RX12 3 none) (k48 : Int → Int → MH → Option MH) (hk48 : ∀ (x1 : Int) (x2 : Int) (h : MH) (t : MH), k48 x1 x2 h = some t → MW Z (Qm Z none zN zG t 0 0) 5 zN zG h 0 0 48 [(0, rfv (xd (zX Z)) 141), (1, iv x1), (2, iv x2)] []) (x1 : Int) (x2 : Int) (x3 : Int) (h : MH) (t : MH) (hF : F_X12_minute_93 k48 x1 x2 x3 h = some t) : MW Z (Qm Z none zN zG t 0 0) 5 zN zG h 0 0 93 [(0, rfv (xd (zX Z)) 141), (1, iv x1), (2, iv x2), (3, iv x3)] [] := by
  unfold F_X12_minute_93 at hF
  refine mw_iload_n 2 C dX12_minute_93 rfl rfl ?_
  refine mw_istore [(4, iv x2), (0, rfv (xd (zX Z)) 141), (1, iv x1), (2, iv x2), (3, iv x3)] C dX12_minute_94 (by decide) rfl ?_
  refine mw_sub [1, 2, 3, 4, 0] rfl ?_
  exact T_X12_minute_96 C k48 hk48 20000 x1 x2 x3 x2 _ _ hF
def F_X12_minute_48 : Nat → Int → Int → MH → Option MH
  | 0, _, _, _ => none
  | n + 1, x1, x2, h =>
    ck (in32 x2) <|
    ck (in32 x1) <|
    if x1 < x2 then
      nx (hup h 142 2 ((h 142 2) + 1)) fun h4 =>
      some h4
    else
      (F_X12_ofMachine x2 5 h).bind fun q5 =>
      (F_X12_machineAt 0 x2 q5.2).bind fun q6 =>
      ck (0 ≤ ((q6.1 + 7) + q5.1) ∧ ((q6.1 + 7) + q5.1) < 2640) <|
      nx (hup q6.2 142 ((q6.1 + 7) + q5.1).toNat ((q6.2 142 ((q6.1 + 7) + q5.1).toNat) + 1)) fun h8 =>
      ck (in32 q5.1) <|
      if q5.1 = 1 then
        F_X12_minute_93 (F_X12_minute_48 n) x1 x2 q5.1 h8
      else
        if q5.1 = 2 then
          F_X12_minute_93 (F_X12_minute_48 n) x1 x2 q5.1 h8
        else
          F_X12_minute_146 (F_X12_minute_48 n) x1 x2 h8
set_option maxRecDepth 100000 in
theorem T_X12_minute_48 {Z : ZT} (C : Cx Z cX12_minute 5 RX12 3 none) : ∀ (n : Nat) (x1 : Int) (x2 : Int) (h : MH) (t : MH), F_X12_minute_48 n x1 x2 h = some t → MW Z (Qm Z none zN zG t 0 0) 5 zN zG h 0 0 48 [(0, rfv (xd (zX Z)) 141), (1, iv x1), (2, iv x2)] [] := by
  intro n
  induction n with
  | zero =>
    intros
    rename_i hF
    exact absurd hF (by intro q; cases q)
  | succ n ih =>
    intro x1 x2 h t hF
    rw [F_X12_minute_48] at hF
    refine mw_iload_n 2 C dX12_minute_48 rfl rfl ?_
    refine mw_iload_n 1 C dX12_minute_49 rfl rfl ?_
    obtain ⟨g1, hF⟩ := ck_some hF
    obtain ⟨g2, hF⟩ := ck_some hF
    rcases ite_some hF with ⟨c3, hF⟩ | ⟨c3, hF⟩
    · refine mw_icmp_gt_t (tgt := 152) C dX12_minute_50 (by decide) g1 g2 c3 ?_
      refine mw_aload_n 0 C dX12_minute_152 rfl rfl ?_
      refine mw_get (k := 0) (T := TX12) (v := rfv (xd (zX Z)) 142) C dX12_minute_153 zn141 zk141 (by decide) rfl inX12 (by decide) wd889 rfl (zfv_r rfl zg_141_0) ?_
      refine mw_iconst C dX12_minute_156 ?_
      refine mw_dup2 C dX12_minute_157 rfl rfl ?_
      refine mw_lald C dX12_minute_158 zn142 zk142 (by decide) (by decide) ?_
      refine mw_lconst (a := 1) C dX12_minute_159 lc_1 ?_
      refine mw_ladd C dX12_minute_160 ?_
      obtain ⟨h4, eh4, hF⟩ := nx_some hF
      refine mw_last C dX12_minute_161 zn142 zk142 (by decide) (by decide) (mw_h eh4 ?_)
      cases hF
      exact mw_vret C dX12_minute_162 rfl rfl
    · refine mw_icmp_gt_f (tgt := 152) C dX12_minute_50 (by decide) g1 g2 c3 ?_
      refine mw_aload_n 0 C dX12_minute_53 rfl rfl ?_
      refine mw_iload_n 2 C dX12_minute_54 rfl rfl ?_
      refine mw_iconst C dX12_minute_55 ?_
      obtain ⟨q5, hq5, hF⟩ := bind_some hF
      refine mw_callV (c := 141) [iv x2, iv 5] [] C dX12_minute_56 (T_X12_ofMachine (zl Z) (zX Z) x2 5 _ _ hq5) rfl zn141 zk141 (by decide) rfl wd1086 wd1087 wd1382 wd14 wd1088 hd_X12_ofMachine rfl (by decide) (by decide) (Nat.le_of_ble_eq_true rfl) ⟨Nat.zero_le _, Nat.zero_le _⟩ ?_
      refine mw_l2i C dX12_minute_59 ?_
      refine mw_istore_n [(3, iv q5.1), (0, rfv (xd (zX Z)) 141), (1, iv x1), (2, iv x2)] C dX12_minute_60 rfl (by decide) rfl ?_
      refine mw_aload_n 1 C dX12_minute_61 rfl rfl ?_
      refine mw_get (k := 0) (T := TX12) (v := rfv (xd (zX Z)) 142) C dX12_minute_62 zn141 zk141 (by decide) rfl inX12 (by decide) wd889 rfl (zfv_r rfl zg_141_0) ?_
      refine mw_iconst C dX12_minute_65 ?_
      refine mw_iload_n 3 C dX12_minute_66 rfl rfl ?_
      obtain ⟨q6, hq6, hF⟩ := bind_some hF
      refine mw_callS [iv 0, iv x2] [rfv (xd (zX Z)) 142] C dX12_minute_67 (T_X12_machineAt (zl Z) (zX Z) 0 x2 _ _ hq6) rfl wd1041 wd1042 wd14 wd1043 hd_X12_machineAt rfl (by decide) (by decide) (Nat.le_of_ble_eq_true rfl) ⟨Nat.zero_le _, Nat.zero_le _⟩ ?_
      refine mw_bipush C dX12_minute_70 bp_7 ?_
      refine mw_iadd C dX12_minute_72 ?_
      refine mw_iload_n 0 C dX12_minute_73 rfl rfl ?_
      refine mw_iadd C dX12_minute_74 ?_
      refine mw_dup2 C dX12_minute_75 rfl rfl ?_
      obtain ⟨g7, hF⟩ := ck_some hF
      refine mw_lald C dX12_minute_76 zn142 zk142 (by decide) g7 ?_
      refine mw_lconst (a := 1) C dX12_minute_77 lc_1 ?_
      refine mw_ladd C dX12_minute_78 ?_
      obtain ⟨h8, eh8, hF⟩ := nx_some hF
      refine mw_last C dX12_minute_79 zn142 zk142 (by decide) g7 (mw_h eh8 ?_)
      refine mw_iload_n 0 C dX12_minute_80 rfl rfl ?_
      refine mw_iconst C dX12_minute_81 ?_
      obtain ⟨g9, hF⟩ := ck_some hF
      rcases ite_some hF with ⟨c10, hF⟩ | ⟨c10, hF⟩
      · refine mw_icmp_eq_t (tgt := 93) C dX12_minute_82 (by decide) g9 (by decide) c10 ?_
        refine mw_sub [1, 2, 3, 0] rfl ?_
        exact T_X12_minute_93 C (F_X12_minute_48 n) ih x1 x2 q5.1 _ _ hF
      · refine mw_icmp_eq_f (tgt := 93) C dX12_minute_82 (by decide) g9 (by decide) c10 ?_
        refine mw_iload_n 0 C dX12_minute_85 rfl rfl ?_
        refine mw_iconst C dX12_minute_86 ?_
        rcases ite_some hF with ⟨c11, hF⟩ | ⟨c11, hF⟩
        · refine mw_icmp_eq_t (tgt := 93) C dX12_minute_87 (by decide) g9 (by decide) c11 ?_
          refine mw_sub [1, 2, 3, 0] rfl ?_
          exact T_X12_minute_93 C (F_X12_minute_48 n) ih x1 x2 q5.1 _ _ hF
        · refine mw_icmp_eq_f (tgt := 93) C dX12_minute_87 (by decide) g9 (by decide) c11 ?_
          refine mw_goto (tgt := 146) C dX12_minute_90 (by decide) ?_
          refine mw_sub [1, 2, 3] rfl ?_
          exact T_X12_minute_146 C (F_X12_minute_48 n) ih x1 x2 _ _ hF
def F_X12_minute_30 : Nat → Int → Int → MH → Option MH
  | 0, _, _, _ => none
  | n + 1, x1, x2, h =>
    ck (in32 x2) <|
    if x2 < 0 then
      F_X12_minute_48 20000 x1 0 h
    else
      (F_X12_moves x2 x1 h).bind fun q3 =>
      F_X12_minute_30 n x1 (x2 + (-1)) q3
set_option maxRecDepth 100000 in
theorem T_X12_minute_30 {Z : ZT} (C : Cx Z cX12_minute 5 RX12 3 none) : ∀ (n : Nat) (x1 : Int) (x2 : Int) (h : MH) (t : MH), F_X12_minute_30 n x1 x2 h = some t → MW Z (Qm Z none zN zG t 0 0) 5 zN zG h 0 0 30 [(0, rfv (xd (zX Z)) 141), (1, iv x1), (2, iv x2)] [] := by
  intro n
  induction n with
  | zero =>
    intros
    rename_i hF
    exact absurd hF (by intro q; cases q)
  | succ n ih =>
    intro x1 x2 h t hF
    rw [F_X12_minute_30] at hF
    refine mw_iload_n 2 C dX12_minute_30 rfl rfl ?_
    obtain ⟨g1, hF⟩ := ck_some hF
    rcases ite_some hF with ⟨c2, hF⟩ | ⟨c2, hF⟩
    · refine mw_if_lt_t (tgt := 46) C dX12_minute_31 (by decide) g1 c2 ?_
      refine mw_iconst C dX12_minute_46 ?_
      refine mw_istore_n [(2, iv 0), (0, rfv (xd (zX Z)) 141), (1, iv x1)] C dX12_minute_47 rfl (by decide) rfl ?_
      refine mw_sub [1, 2, 0] rfl ?_
      exact T_X12_minute_48 C 20000 x1 0 _ _ hF
    · refine mw_if_lt_f (tgt := 46) C dX12_minute_31 (by decide) g1 c2 ?_
      refine mw_aload_n 0 C dX12_minute_34 rfl rfl ?_
      refine mw_iload_n 2 C dX12_minute_35 rfl rfl ?_
      refine mw_iload_n 1 C dX12_minute_36 rfl rfl ?_
      obtain ⟨q3, hq3, hF⟩ := bind_some hF
      refine mw_callV (c := 141) [iv x2, iv x1] [] C dX12_minute_37 (T_X12_moves (zl Z) (zX Z) x2 x1 _ _ hq3) rfl zn141 zk141 (by decide) rfl wd1141 wd1142 wd1390 wd14 wd1143 hd_X12_moves rfl (by decide) (by decide) (Nat.le_of_ble_eq_true rfl) ⟨Nat.zero_le _, Nat.zero_le _⟩ ?_
      refine mw_iinc 2 [(2, iv (x2 + (-1))), (0, rfv (xd (zX Z)) 141), (1, iv x1)] C dX12_minute_40 rfl (by decide) rfl ?_
      refine mw_goto (tgt := 30) C dX12_minute_43 (by decide) ?_
      refine mw_sub [1, 2, 0] rfl ?_
      exact ih x1 (x2 + (-1)) _ _ hF
def F_X12_minute_12 : Nat → Int → Int → MH → Option MH
  | 0, _, _, _ => none
  | n + 1, x1, x2, h =>
    ck (in32 x2) <|
    ck (in32 x1) <|
    if x1 < x2 then
      F_X12_minute_30 20000 x1 x1 h
    else
      (F_X12_stops x2 h).bind fun q4 =>
      F_X12_minute_12 n x1 (x2 + 1) q4
set_option maxRecDepth 100000 in
theorem T_X12_minute_12 {Z : ZT} (C : Cx Z cX12_minute 5 RX12 3 none) : ∀ (n : Nat) (x1 : Int) (x2 : Int) (h : MH) (t : MH), F_X12_minute_12 n x1 x2 h = some t → MW Z (Qm Z none zN zG t 0 0) 5 zN zG h 0 0 12 [(0, rfv (xd (zX Z)) 141), (1, iv x1), (2, iv x2)] [] := by
  intro n
  induction n with
  | zero =>
    intros
    rename_i hF
    exact absurd hF (by intro q; cases q)
  | succ n ih =>
    intro x1 x2 h t hF
    rw [F_X12_minute_12] at hF
    refine mw_iload_n 2 C dX12_minute_12 rfl rfl ?_
    refine mw_iload_n 1 C dX12_minute_13 rfl rfl ?_
    obtain ⟨g1, hF⟩ := ck_some hF
    obtain ⟨g2, hF⟩ := ck_some hF
    rcases ite_some hF with ⟨c3, hF⟩ | ⟨c3, hF⟩
    · refine mw_icmp_gt_t (tgt := 28) C dX12_minute_14 (by decide) g1 g2 c3 ?_
      refine mw_iload_n 1 C dX12_minute_28 rfl rfl ?_
      refine mw_istore_n [(2, iv x1), (0, rfv (xd (zX Z)) 141), (1, iv x1)] C dX12_minute_29 rfl (by decide) rfl ?_
      refine mw_sub [1, 2, 0] rfl ?_
      exact T_X12_minute_30 C 20000 x1 x1 _ _ hF
    · refine mw_icmp_gt_f (tgt := 28) C dX12_minute_14 (by decide) g1 g2 c3 ?_
      refine mw_aload_n 0 C dX12_minute_17 rfl rfl ?_
      refine mw_iload_n 2 C dX12_minute_18 rfl rfl ?_
      obtain ⟨q4, hq4, hF⟩ := bind_some hF
      refine mw_callV (c := 141) [iv x2] [] C dX12_minute_19 (T_X12_stops (zl Z) (zX Z) x2 _ _ hq4) rfl zn141 zk141 (by decide) rfl wd1130 wd1131 wd1388 wd14 wd1132 hd_X12_stops rfl (by decide) (by decide) (Nat.le_of_ble_eq_true rfl) ⟨Nat.zero_le _, Nat.zero_le _⟩ ?_
      refine mw_iinc 2 [(2, iv (x2 + 1)), (0, rfv (xd (zX Z)) 141), (1, iv x1)] C dX12_minute_22 rfl (by decide) rfl ?_
      refine mw_goto (tgt := 12) C dX12_minute_25 (by decide) ?_
      refine mw_sub [1, 2, 0] rfl ?_
      exact ih x1 (x2 + 1) _ _ hF
def F_X12_minute_0 (h : MH) : Option MH :=
  nx ((h 142 0) - 1) fun v1 =>
  F_X12_minute_12 20000 v1 0 h
set_option maxRecDepth 100000 in
theorem T_X12_minute_0 {Z : ZT} (C : Cx Z cX12_minute 5 RX12 3 none) (h : MH) (t : MH) (hF : F_X12_minute_0 h = some t) : MW Z (Qm Z none zN zG t 0 0) 5 zN zG h 0 0 0 [(0, rfv (xd (zX Z)) 141)] [] := by
  unfold F_X12_minute_0 at hF
  refine mw_aload_n 0 C dX12_minute_0 rfl rfl ?_
  refine mw_get (k := 0) (T := TX12) (v := rfv (xd (zX Z)) 142) C dX12_minute_1 zn141 zk141 (by decide) rfl inX12 (by decide) wd889 rfl (zfv_r rfl zg_141_0) ?_
  refine mw_iconst C dX12_minute_4 ?_
  refine mw_lald C dX12_minute_5 zn142 zk142 (by decide) (by decide) ?_
  refine mw_l2i C dX12_minute_6 ?_
  refine mw_iconst C dX12_minute_7 ?_
  refine mw_isub C dX12_minute_8 ?_
  obtain ⟨v1, ev1, hF⟩ := nx_some hF
  refine mw_ti ev1 ?_
  refine mw_istore_n [(1, iv v1), (0, rfv (xd (zX Z)) 141)] C dX12_minute_9 rfl (by decide) rfl ?_
  refine mw_iconst C dX12_minute_10 ?_
  refine mw_istore_n [(2, iv 0), (1, iv v1), (0, rfv (xd (zX Z)) 141)] C dX12_minute_11 rfl (by decide) rfl ?_
  refine mw_sub [2, 1, 0] rfl ?_
  exact T_X12_minute_12 C 20000 v1 0 _ _ hF
def F_X12_minute (h : MH) : Option MH := F_X12_minute_0 h
theorem T_X12_minute (l : Launch) (X : XT) (h : MH) (t : MH) (hF : F_X12_minute h = some t) : Ct l X yX12_minute cX12_minute 5 none 3 [rfv (xd X) 141] zN zG h none zN zG t 0 0 := by
  refine Ct.head (by decide) (Nat.le_of_ble_eq_true rfl) (fun Z hX hl _ _ _ C => ?_)
  subst hX
  subst hl
  exact (T_X12_minute_0 C _ _ hF)
/-! BottleLineModel.runs(I)J -/
def F_X12_runs_8 : Nat → Int → Int → Int → MH → Option (Int × MH)
  | 0, _, _, _, _ => none
  | n + 1, x1, x2, x4, h =>
    ck (in32 x4) <|
    ck (in32 x1) <|
    if x1 ≤ x4 then
      (F_X12_made h).bind fun q4 =>
      some ((q4.1 - x2), q4.2)
    else
      (F_X12_minute h).bind fun q5 =>
      F_X12_runs_8 n x1 x2 (x4 + 1) q5
set_option maxRecDepth 100000 in
theorem T_X12_runs_8 {Z : ZT} (C : Cx Z cX12_runs 5 RX12 4 (some .long)) : ∀ (n : Nat) (x1 : Int) (x2 : Int) (x4 : Int) (h : MH) (t : (Int × MH)), F_X12_runs_8 n x1 x2 x4 h = some t → MW Z (Qm Z (some (lvv t.1)) zN zG t.2 0 0) 5 zN zG h 0 0 8 [(0, rfv (xd (zX Z)) 141), (1, iv x1), (2, lvv x2), (4, iv x4)] [] := by
  intro n
  induction n with
  | zero =>
    intros
    rename_i hF
    exact absurd hF (by intro q; cases q)
  | succ n ih =>
    intro x1 x2 x4 h t hF
    rw [F_X12_runs_8] at hF
    refine mw_iload 3 C dX12_runs_8 rfl ?_
    refine mw_iload_n 1 C dX12_runs_10 rfl rfl ?_
    obtain ⟨g1, hF⟩ := ck_some hF
    obtain ⟨g2, hF⟩ := ck_some hF
    rcases ite_some hF with ⟨c3, hF⟩ | ⟨c3, hF⟩
    · refine mw_icmp_ge_t (tgt := 24) C dX12_runs_11 (by decide) g1 g2 c3 ?_
      refine mw_aload_n 0 C dX12_runs_24 rfl rfl ?_
      obtain ⟨q4, hq4, hF⟩ := bind_some hF
      refine mw_callV (c := 141) [] [] C dX12_runs_25 (T_X12_made (zl Z) (zX Z) _ _ hq4) rfl zn141 zk141 (by decide) rfl wd1083 wd1084 wd1381 wd14 wd1085 hd_X12_made rfl (by decide) (by decide) (Nat.le_of_ble_eq_true rfl) ⟨Nat.zero_le _, Nat.zero_le _⟩ ?_
      refine mw_lload_n 2 C dX12_runs_28 rfl rfl ?_
      refine mw_lsub C dX12_runs_29 ?_
      cases hF
      exact mw_lret C dX12_runs_30 rfl rfl
    · refine mw_icmp_ge_f (tgt := 24) C dX12_runs_11 (by decide) g1 g2 c3 ?_
      refine mw_aload_n 0 C dX12_runs_14 rfl rfl ?_
      obtain ⟨q5, hq5, hF⟩ := bind_some hF
      refine mw_callV (c := 141) [] [] C dX12_runs_15 (T_X12_minute (zl Z) (zX Z) _ _ hq5) rfl zn141 zk141 (by decide) rfl wd1127 wd1128 wd1387 wd14 wd1129 hd_X12_minute rfl (by decide) (by decide) (Nat.le_of_ble_eq_true rfl) ⟨Nat.zero_le _, Nat.zero_le _⟩ ?_
      refine mw_iinc 3 [(4, iv (x4 + 1)), (0, rfv (xd (zX Z)) 141), (1, iv x1), (2, lvv x2)] C dX12_runs_18 rfl (by decide) rfl ?_
      refine mw_goto (tgt := 8) C dX12_runs_21 (by decide) ?_
      refine mw_sub [1, 2, 3, 0] rfl ?_
      exact ih x1 x2 (x4 + 1) _ _ hF
def F_X12_runs_0 (x1 : Int) (h : MH) : Option (Int × MH) :=
  (F_X12_made h).bind fun q1 =>
  F_X12_runs_8 20000 x1 q1.1 0 q1.2
set_option maxRecDepth 100000 in
theorem T_X12_runs_0 {Z : ZT} (C : Cx Z cX12_runs 5 RX12 4 (some .long)) (x1 : Int) (h : MH) (t : (Int × MH)) (hF : F_X12_runs_0 x1 h = some t) : MW Z (Qm Z (some (lvv t.1)) zN zG t.2 0 0) 5 zN zG h 0 0 0 [(0, rfv (xd (zX Z)) 141), (1, iv x1)] [] := by
  unfold F_X12_runs_0 at hF
  refine mw_aload_n 0 C dX12_runs_0 rfl rfl ?_
  obtain ⟨q1, hq1, hF⟩ := bind_some hF
  refine mw_callV (c := 141) [] [] C dX12_runs_1 (T_X12_made (zl Z) (zX Z) _ _ hq1) rfl zn141 zk141 (by decide) rfl wd1083 wd1084 wd1381 wd14 wd1085 hd_X12_made rfl (by decide) (by decide) (Nat.le_of_ble_eq_true rfl) ⟨Nat.zero_le _, Nat.zero_le _⟩ ?_
  refine mw_lstore_n [(2, lvv q1.1), (0, rfv (xd (zX Z)) 141), (1, iv x1)] C dX12_runs_4 rfl (by decide) rfl ?_
  refine mw_iconst C dX12_runs_5 ?_
  refine mw_istore [(4, iv 0), (2, lvv q1.1), (0, rfv (xd (zX Z)) 141), (1, iv x1)] C dX12_runs_6 (by decide) rfl ?_
  refine mw_sub [2, 3, 1, 0] rfl ?_
  exact T_X12_runs_8 C 20000 x1 q1.1 0 _ _ hF
def F_X12_runs (x1 : Int) (h : MH) : Option (Int × MH) := F_X12_runs_0 x1 h
theorem T_X12_runs (l : Launch) (X : XT) (x1 : Int) (h : MH) (t : (Int × MH)) (hF : F_X12_runs x1 h = some t) : Ct l X yX12_runs cX12_runs 5 (some .long) 4 [rfv (xd X) 141, iv x1] zN zG h (some (lvv t.1)) zN zG t.2 0 0 := by
  refine Ct.head (by decide) (Nat.le_of_ble_eq_true rfl) (fun Z hX hl _ _ _ C => ?_)
  subst hX
  subst hl
  exact (T_X12_runs_0 C x1 _ _ hF)
/-! BottleLineModel.run(I)I -/
def F_X12_run_0 (x1 : Int) (h : MH) : Option (Int × MH) :=
  ck (in32 x1) <|
  (F_X12_isFrom x1 1 600 h).bind fun q2 =>
  ck (in32 q2.1) <|
  if q2.1 ≠ 0 then
    ck (in64 (q2.2 142 0)) <|
    if (q2.2 142 0) ≠ 0 then
      (F_X12_runs x1 q2.2).bind fun q7 =>
      (F_X12_gives q7.1 q7.2).bind fun q8 =>
      some (q8.1, q8.2)
    else
      (F_X12_refuse 6 q2.2).bind fun q9 =>
      some (q9.1, q9.2)
  else
    (F_X12_refuse 1 q2.2).bind fun q10 =>
    some (q10.1, q10.2)
set_option maxRecDepth 100000 in
theorem T_X12_run_0 {Z : ZT} (C : Cx Z cX12_run 2 RX12 5 (some .int)) (x1 : Int) (h : MH) (t : (Int × MH)) (hF : F_X12_run_0 x1 h = some t) : MW Z (Qm Z (some (iv t.1)) zN zG t.2 0 0) 2 zN zG h 0 0 0 [(0, rfv (xd (zX Z)) 141), (1, iv x1)] [] := by
  unfold F_X12_run_0 at hF
  refine mw_iload_n 1 C dX12_run_0 rfl rfl ?_
  obtain ⟨g1, hF⟩ := ck_some hF
  refine mw_i2l C dX12_run_1 g1 ?_
  refine mw_lconst (a := 1) C dX12_run_2 lc_1 ?_
  refine mw_ldc2 (a := 600) C dX12_run_3 wd1123 rfl ?_
  obtain ⟨q2, hq2, hF⟩ := bind_some hF
  refine mw_callS [lvv x1, lvv 1, lvv 600] [] C dX12_run_6 (T_X12_isFrom (zl Z) (zX Z) x1 1 600 _ _ hq2) rfl wd1116 wd1117 wd14 wd1118 hd_X12_isFrom rfl (by decide) (by decide) (Nat.le_of_ble_eq_true rfl) ⟨Nat.zero_le _, Nat.zero_le _⟩ ?_
  obtain ⟨g3, hF⟩ := ck_some hF
  rcases ite_some hF with ⟨c4, hF⟩ | ⟨c4, hF⟩
  · refine mw_if_ne_t (tgt := 18) C dX12_run_9 (by decide) g3 c4 ?_
    refine mw_aload_n 0 C dX12_run_18 rfl rfl ?_
    refine mw_get (k := 0) (T := TX12) (v := rfv (xd (zX Z)) 142) C dX12_run_19 zn141 zk141 (by decide) rfl inX12 (by decide) wd889 rfl (zfv_r rfl zg_141_0) ?_
    refine mw_iconst C dX12_run_22 ?_
    refine mw_lald C dX12_run_23 zn142 zk142 (by decide) (by decide) ?_
    refine mw_lconst (a := 0) C dX12_run_24 lc_0 ?_
    obtain ⟨g5, hF⟩ := ck_some hF
    rcases ite_some hF with ⟨c6, hF⟩ | ⟨c6, hF⟩
    · refine mw_lcmp_ne_t (tgt := 38) C dX12_run_25 dX12_run_26 (by decide) g5 (by decide) c6 ?_
      refine mw_aload_n 0 C dX12_run_38 rfl rfl ?_
      refine mw_aload_n 0 C dX12_run_39 rfl rfl ?_
      refine mw_iload_n 1 C dX12_run_40 rfl rfl ?_
      obtain ⟨q7, hq7, hF⟩ := bind_some hF
      refine mw_callV (c := 141) [iv x1] [rfv (xd (zX Z)) 141] C dX12_run_41 (T_X12_runs (zl Z) (zX Z) x1 _ _ hq7) rfl zn141 zk141 (by decide) rfl wd1124 wd1125 wd1386 wd14 wd1126 hd_X12_runs rfl (by decide) (by decide) (Nat.le_of_ble_eq_true rfl) ⟨Nat.zero_le _, Nat.zero_le _⟩ ?_
      obtain ⟨q8, hq8, hF⟩ := bind_some hF
      refine mw_callV (c := 141) [lvv q7.1] [] C dX12_run_44 (T_X12_gives (zl Z) (zX Z) q7.1 _ _ hq8) rfl zn141 zk141 (by decide) rfl wd1069 wd1070 wd1379 wd14 wd1071 hd_X12_gives rfl (by decide) (by decide) (Nat.le_of_ble_eq_true rfl) ⟨Nat.zero_le _, Nat.zero_le _⟩ ?_
      cases hF
      exact mw_iret C dX12_run_47 rfl rfl
    · refine mw_lcmp_ne_f (tgt := 38) C dX12_run_25 dX12_run_26 (by decide) g5 (by decide) c6 ?_
      refine mw_aload_n 0 C dX12_run_29 rfl rfl ?_
      refine mw_bipush C dX12_run_30 bp_6 ?_
      obtain ⟨q9, hq9, hF⟩ := bind_some hF
      refine mw_callV (c := 141) [iv 6] [] C dX12_run_32 (T_X12_refuse (zl Z) (zX Z) 6 _ _ hq9) rfl zn141 zk141 (by decide) rfl wd997 wd998 wd1360 wd14 wd999 hd_X12_refuse rfl (by decide) (by decide) (Nat.le_of_ble_eq_true rfl) ⟨Nat.zero_le _, Nat.zero_le _⟩ ?_
      refine mw_goto (tgt := 47) C dX12_run_35 (by decide) ?_
      cases hF
      exact mw_iret C dX12_run_47 rfl rfl
  · refine mw_if_ne_f (tgt := 18) C dX12_run_9 (by decide) g3 c4 ?_
    refine mw_aload_n 0 C dX12_run_12 rfl rfl ?_
    refine mw_iconst C dX12_run_13 ?_
    obtain ⟨q10, hq10, hF⟩ := bind_some hF
    refine mw_callV (c := 141) [iv 1] [] C dX12_run_14 (T_X12_refuse (zl Z) (zX Z) 1 _ _ hq10) rfl zn141 zk141 (by decide) rfl wd997 wd998 wd1360 wd14 wd999 hd_X12_refuse rfl (by decide) (by decide) (Nat.le_of_ble_eq_true rfl) ⟨Nat.zero_le _, Nat.zero_le _⟩ ?_
    cases hF
    exact mw_iret C dX12_run_17 rfl rfl
def F_X12_run (x1 : Int) (h : MH) : Option (Int × MH) := F_X12_run_0 x1 h
theorem T_X12_run (l : Launch) (X : XT) (x1 : Int) (h : MH) (t : (Int × MH)) (hF : F_X12_run x1 h = some t) : Ct l X yX12_run cX12_run 2 (some .int) 5 [rfv (xd X) 141, iv x1] zN zG h (some (iv t.1)) zN zG t.2 0 0 := by
  refine Ct.head (by decide) (Nat.le_of_ble_eq_true rfl) (fun Z hX hl _ _ _ C => ?_)
  subst hX
  subst hl
  exact (T_X12_run_0 C x1 _ _ hF)
/-! BottleLineModel.minutes(II)I -/
def F_X12_minutes_34 (h : MH) : Option (Int × MH) :=
  (F_X12_refuse 1 h).bind fun q1 =>
  some (q1.1, q1.2)
set_option maxRecDepth 100000 in
theorem T_X12_minutes_34 {Z : ZT} (C : Cx Z cX12_minutes 3 RX12 3 (some .int)) (h : MH) (t : (Int × MH)) (hF : F_X12_minutes_34 h = some t) : MW Z (Qm Z (some (iv t.1)) zN zG t.2 0 0) 3 zN zG h 0 0 34 [(0, rfv (xd (zX Z)) 141)] [] := by
  unfold F_X12_minutes_34 at hF
  refine mw_aload_n 0 C dX12_minutes_34 rfl rfl ?_
  refine mw_iconst C dX12_minutes_35 ?_
  obtain ⟨q1, hq1, hF⟩ := bind_some hF
  refine mw_callV (c := 141) [iv 1] [] C dX12_minutes_36 (T_X12_refuse (zl Z) (zX Z) 1 _ _ hq1) rfl zn141 zk141 (by decide) rfl wd997 wd998 wd1360 wd14 wd999 hd_X12_refuse rfl (by decide) (by decide) (Nat.le_of_ble_eq_true rfl) ⟨Nat.zero_le _, Nat.zero_le _⟩ ?_
  cases hF
  exact mw_iret C dX12_minutes_39 rfl rfl
def F_X12_minutes_0 (x1 : Int) (x2 : Int) (h : MH) : Option (Int × MH) :=
  ck (in32 x1) <|
  (F_X12_isMachine x1 h).bind fun q2 =>
  ck (in32 q2.1) <|
  if q2.1 = 0 then
    F_X12_minutes_34 q2.2
  else
    ck (in32 x2) <|
    if x2 < 0 then
      F_X12_minutes_34 q2.2
    else
      if 3 < x2 then
        F_X12_minutes_34 q2.2
      else
        (F_X12_ofMachine x1 (7 + x2) q2.2).bind fun q8 =>
        (F_X12_gives q8.1 q8.2).bind fun q9 =>
        some (q9.1, q9.2)
set_option maxRecDepth 100000 in
theorem T_X12_minutes_0 {Z : ZT} (C : Cx Z cX12_minutes 3 RX12 3 (some .int)) (x1 : Int) (x2 : Int) (h : MH) (t : (Int × MH)) (hF : F_X12_minutes_0 x1 x2 h = some t) : MW Z (Qm Z (some (iv t.1)) zN zG t.2 0 0) 3 zN zG h 0 0 0 [(0, rfv (xd (zX Z)) 141), (1, iv x1), (2, iv x2)] [] := by
  unfold F_X12_minutes_0 at hF
  refine mw_aload_n 0 C dX12_minutes_0 rfl rfl ?_
  refine mw_iload_n 1 C dX12_minutes_1 rfl rfl ?_
  obtain ⟨g1, hF⟩ := ck_some hF
  refine mw_i2l C dX12_minutes_2 g1 ?_
  obtain ⟨q2, hq2, hF⟩ := bind_some hF
  refine mw_callV (c := 141) [lvv x1] [] C dX12_minutes_3 (T_X12_isMachine (zl Z) (zX Z) x1 _ _ hq2) rfl zn141 zk141 (by decide) rfl wd1093 wd1094 wd1383 wd14 wd1095 hd_X12_isMachine rfl (by decide) (by decide) (Nat.le_of_ble_eq_true rfl) ⟨Nat.zero_le _, Nat.zero_le _⟩ ?_
  obtain ⟨g3, hF⟩ := ck_some hF
  rcases ite_some hF with ⟨c4, hF⟩ | ⟨c4, hF⟩
  · refine mw_if_eq_t (tgt := 34) C dX12_minutes_6 (by decide) g3 c4 ?_
    refine mw_sub [0] rfl ?_
    exact T_X12_minutes_34 C _ _ hF
  · refine mw_if_eq_f (tgt := 34) C dX12_minutes_6 (by decide) g3 c4 ?_
    refine mw_iload_n 2 C dX12_minutes_9 rfl rfl ?_
    obtain ⟨g5, hF⟩ := ck_some hF
    rcases ite_some hF with ⟨c6, hF⟩ | ⟨c6, hF⟩
    · refine mw_if_lt_t (tgt := 34) C dX12_minutes_10 (by decide) g5 c6 ?_
      refine mw_sub [0] rfl ?_
      exact T_X12_minutes_34 C _ _ hF
    · refine mw_if_lt_f (tgt := 34) C dX12_minutes_10 (by decide) g5 c6 ?_
      refine mw_iload_n 2 C dX12_minutes_13 rfl rfl ?_
      refine mw_iconst C dX12_minutes_14 ?_
      rcases ite_some hF with ⟨c7, hF⟩ | ⟨c7, hF⟩
      · refine mw_icmp_gt_t (tgt := 34) C dX12_minutes_15 (by decide) g5 (by decide) c7 ?_
        refine mw_sub [0] rfl ?_
        exact T_X12_minutes_34 C _ _ hF
      · refine mw_icmp_gt_f (tgt := 34) C dX12_minutes_15 (by decide) g5 (by decide) c7 ?_
        refine mw_aload_n 0 C dX12_minutes_18 rfl rfl ?_
        refine mw_aload_n 0 C dX12_minutes_19 rfl rfl ?_
        refine mw_iload_n 1 C dX12_minutes_20 rfl rfl ?_
        refine mw_bipush C dX12_minutes_21 bp_7 ?_
        refine mw_iload_n 2 C dX12_minutes_23 rfl rfl ?_
        refine mw_iadd C dX12_minutes_24 ?_
        obtain ⟨q8, hq8, hF⟩ := bind_some hF
        refine mw_callV (c := 141) [iv x1, iv (7 + x2)] [rfv (xd (zX Z)) 141] C dX12_minutes_25 (T_X12_ofMachine (zl Z) (zX Z) x1 (7 + x2) _ _ hq8) rfl zn141 zk141 (by decide) rfl wd1086 wd1087 wd1382 wd14 wd1088 hd_X12_ofMachine rfl (by decide) (by decide) (Nat.le_of_ble_eq_true rfl) ⟨Nat.zero_le _, Nat.zero_le _⟩ ?_
        obtain ⟨q9, hq9, hF⟩ := bind_some hF
        refine mw_callV (c := 141) [lvv q8.1] [] C dX12_minutes_28 (T_X12_gives (zl Z) (zX Z) q8.1 _ _ hq9) rfl zn141 zk141 (by decide) rfl wd1069 wd1070 wd1379 wd14 wd1071 hd_X12_gives rfl (by decide) (by decide) (Nat.le_of_ble_eq_true rfl) ⟨Nat.zero_le _, Nat.zero_le _⟩ ?_
        refine mw_goto (tgt := 39) C dX12_minutes_31 (by decide) ?_
        cases hF
        exact mw_iret C dX12_minutes_39 rfl rfl
def F_X12_minutes (x1 : Int) (x2 : Int) (h : MH) : Option (Int × MH) := F_X12_minutes_0 x1 x2 h
theorem T_X12_minutes (l : Launch) (X : XT) (x1 : Int) (x2 : Int) (h : MH) (t : (Int × MH)) (hF : F_X12_minutes x1 x2 h = some t) : Ct l X yX12_minutes cX12_minutes 3 (some .int) 3 [rfv (xd X) 141, iv x1, iv x2] zN zG h (some (iv t.1)) zN zG t.2 0 0 := by
  refine Ct.head (by decide) (Nat.le_of_ble_eq_true rfl) (fun Z hX hl _ _ _ C => ?_)
  subst hX
  subst hl
  exact (T_X12_minutes_0 C x1 x2 _ _ hF)
/-! BottleLineModel.blame(II)I -/
def F_X12_blame_39 (h : MH) : Option (Int × MH) :=
  (F_X12_refuse 1 h).bind fun q1 =>
  some (q1.1, q1.2)
set_option maxRecDepth 100000 in
theorem T_X12_blame_39 {Z : ZT} (C : Cx Z cX12_blame 3 RX12 2 (some .int)) (h : MH) (t : (Int × MH)) (hF : F_X12_blame_39 h = some t) : MW Z (Qm Z (some (iv t.1)) zN zG t.2 0 0) 3 zN zG h 0 0 39 [(0, rfv (xd (zX Z)) 141)] [] := by
  unfold F_X12_blame_39 at hF
  refine mw_aload_n 0 C dX12_blame_39 rfl rfl ?_
  refine mw_iconst C dX12_blame_40 ?_
  obtain ⟨q1, hq1, hF⟩ := bind_some hF
  refine mw_callV (c := 141) [iv 1] [] C dX12_blame_41 (T_X12_refuse (zl Z) (zX Z) 1 _ _ hq1) rfl zn141 zk141 (by decide) rfl wd997 wd998 wd1360 wd14 wd999 hd_X12_refuse rfl (by decide) (by decide) (Nat.le_of_ble_eq_true rfl) ⟨Nat.zero_le _, Nat.zero_le _⟩ ?_
  cases hF
  exact mw_iret C dX12_blame_44 rfl rfl
def F_X12_blame_0 (x1 : Int) (x2 : Int) (h : MH) : Option (Int × MH) :=
  ck (in32 x1) <|
  (F_X12_isMachine x1 h).bind fun q2 =>
  ck (in32 q2.1) <|
  if q2.1 = 0 then
    F_X12_blame_39 q2.2
  else
    ck (in32 x2) <|
    (F_X12_isMachine x2 q2.2).bind fun q6 =>
    ck (in32 q6.1) <|
    if q6.1 = 0 then
      F_X12_blame_39 q6.2
    else
      ck (0 ≤ ((104 + (6 * x1)) + x2) ∧ ((104 + (6 * x1)) + x2) < 2640) <|
      (F_X12_gives (q6.2 142 ((104 + (6 * x1)) + x2).toNat) q6.2).bind fun q10 =>
      some (q10.1, q10.2)
set_option maxRecDepth 100000 in
theorem T_X12_blame_0 {Z : ZT} (C : Cx Z cX12_blame 3 RX12 2 (some .int)) (x1 : Int) (x2 : Int) (h : MH) (t : (Int × MH)) (hF : F_X12_blame_0 x1 x2 h = some t) : MW Z (Qm Z (some (iv t.1)) zN zG t.2 0 0) 3 zN zG h 0 0 0 [(0, rfv (xd (zX Z)) 141), (1, iv x1), (2, iv x2)] [] := by
  unfold F_X12_blame_0 at hF
  refine mw_aload_n 0 C dX12_blame_0 rfl rfl ?_
  refine mw_iload_n 1 C dX12_blame_1 rfl rfl ?_
  obtain ⟨g1, hF⟩ := ck_some hF
  refine mw_i2l C dX12_blame_2 g1 ?_
  obtain ⟨q2, hq2, hF⟩ := bind_some hF
  refine mw_callV (c := 141) [lvv x1] [] C dX12_blame_3 (T_X12_isMachine (zl Z) (zX Z) x1 _ _ hq2) rfl zn141 zk141 (by decide) rfl wd1093 wd1094 wd1383 wd14 wd1095 hd_X12_isMachine rfl (by decide) (by decide) (Nat.le_of_ble_eq_true rfl) ⟨Nat.zero_le _, Nat.zero_le _⟩ ?_
  obtain ⟨g3, hF⟩ := ck_some hF
  rcases ite_some hF with ⟨c4, hF⟩ | ⟨c4, hF⟩
  · refine mw_if_eq_t (tgt := 39) C dX12_blame_6 (by decide) g3 c4 ?_
    refine mw_sub [0] rfl ?_
    exact T_X12_blame_39 C _ _ hF
  · refine mw_if_eq_f (tgt := 39) C dX12_blame_6 (by decide) g3 c4 ?_
    refine mw_aload_n 0 C dX12_blame_9 rfl rfl ?_
    refine mw_iload_n 2 C dX12_blame_10 rfl rfl ?_
    obtain ⟨g5, hF⟩ := ck_some hF
    refine mw_i2l C dX12_blame_11 g5 ?_
    obtain ⟨q6, hq6, hF⟩ := bind_some hF
    refine mw_callV (c := 141) [lvv x2] [] C dX12_blame_12 (T_X12_isMachine (zl Z) (zX Z) x2 _ _ hq6) rfl zn141 zk141 (by decide) rfl wd1093 wd1094 wd1383 wd14 wd1095 hd_X12_isMachine rfl (by decide) (by decide) (Nat.le_of_ble_eq_true rfl) ⟨Nat.zero_le _, Nat.zero_le _⟩ ?_
    obtain ⟨g7, hF⟩ := ck_some hF
    rcases ite_some hF with ⟨c8, hF⟩ | ⟨c8, hF⟩
    · refine mw_if_eq_t (tgt := 39) C dX12_blame_15 (by decide) g7 c8 ?_
      refine mw_sub [0] rfl ?_
      exact T_X12_blame_39 C _ _ hF
    · refine mw_if_eq_f (tgt := 39) C dX12_blame_15 (by decide) g7 c8 ?_
      refine mw_aload_n 0 C dX12_blame_18 rfl rfl ?_
      refine mw_aload_n 0 C dX12_blame_19 rfl rfl ?_
      refine mw_get (k := 0) (T := TX12) (v := rfv (xd (zX Z)) 142) C dX12_blame_20 zn141 zk141 (by decide) rfl inX12 (by decide) wd889 rfl (zfv_r rfl zg_141_0) ?_
      refine mw_bipush C dX12_blame_23 bp_104 ?_
      refine mw_bipush C dX12_blame_25 bp_6 ?_
      refine mw_iload_n 1 C dX12_blame_27 rfl rfl ?_
      refine mw_imul C dX12_blame_28 ?_
      refine mw_iadd C dX12_blame_29 ?_
      refine mw_iload_n 2 C dX12_blame_30 rfl rfl ?_
      refine mw_iadd C dX12_blame_31 ?_
      obtain ⟨g9, hF⟩ := ck_some hF
      refine mw_lald C dX12_blame_32 zn142 zk142 (by decide) g9 ?_
      obtain ⟨q10, hq10, hF⟩ := bind_some hF
      refine mw_callV (c := 141) [lvv (q6.2 142 ((104 + (6 * x1)) + x2).toNat)] [] C dX12_blame_33 (T_X12_gives (zl Z) (zX Z) (q6.2 142 ((104 + (6 * x1)) + x2).toNat) _ _ hq10) rfl zn141 zk141 (by decide) rfl wd1069 wd1070 wd1379 wd14 wd1071 hd_X12_gives rfl (by decide) (by decide) (Nat.le_of_ble_eq_true rfl) ⟨Nat.zero_le _, Nat.zero_le _⟩ ?_
      refine mw_goto (tgt := 44) C dX12_blame_36 (by decide) ?_
      cases hF
      exact mw_iret C dX12_blame_44 rfl rfl
def F_X12_blame (x1 : Int) (x2 : Int) (h : MH) : Option (Int × MH) := F_X12_blame_0 x1 x2 h
theorem T_X12_blame (l : Launch) (X : XT) (x1 : Int) (x2 : Int) (h : MH) (t : (Int × MH)) (hF : F_X12_blame x1 x2 h = some t) : Ct l X yX12_blame cX12_blame 3 (some .int) 2 [rfv (xd X) 141, iv x1, iv x2] zN zG h (some (iv t.1)) zN zG t.2 0 0 := by
  refine Ct.head (by decide) (Nat.le_of_ble_eq_true rfl) (fun Z hX hl _ _ _ C => ?_)
  subst hX
  subst hl
  exact (T_X12_blame_0 C x1 x2 _ _ hF)
/-! BottleLineModel.tells(JJ)Z -/
def F_X12_tells_6 : Nat → Int → Int → Int → Int → MH → Option (Int × MH)
  | 0, _, _, _, _, _ => none
  | n + 1, x1, x3, x5, x7, h =>
    ck (in64 x7) <|
    if x7 = 0 then
      ck (in64 x1) <|
      ck (in64 x5) <|
      ck (x5 ≠ 0) <|
      nx (hup h 141 2 (Int.tdiv x1 x5)) fun h6 =>
      ck (in64 x3) <|
      ck (x5 ≠ 0) <|
      nx (hup h6 141 3 (Int.tdiv x3 x5)) fun h9 =>
      (F_X12_is 0 h9).bind fun q10 =>
      ck (q10.1 = 0 ∨ q10.1 = 1) <|
      some (q10.1, q10.2)
    else
      ck (in64 x5) <|
      ck (x7 ≠ 0) <|
      nx (Int.tmod x5 x7) fun v14 =>
      F_X12_tells_6 n x1 x3 x7 v14 h
set_option maxRecDepth 100000 in
theorem T_X12_tells_6 {Z : ZT} (C : Cx Z cX12_tells 11 RX12 2 (some .boolean)) : ∀ (n : Nat) (x1 : Int) (x3 : Int) (x5 : Int) (x7 : Int) (h : MH) (t : (Int × MH)), F_X12_tells_6 n x1 x3 x5 x7 h = some t → MW Z (Qm Z (some (iv t.1)) zN zG t.2 0 0) 11 zN zG h 0 0 6 [(0, rfv (xd (zX Z)) 141), (1, lvv x1), (3, lvv x3), (5, lvv x5), (7, lvv x7)] [] := by
  intro n
  induction n with
  | zero =>
    intros
    rename_i hF
    exact absurd hF (by intro q; cases q)
  | succ n ih =>
    intro x1 x3 x5 x7 h t hF
    rw [F_X12_tells_6] at hF
    refine mw_lload 4 C dX12_tells_6 rfl ?_
    refine mw_lconst (a := 0) C dX12_tells_8 lc_0 ?_
    obtain ⟨g1, hF⟩ := ck_some hF
    rcases ite_some hF with ⟨c2, hF⟩ | ⟨c2, hF⟩
    · refine mw_lcmp_eq_t (tgt := 31) C dX12_tells_9 dX12_tells_10 (by decide) g1 (by decide) c2 ?_
      refine mw_aload_n 0 C dX12_tells_31 rfl rfl ?_
      refine mw_lload_n 1 C dX12_tells_32 rfl rfl ?_
      refine mw_lload 3 C dX12_tells_33 rfl ?_
      obtain ⟨g3, hF⟩ := ck_some hF
      obtain ⟨g4, hF⟩ := ck_some hF
      obtain ⟨g5, hF⟩ := ck_some hF
      refine mw_ldiv C dX12_tells_35 g3 g4 g5 ?_
      obtain ⟨h6, eh6, hF⟩ := nx_some hF
      refine mw_put (k := 2) (T := TX12) (ty0 := tyX12) (x := (Int.tdiv x1 x5)) C dX12_tells_36 zn141 zk141 (by decide) rfl inX12 tyX12_ok nmX12 (by decide) wd891 rfl rfl rfl rfl rfl (by decide) (mw_h eh6 ?_)
      refine mw_aload_n 0 C dX12_tells_39 rfl rfl ?_
      refine mw_lload_n 2 C dX12_tells_40 rfl rfl ?_
      refine mw_lload 3 C dX12_tells_41 rfl ?_
      obtain ⟨g7, hF⟩ := ck_some hF
      obtain ⟨g8, hF⟩ := ck_some hF
      refine mw_ldiv C dX12_tells_43 g7 g4 g8 ?_
      obtain ⟨h9, eh9, hF⟩ := nx_some hF
      refine mw_put (k := 3) (T := TX12) (ty0 := tyX12) (x := (Int.tdiv x3 x5)) C dX12_tells_44 zn141 zk141 (by decide) rfl inX12 tyX12_ok nmX12 (by decide) wd892 rfl rfl rfl rfl rfl (by decide) (mw_h eh9 ?_)
      refine mw_aload_n 0 C dX12_tells_47 rfl rfl ?_
      refine mw_iconst C dX12_tells_48 ?_
      obtain ⟨q10, hq10, hF⟩ := bind_some hF
      refine mw_callV (c := 141) [iv 0] [] C dX12_tells_49 (T_X12_is (zl Z) (zX Z) 0 _ _ hq10) rfl zn141 zk141 (by decide) rfl wd960 wd961 wd1357 wd14 wd962 hd_X12_is rfl (by decide) (by decide) (Nat.le_of_ble_eq_true rfl) ⟨Nat.zero_le _, Nat.zero_le _⟩ ?_
      obtain ⟨g11, hF⟩ := ck_some hF
      cases hF
      exact mw_zret C dX12_tells_52 g11 rfl rfl
    · refine mw_lcmp_eq_f (tgt := 31) C dX12_tells_9 dX12_tells_10 (by decide) g1 (by decide) c2 ?_
      refine mw_lload 3 C dX12_tells_13 rfl ?_
      refine mw_lload 4 C dX12_tells_15 rfl ?_
      obtain ⟨g12, hF⟩ := ck_some hF
      obtain ⟨g13, hF⟩ := ck_some hF
      refine mw_lrem C dX12_tells_17 g12 g1 g13 ?_
      obtain ⟨v14, ev14, hF⟩ := nx_some hF
      refine mw_tl ev14 ?_
      refine mw_lstore [(9, lvv v14), (0, rfv (xd (zX Z)) 141), (1, lvv x1), (3, lvv x3), (5, lvv x5), (7, lvv x7)] C dX12_tells_18 (by decide) rfl ?_
      refine mw_lload 5 C dX12_tells_20 rfl ?_
      refine mw_lstore [(5, lvv x7), (9, lvv v14), (0, rfv (xd (zX Z)) 141), (1, lvv x1), (3, lvv x3), (7, lvv x7)] C dX12_tells_22 (by decide) rfl ?_
      refine mw_lload 1 C dX12_tells_24 rfl ?_
      refine mw_lstore [(7, lvv v14), (5, lvv x7), (9, lvv v14), (0, rfv (xd (zX Z)) 141), (1, lvv x1), (3, lvv x3)] C dX12_tells_26 (by decide) rfl ?_
      refine mw_goto (tgt := 6) C dX12_tells_28 (by decide) ?_
      refine mw_sub [3, 4, 5, 1, 0] rfl ?_
      exact ih x1 x3 x7 v14 _ _ hF
def F_X12_tells_0 (x1 : Int) (x3 : Int) (h : MH) : Option (Int × MH) :=
  F_X12_tells_6 20000 x1 x3 x1 x3 h
set_option maxRecDepth 100000 in
theorem T_X12_tells_0 {Z : ZT} (C : Cx Z cX12_tells 11 RX12 2 (some .boolean)) (x1 : Int) (x3 : Int) (h : MH) (t : (Int × MH)) (hF : F_X12_tells_0 x1 x3 h = some t) : MW Z (Qm Z (some (iv t.1)) zN zG t.2 0 0) 11 zN zG h 0 0 0 [(0, rfv (xd (zX Z)) 141), (1, lvv x1), (3, lvv x3)] [] := by
  unfold F_X12_tells_0 at hF
  refine mw_lload_n 1 C dX12_tells_0 rfl rfl ?_
  refine mw_lstore [(5, lvv x1), (0, rfv (xd (zX Z)) 141), (1, lvv x1), (3, lvv x3)] C dX12_tells_1 (by decide) rfl ?_
  refine mw_lload_n 3 C dX12_tells_3 rfl rfl ?_
  refine mw_lstore [(7, lvv x3), (5, lvv x1), (0, rfv (xd (zX Z)) 141), (1, lvv x1), (3, lvv x3)] C dX12_tells_4 (by decide) rfl ?_
  refine mw_sub [2, 3, 4, 1, 0] rfl ?_
  exact T_X12_tells_6 C 20000 x1 x3 x1 x3 _ _ hF
def F_X12_tells (x1 : Int) (x3 : Int) (h : MH) : Option (Int × MH) := F_X12_tells_0 x1 x3 h
theorem T_X12_tells (l : Launch) (X : XT) (x1 : Int) (x3 : Int) (h : MH) (t : (Int × MH)) (hF : F_X12_tells x1 x3 h = some t) : Ct l X yX12_tells cX12_tells 11 (some .boolean) 2 [rfv (xd X) 141, lvv x1, lvv x3] zN zG h (some (iv t.1)) zN zG t.2 0 0 := by
  refine Ct.head (by decide) (Nat.le_of_ble_eq_true rfl) (fun Z hX hl _ _ _ C => ?_)
  subst hX
  subst hl
  exact (T_X12_tells_0 C x1 x3 _ _ hF)
/-! BottleLineModel.share(I)Z -/
def F_X12_share_0 (x1 : Int) (h : MH) : Option (Int × MH) :=
  ck (in32 x1) <|
  (F_X12_isMachine x1 h).bind fun q2 =>
  ck (in32 q2.1) <|
  if q2.1 ≠ 0 then
    nx (q2.2 142 2) fun v5 =>
    (F_X12_ofMachine x1 7 q2.2).bind fun q6 =>
    ck (in64 v5) <|
    if v5 ≠ 0 then
      (F_X12_tells q6.1 v5 q6.2).bind fun q9 =>
      ck (q9.1 = 0 ∨ q9.1 = 1) <|
      some (q9.1, q9.2)
    else
      (F_X12_is 6 q6.2).bind fun q11 =>
      ck (q11.1 = 0 ∨ q11.1 = 1) <|
      some (q11.1, q11.2)
  else
    (F_X12_is 1 q2.2).bind fun q13 =>
    ck (q13.1 = 0 ∨ q13.1 = 1) <|
    some (q13.1, q13.2)
set_option maxRecDepth 100000 in
theorem T_X12_share_0 {Z : ZT} (C : Cx Z cX12_share 6 RX12 3 (some .boolean)) (x1 : Int) (h : MH) (t : (Int × MH)) (hF : F_X12_share_0 x1 h = some t) : MW Z (Qm Z (some (iv t.1)) zN zG t.2 0 0) 6 zN zG h 0 0 0 [(0, rfv (xd (zX Z)) 141), (1, iv x1)] [] := by
  unfold F_X12_share_0 at hF
  refine mw_aload_n 0 C dX12_share_0 rfl rfl ?_
  refine mw_iload_n 1 C dX12_share_1 rfl rfl ?_
  obtain ⟨g1, hF⟩ := ck_some hF
  refine mw_i2l C dX12_share_2 g1 ?_
  obtain ⟨q2, hq2, hF⟩ := bind_some hF
  refine mw_callV (c := 141) [lvv x1] [] C dX12_share_3 (T_X12_isMachine (zl Z) (zX Z) x1 _ _ hq2) rfl zn141 zk141 (by decide) rfl wd1093 wd1094 wd1383 wd14 wd1095 hd_X12_isMachine rfl (by decide) (by decide) (Nat.le_of_ble_eq_true rfl) ⟨Nat.zero_le _, Nat.zero_le _⟩ ?_
  obtain ⟨g3, hF⟩ := ck_some hF
  rcases ite_some hF with ⟨c4, hF⟩ | ⟨c4, hF⟩
  · refine mw_if_ne_t (tgt := 15) C dX12_share_6 (by decide) g3 c4 ?_
    refine mw_aload_n 0 C dX12_share_15 rfl rfl ?_
    refine mw_get (k := 0) (T := TX12) (v := rfv (xd (zX Z)) 142) C dX12_share_16 zn141 zk141 (by decide) rfl inX12 (by decide) wd889 rfl (zfv_r rfl zg_141_0) ?_
    refine mw_iconst C dX12_share_19 ?_
    refine mw_lald C dX12_share_20 zn142 zk142 (by decide) (by decide) ?_
    obtain ⟨v5, ev5, hF⟩ := nx_some hF
    refine mw_tl ev5 ?_
    refine mw_lstore_n [(2, lvv v5), (0, rfv (xd (zX Z)) 141), (1, iv x1)] C dX12_share_21 rfl (by decide) rfl ?_
    refine mw_aload_n 1 C dX12_share_22 rfl rfl ?_
    refine mw_iload_n 2 C dX12_share_23 rfl rfl ?_
    refine mw_bipush C dX12_share_24 bp_7 ?_
    obtain ⟨q6, hq6, hF⟩ := bind_some hF
    refine mw_callV (c := 141) [iv x1, iv 7] [] C dX12_share_26 (T_X12_ofMachine (zl Z) (zX Z) x1 7 _ _ hq6) rfl zn141 zk141 (by decide) rfl wd1086 wd1087 wd1382 wd14 wd1088 hd_X12_ofMachine rfl (by decide) (by decide) (Nat.le_of_ble_eq_true rfl) ⟨Nat.zero_le _, Nat.zero_le _⟩ ?_
    refine mw_lstore [(4, lvv q6.1), (2, lvv v5), (0, rfv (xd (zX Z)) 141), (1, iv x1)] C dX12_share_29 (by decide) rfl ?_
    refine mw_lload_n 1 C dX12_share_31 rfl rfl ?_
    refine mw_lconst (a := 0) C dX12_share_32 lc_0 ?_
    obtain ⟨g7, hF⟩ := ck_some hF
    rcases ite_some hF with ⟨c8, hF⟩ | ⟨c8, hF⟩
    · refine mw_lcmp_ne_t (tgt := 44) C dX12_share_33 dX12_share_34 (by decide) g7 (by decide) c8 ?_
      refine mw_aload_n 2 C dX12_share_44 rfl rfl ?_
      refine mw_lload 0 C dX12_share_45 rfl ?_
      refine mw_lload_n 1 C dX12_share_47 rfl rfl ?_
      obtain ⟨q9, hq9, hF⟩ := bind_some hF
      refine mw_callV (c := 141) [lvv q6.1, lvv v5] [] C dX12_share_48 (T_X12_tells (zl Z) (zX Z) q6.1 v5 _ _ hq9) rfl zn141 zk141 (by decide) rfl wd1160 wd1161 wd1391 wd14 wd1162 hd_X12_tells rfl (by decide) (by decide) (Nat.le_of_ble_eq_true rfl) ⟨Nat.zero_le _, Nat.zero_le _⟩ ?_
      obtain ⟨g10, hF⟩ := ck_some hF
      cases hF
      exact mw_zret C dX12_share_51 g10 rfl rfl
    · refine mw_lcmp_ne_f (tgt := 44) C dX12_share_33 dX12_share_34 (by decide) g7 (by decide) c8 ?_
      refine mw_aload_n 2 C dX12_share_37 rfl rfl ?_
      refine mw_bipush C dX12_share_38 bp_6 ?_
      obtain ⟨q11, hq11, hF⟩ := bind_some hF
      refine mw_callV (c := 141) [iv 6] [] C dX12_share_40 (T_X12_is (zl Z) (zX Z) 6 _ _ hq11) rfl zn141 zk141 (by decide) rfl wd960 wd961 wd1357 wd14 wd962 hd_X12_is rfl (by decide) (by decide) (Nat.le_of_ble_eq_true rfl) ⟨Nat.zero_le _, Nat.zero_le _⟩ ?_
      obtain ⟨g12, hF⟩ := ck_some hF
      cases hF
      exact mw_zret C dX12_share_43 g12 rfl rfl
  · refine mw_if_ne_f (tgt := 15) C dX12_share_6 (by decide) g3 c4 ?_
    refine mw_aload_n 0 C dX12_share_9 rfl rfl ?_
    refine mw_iconst C dX12_share_10 ?_
    obtain ⟨q13, hq13, hF⟩ := bind_some hF
    refine mw_callV (c := 141) [iv 1] [] C dX12_share_11 (T_X12_is (zl Z) (zX Z) 1 _ _ hq13) rfl zn141 zk141 (by decide) rfl wd960 wd961 wd1357 wd14 wd962 hd_X12_is rfl (by decide) (by decide) (Nat.le_of_ble_eq_true rfl) ⟨Nat.zero_le _, Nat.zero_le _⟩ ?_
    obtain ⟨g14, hF⟩ := ck_some hF
    cases hF
    exact mw_zret C dX12_share_14 g14 rfl rfl
def F_X12_share (x1 : Int) (h : MH) : Option (Int × MH) := F_X12_share_0 x1 h
theorem T_X12_share (l : Launch) (X : XT) (x1 : Int) (h : MH) (t : (Int × MH)) (hF : F_X12_share x1 h = some t) : Ct l X yX12_share cX12_share 6 (some .boolean) 3 [rfv (xd X) 141, iv x1] zN zG h (some (iv t.1)) zN zG t.2 0 0 := by
  refine Ct.head (by decide) (Nat.le_of_ble_eq_true rfl) (fun Z hX hl _ _ _ C => ?_)
  subst hX
  subst hl
  exact (T_X12_share_0 C x1 _ _ hF)
/-! BottleLineModel.copies(II)V -/
def F_X12_copies_2 : Nat → Int → Int → Int → MH → Option MH
  | 0, _, _, _, _ => none
  | n + 1, x1, x2, x3, h =>
    ck (in32 x3) <|
    if 440 ≤ x3 then
      some h
    else
      ck (0 ≤ (x1 + x3) ∧ (x1 + x3) < 2640) <|
      ck (0 ≤ (x2 + x3) ∧ (x2 + x3) < 2640) <|
      nx (hup h 142 (x2 + x3).toNat (h 142 (x1 + x3).toNat)) fun h5 =>
      F_X12_copies_2 n x1 x2 (x3 + 1) h5
set_option maxRecDepth 100000 in
theorem T_X12_copies_2 {Z : ZT} (C : Cx Z cX12_copies 4 RX12 1 none) : ∀ (n : Nat) (x1 : Int) (x2 : Int) (x3 : Int) (h : MH) (t : MH), F_X12_copies_2 n x1 x2 x3 h = some t → MW Z (Qm Z none zN zG t 0 0) 4 zN zG h 0 0 2 [(0, rfv (xd (zX Z)) 141), (1, iv x1), (2, iv x2), (3, iv x3)] [] := by
  intro n
  induction n with
  | zero =>
    intros
    rename_i hF
    exact absurd hF (by intro q; cases q)
  | succ n ih =>
    intro x1 x2 x3 h t hF
    rw [F_X12_copies_2] at hF
    refine mw_iload_n 3 C dX12_copies_2 rfl rfl ?_
    refine mw_sipush C dX12_copies_3 sp_440 ?_
    obtain ⟨g1, hF⟩ := ck_some hF
    rcases ite_some hF with ⟨c2, hF⟩ | ⟨c2, hF⟩
    · refine mw_icmp_ge_t (tgt := 31) C dX12_copies_6 (by decide) g1 (by decide) c2 ?_
      cases hF
      exact mw_vret C dX12_copies_31 rfl rfl
    · refine mw_icmp_ge_f (tgt := 31) C dX12_copies_6 (by decide) g1 (by decide) c2 ?_
      refine mw_aload_n 0 C dX12_copies_9 rfl rfl ?_
      refine mw_get (k := 0) (T := TX12) (v := rfv (xd (zX Z)) 142) C dX12_copies_10 zn141 zk141 (by decide) rfl inX12 (by decide) wd889 rfl (zfv_r rfl zg_141_0) ?_
      refine mw_iload_n 2 C dX12_copies_13 rfl rfl ?_
      refine mw_iload_n 3 C dX12_copies_14 rfl rfl ?_
      refine mw_iadd C dX12_copies_15 ?_
      refine mw_aload_n 0 C dX12_copies_16 rfl rfl ?_
      refine mw_get (k := 0) (T := TX12) (v := rfv (xd (zX Z)) 142) C dX12_copies_17 zn141 zk141 (by decide) rfl inX12 (by decide) wd889 rfl (zfv_r rfl zg_141_0) ?_
      refine mw_iload_n 1 C dX12_copies_20 rfl rfl ?_
      refine mw_iload_n 3 C dX12_copies_21 rfl rfl ?_
      refine mw_iadd C dX12_copies_22 ?_
      obtain ⟨g3, hF⟩ := ck_some hF
      refine mw_lald C dX12_copies_23 zn142 zk142 (by decide) g3 ?_
      obtain ⟨g4, hF⟩ := ck_some hF
      obtain ⟨h5, eh5, hF⟩ := nx_some hF
      refine mw_last C dX12_copies_24 zn142 zk142 (by decide) g4 (mw_h eh5 ?_)
      refine mw_iinc 3 [(3, iv (x3 + 1)), (0, rfv (xd (zX Z)) 141), (1, iv x1), (2, iv x2)] C dX12_copies_25 rfl (by decide) rfl ?_
      refine mw_goto (tgt := 2) C dX12_copies_28 (by decide) ?_
      refine mw_sub [1, 2, 3, 0] rfl ?_
      exact ih x1 x2 (x3 + 1) _ _ hF
def F_X12_copies_0 (x1 : Int) (x2 : Int) (h : MH) : Option MH :=
  F_X12_copies_2 20000 x1 x2 0 h
set_option maxRecDepth 100000 in
theorem T_X12_copies_0 {Z : ZT} (C : Cx Z cX12_copies 4 RX12 1 none) (x1 : Int) (x2 : Int) (h : MH) (t : MH) (hF : F_X12_copies_0 x1 x2 h = some t) : MW Z (Qm Z none zN zG t 0 0) 4 zN zG h 0 0 0 [(0, rfv (xd (zX Z)) 141), (1, iv x1), (2, iv x2)] [] := by
  unfold F_X12_copies_0 at hF
  refine mw_iconst C dX12_copies_0 ?_
  refine mw_istore_n [(3, iv 0), (0, rfv (xd (zX Z)) 141), (1, iv x1), (2, iv x2)] C dX12_copies_1 rfl (by decide) rfl ?_
  refine mw_sub [1, 2, 3, 0] rfl ?_
  exact T_X12_copies_2 C 20000 x1 x2 0 _ _ hF
def F_X12_copies (x1 : Int) (x2 : Int) (h : MH) : Option MH := F_X12_copies_0 x1 x2 h
theorem T_X12_copies (l : Launch) (X : XT) (x1 : Int) (x2 : Int) (h : MH) (t : MH) (hF : F_X12_copies x1 x2 h = some t) : Ct l X yX12_copies cX12_copies 4 none 1 [rfv (xd X) 141, iv x1, iv x2] zN zG h none zN zG t 0 0 := by
  refine Ct.head (by decide) (Nat.le_of_ble_eq_true rfl) (fun Z hX hl _ _ _ C => ?_)
  subst hX
  subst hl
  exact (T_X12_copies_0 C x1 x2 _ _ hF)
/-! BottleLineModel.tries(IJI)J -/
def F_X12_tries_0 (x1 : Int) (x2 : Int) (x4 : Int) (h : MH) : Option (Int × MH) :=
  (F_X12_copies 0 2200 h).bind fun q1 =>
  (F_X12_machineAt 0 x1 q1).bind fun q2 =>
  ck (0 ≤ (q2.1 + 0) ∧ (q2.1 + 0) < 2640) <|
  nx (hup q2.2 142 (q2.1 + 0).toNat x2) fun h4 =>
  (F_X12_runs x4 h4).bind fun q5 =>
  (F_X12_copies 2200 0 q5.2).bind fun q6 =>
  some (q5.1, q6)
set_option maxRecDepth 100000 in
theorem T_X12_tries_0 {Z : ZT} (C : Cx Z cX12_tries 7 RX12 5 (some .long)) (x1 : Int) (x2 : Int) (x4 : Int) (h : MH) (t : (Int × MH)) (hF : F_X12_tries_0 x1 x2 x4 h = some t) : MW Z (Qm Z (some (lvv t.1)) zN zG t.2 0 0) 7 zN zG h 0 0 0 [(0, rfv (xd (zX Z)) 141), (1, iv x1), (2, lvv x2), (4, iv x4)] [] := by
  unfold F_X12_tries_0 at hF
  refine mw_aload_n 0 C dX12_tries_0 rfl rfl ?_
  refine mw_iconst C dX12_tries_1 ?_
  refine mw_sipush C dX12_tries_2 sp_2200 ?_
  obtain ⟨q1, hq1, hF⟩ := bind_some hF
  refine mw_callV (c := 141) [iv 0, iv 2200] [] C dX12_tries_5 (T_X12_copies (zl Z) (zX Z) 0 2200 _ _ hq1) rfl zn141 zk141 (by decide) rfl wd1171 wd1172 wd1393 wd14 wd1173 hd_X12_copies rfl (by decide) (by decide) (Nat.le_of_ble_eq_true rfl) ⟨Nat.zero_le _, Nat.zero_le _⟩ ?_
  refine mw_aload_n 0 C dX12_tries_8 rfl rfl ?_
  refine mw_get (k := 0) (T := TX12) (v := rfv (xd (zX Z)) 142) C dX12_tries_9 zn141 zk141 (by decide) rfl inX12 (by decide) wd889 rfl (zfv_r rfl zg_141_0) ?_
  refine mw_iconst C dX12_tries_12 ?_
  refine mw_iload_n 1 C dX12_tries_13 rfl rfl ?_
  obtain ⟨q2, hq2, hF⟩ := bind_some hF
  refine mw_callS [iv 0, iv x1] [rfv (xd (zX Z)) 142] C dX12_tries_14 (T_X12_machineAt (zl Z) (zX Z) 0 x1 _ _ hq2) rfl wd1041 wd1042 wd14 wd1043 hd_X12_machineAt rfl (by decide) (by decide) (Nat.le_of_ble_eq_true rfl) ⟨Nat.zero_le _, Nat.zero_le _⟩ ?_
  refine mw_iconst C dX12_tries_17 ?_
  refine mw_iadd C dX12_tries_18 ?_
  refine mw_lload_n 2 C dX12_tries_19 rfl rfl ?_
  obtain ⟨g3, hF⟩ := ck_some hF
  obtain ⟨h4, eh4, hF⟩ := nx_some hF
  refine mw_last C dX12_tries_20 zn142 zk142 (by decide) g3 (mw_h eh4 ?_)
  refine mw_aload_n 0 C dX12_tries_21 rfl rfl ?_
  refine mw_iload 3 C dX12_tries_22 rfl ?_
  obtain ⟨q5, hq5, hF⟩ := bind_some hF
  refine mw_callV (c := 141) [iv x4] [] C dX12_tries_24 (T_X12_runs (zl Z) (zX Z) x4 _ _ hq5) rfl zn141 zk141 (by decide) rfl wd1124 wd1125 wd1386 wd14 wd1126 hd_X12_runs rfl (by decide) (by decide) (Nat.le_of_ble_eq_true rfl) ⟨Nat.zero_le _, Nat.zero_le _⟩ ?_
  refine mw_lstore [(5, lvv q5.1), (0, rfv (xd (zX Z)) 141), (1, iv x1), (2, lvv x2), (4, iv x4)] C dX12_tries_27 (by decide) rfl ?_
  refine mw_aload_n 1 C dX12_tries_29 rfl rfl ?_
  refine mw_sipush C dX12_tries_30 sp_2200 ?_
  refine mw_iconst C dX12_tries_33 ?_
  obtain ⟨q6, hq6, hF⟩ := bind_some hF
  refine mw_callV (c := 141) [iv 2200, iv 0] [] C dX12_tries_34 (T_X12_copies (zl Z) (zX Z) 2200 0 _ _ hq6) rfl zn141 zk141 (by decide) rfl wd1171 wd1172 wd1393 wd14 wd1173 hd_X12_copies rfl (by decide) (by decide) (Nat.le_of_ble_eq_true rfl) ⟨Nat.zero_le _, Nat.zero_le _⟩ ?_
  refine mw_lload 0 C dX12_tries_37 rfl ?_
  cases hF
  exact mw_lret C dX12_tries_39 rfl rfl
def F_X12_tries (x1 : Int) (x2 : Int) (x4 : Int) (h : MH) : Option (Int × MH) := F_X12_tries_0 x1 x2 x4 h
theorem T_X12_tries (l : Launch) (X : XT) (x1 : Int) (x2 : Int) (x4 : Int) (h : MH) (t : (Int × MH)) (hF : F_X12_tries x1 x2 x4 h = some t) : Ct l X yX12_tries cX12_tries 7 (some .long) 5 [rfv (xd X) 141, iv x1, lvv x2, iv x4] zN zG h (some (lvv t.1)) zN zG t.2 0 0 := by
  refine Ct.head (by decide) (Nat.le_of_ble_eq_true rfl) (fun Z hX hl _ _ _ C => ?_)
  subst hX
  subst hl
  exact (T_X12_tries_0 C x1 x2 x4 _ _ hF)
/-! BottleLineModel.tried(III)I -/
def F_X12_tried_48 (h : MH) : Option (Int × MH) :=
  (F_X12_refuse 1 h).bind fun q1 =>
  some (q1.1, q1.2)
set_option maxRecDepth 100000 in
theorem T_X12_tried_48 {Z : ZT} (C : Cx Z cX12_tried 4 RX12 6 (some .int)) (h : MH) (t : (Int × MH)) (hF : F_X12_tried_48 h = some t) : MW Z (Qm Z (some (iv t.1)) zN zG t.2 0 0) 4 zN zG h 0 0 48 [(0, rfv (xd (zX Z)) 141)] [] := by
  unfold F_X12_tried_48 at hF
  refine mw_aload_n 0 C dX12_tried_48 rfl rfl ?_
  refine mw_iconst C dX12_tried_49 ?_
  obtain ⟨q1, hq1, hF⟩ := bind_some hF
  refine mw_callV (c := 141) [iv 1] [] C dX12_tried_50 (T_X12_refuse (zl Z) (zX Z) 1 _ _ hq1) rfl zn141 zk141 (by decide) rfl wd997 wd998 wd1360 wd14 wd999 hd_X12_refuse rfl (by decide) (by decide) (Nat.le_of_ble_eq_true rfl) ⟨Nat.zero_le _, Nat.zero_le _⟩ ?_
  cases hF
  exact mw_iret C dX12_tried_53 rfl rfl
def F_X12_tried_0 (x1 : Int) (x2 : Int) (x3 : Int) (h : MH) : Option (Int × MH) :=
  ck (in32 x1) <|
  (F_X12_isMachine x1 h).bind fun q2 =>
  ck (in32 q2.1) <|
  if q2.1 = 0 then
    F_X12_tried_48 q2.2
  else
    ck (in32 x2) <|
    (F_X12_isFrom x2 1 99 q2.2).bind fun q6 =>
    ck (in32 q6.1) <|
    if q6.1 = 0 then
      F_X12_tried_48 q6.2
    else
      ck (in32 x3) <|
      (F_X12_isFrom x3 1 600 q6.2).bind fun q10 =>
      ck (in32 q10.1) <|
      if q10.1 = 0 then
        F_X12_tried_48 q10.2
      else
        (F_X12_tries x1 x2 x3 q10.2).bind fun q13 =>
        (F_X12_gives q13.1 q13.2).bind fun q14 =>
        some (q14.1, q14.2)
set_option maxRecDepth 100000 in
theorem T_X12_tried_0 {Z : ZT} (C : Cx Z cX12_tried 4 RX12 6 (some .int)) (x1 : Int) (x2 : Int) (x3 : Int) (h : MH) (t : (Int × MH)) (hF : F_X12_tried_0 x1 x2 x3 h = some t) : MW Z (Qm Z (some (iv t.1)) zN zG t.2 0 0) 4 zN zG h 0 0 0 [(0, rfv (xd (zX Z)) 141), (1, iv x1), (2, iv x2), (3, iv x3)] [] := by
  unfold F_X12_tried_0 at hF
  refine mw_aload_n 0 C dX12_tried_0 rfl rfl ?_
  refine mw_iload_n 1 C dX12_tried_1 rfl rfl ?_
  obtain ⟨g1, hF⟩ := ck_some hF
  refine mw_i2l C dX12_tried_2 g1 ?_
  obtain ⟨q2, hq2, hF⟩ := bind_some hF
  refine mw_callV (c := 141) [lvv x1] [] C dX12_tried_3 (T_X12_isMachine (zl Z) (zX Z) x1 _ _ hq2) rfl zn141 zk141 (by decide) rfl wd1093 wd1094 wd1383 wd14 wd1095 hd_X12_isMachine rfl (by decide) (by decide) (Nat.le_of_ble_eq_true rfl) ⟨Nat.zero_le _, Nat.zero_le _⟩ ?_
  obtain ⟨g3, hF⟩ := ck_some hF
  rcases ite_some hF with ⟨c4, hF⟩ | ⟨c4, hF⟩
  · refine mw_if_eq_t (tgt := 48) C dX12_tried_6 (by decide) g3 c4 ?_
    refine mw_sub [0] rfl ?_
    exact T_X12_tried_48 C _ _ hF
  · refine mw_if_eq_f (tgt := 48) C dX12_tried_6 (by decide) g3 c4 ?_
    refine mw_iload_n 2 C dX12_tried_9 rfl rfl ?_
    obtain ⟨g5, hF⟩ := ck_some hF
    refine mw_i2l C dX12_tried_10 g5 ?_
    refine mw_lconst (a := 1) C dX12_tried_11 lc_1 ?_
    refine mw_ldc2 (a := 99) C dX12_tried_12 wd1167 rfl ?_
    obtain ⟨q6, hq6, hF⟩ := bind_some hF
    refine mw_callS [lvv x2, lvv 1, lvv 99] [] C dX12_tried_15 (T_X12_isFrom (zl Z) (zX Z) x2 1 99 _ _ hq6) rfl wd1116 wd1117 wd14 wd1118 hd_X12_isFrom rfl (by decide) (by decide) (Nat.le_of_ble_eq_true rfl) ⟨Nat.zero_le _, Nat.zero_le _⟩ ?_
    obtain ⟨g7, hF⟩ := ck_some hF
    rcases ite_some hF with ⟨c8, hF⟩ | ⟨c8, hF⟩
    · refine mw_if_eq_t (tgt := 48) C dX12_tried_18 (by decide) g7 c8 ?_
      refine mw_sub [0] rfl ?_
      exact T_X12_tried_48 C _ _ hF
    · refine mw_if_eq_f (tgt := 48) C dX12_tried_18 (by decide) g7 c8 ?_
      refine mw_iload_n 3 C dX12_tried_21 rfl rfl ?_
      obtain ⟨g9, hF⟩ := ck_some hF
      refine mw_i2l C dX12_tried_22 g9 ?_
      refine mw_lconst (a := 1) C dX12_tried_23 lc_1 ?_
      refine mw_ldc2 (a := 600) C dX12_tried_24 wd1123 rfl ?_
      obtain ⟨q10, hq10, hF⟩ := bind_some hF
      refine mw_callS [lvv x3, lvv 1, lvv 600] [] C dX12_tried_27 (T_X12_isFrom (zl Z) (zX Z) x3 1 600 _ _ hq10) rfl wd1116 wd1117 wd14 wd1118 hd_X12_isFrom rfl (by decide) (by decide) (Nat.le_of_ble_eq_true rfl) ⟨Nat.zero_le _, Nat.zero_le _⟩ ?_
      obtain ⟨g11, hF⟩ := ck_some hF
      rcases ite_some hF with ⟨c12, hF⟩ | ⟨c12, hF⟩
      · refine mw_if_eq_t (tgt := 48) C dX12_tried_30 (by decide) g11 c12 ?_
        refine mw_sub [0] rfl ?_
        exact T_X12_tried_48 C _ _ hF
      · refine mw_if_eq_f (tgt := 48) C dX12_tried_30 (by decide) g11 c12 ?_
        refine mw_aload_n 0 C dX12_tried_33 rfl rfl ?_
        refine mw_aload_n 0 C dX12_tried_34 rfl rfl ?_
        refine mw_iload_n 1 C dX12_tried_35 rfl rfl ?_
        refine mw_iload_n 2 C dX12_tried_36 rfl rfl ?_
        refine mw_i2l C dX12_tried_37 g5 ?_
        refine mw_iload_n 3 C dX12_tried_38 rfl rfl ?_
        obtain ⟨q13, hq13, hF⟩ := bind_some hF
        refine mw_callV (c := 141) [iv x1, lvv x2, iv x3] [rfv (xd (zX Z)) 141] C dX12_tried_39 (T_X12_tries (zl Z) (zX Z) x1 x2 x3 _ _ hq13) rfl zn141 zk141 (by decide) rfl wd1168 wd1169 wd1392 wd14 wd1170 hd_X12_tries rfl (by decide) (by decide) (Nat.le_of_ble_eq_true rfl) ⟨Nat.zero_le _, Nat.zero_le _⟩ ?_
        obtain ⟨q14, hq14, hF⟩ := bind_some hF
        refine mw_callV (c := 141) [lvv q13.1] [] C dX12_tried_42 (T_X12_gives (zl Z) (zX Z) q13.1 _ _ hq14) rfl zn141 zk141 (by decide) rfl wd1069 wd1070 wd1379 wd14 wd1071 hd_X12_gives rfl (by decide) (by decide) (Nat.le_of_ble_eq_true rfl) ⟨Nat.zero_le _, Nat.zero_le _⟩ ?_
        refine mw_goto (tgt := 53) C dX12_tried_45 (by decide) ?_
        cases hF
        exact mw_iret C dX12_tried_53 rfl rfl
def F_X12_tried (x1 : Int) (x2 : Int) (x3 : Int) (h : MH) : Option (Int × MH) := F_X12_tried_0 x1 x2 x3 h
theorem T_X12_tried (l : Launch) (X : XT) (x1 : Int) (x2 : Int) (x3 : Int) (h : MH) (t : (Int × MH)) (hF : F_X12_tried x1 x2 x3 h = some t) : Ct l X yX12_tried cX12_tried 4 (some .int) 6 [rfv (xd X) 141, iv x1, iv x2, iv x3] zN zG h (some (iv t.1)) zN zG t.2 0 0 := by
  refine Ct.head (by decide) (Nat.le_of_ble_eq_true rfl) (fun Z hX hl _ _ _ C => ?_)
  subst hX
  subst hl
  exact (T_X12_tried_0 C x1 x2 x3 _ _ hF)
/-! BottleLineModel.holder(II)I -/
def F_X12_holder_24 (h : MH) : Option (Int × MH) :=
  (F_X12_refuse 1 h).bind fun q1 =>
  some (q1.1, q1.2)
set_option maxRecDepth 100000 in
theorem T_X12_holder_24 {Z : ZT} (C : Cx Z cX12_holder 9 RX12 6 (some .int)) (h : MH) (t : (Int × MH)) (hF : F_X12_holder_24 h = some t) : MW Z (Qm Z (some (iv t.1)) zN zG t.2 0 0) 9 zN zG h 0 0 24 [(0, rfv (xd (zX Z)) 141)] [] := by
  unfold F_X12_holder_24 at hF
  refine mw_aload_n 0 C dX12_holder_24 rfl rfl ?_
  refine mw_iconst C dX12_holder_25 ?_
  obtain ⟨q1, hq1, hF⟩ := bind_some hF
  refine mw_callV (c := 141) [iv 1] [] C dX12_holder_26 (T_X12_refuse (zl Z) (zX Z) 1 _ _ hq1) rfl zn141 zk141 (by decide) rfl wd997 wd998 wd1360 wd14 wd999 hd_X12_refuse rfl (by decide) (by decide) (Nat.le_of_ble_eq_true rfl) ⟨Nat.zero_le _, Nat.zero_le _⟩ ?_
  cases hF
  exact mw_iret C dX12_holder_29 rfl rfl
def F_X12_holder_117 (k56 : Int → Int → Int → Int → Int → MH → Option (Int × MH)) (x1 : Int) (x2 : Int) (x3 : Int) (x4 : Int) (x6 : Int) (h : MH) : Option (Int × MH) :=
  k56 x1 x2 x3 x4 (x6 + 1) h
set_option maxRecDepth 100000 in
theorem T_X12_holder_117 {Z : ZT} (C : Cx Z cX12_holder 9 RX12 6 (some .int)) (k56 : Int → Int → Int → Int → Int → MH → Option (Int × MH)) (hk56 : ∀ (x1 : Int) (x2 : Int) (x3 : Int) (x4 : Int) (x6 : Int) (h : MH) (t : (Int × MH)), k56 x1 x2 x3 x4 x6 h = some t → MW Z (Qm Z (some (iv t.1)) zN zG t.2 0 0) 9 zN zG h 0 0 56 [(0, rfv (xd (zX Z)) 141), (1, iv x1), (2, iv x2), (3, iv x3), (4, lvv x4), (6, iv x6)] []) (x1 : Int) (x2 : Int) (x3 : Int) (x4 : Int) (x6 : Int) (h : MH) (t : (Int × MH)) (hF : F_X12_holder_117 k56 x1 x2 x3 x4 x6 h = some t) : MW Z (Qm Z (some (iv t.1)) zN zG t.2 0 0) 9 zN zG h 0 0 117 [(0, rfv (xd (zX Z)) 141), (1, iv x1), (2, iv x2), (3, iv x3), (4, lvv x4), (6, iv x6)] [] := by
  unfold F_X12_holder_117 at hF
  refine mw_iinc 5 [(6, iv (x6 + 1)), (0, rfv (xd (zX Z)) 141), (1, iv x1), (2, iv x2), (3, iv x3), (4, lvv x4)] C dX12_holder_117 rfl (by decide) rfl ?_
  refine mw_goto (tgt := 56) C dX12_holder_120 (by decide) ?_
  refine mw_sub [1, 2, 3, 4, 5, 0] rfl ?_
  exact hk56 x1 x2 x3 x4 (x6 + 1) _ _ hF
def F_X12_holder_110 (k56 : Int → Int → Int → Int → Int → MH → Option (Int × MH)) (x1 : Int) (x2 : Int) (x6 : Int) (x7 : Int) (h : MH) : Option (Int × MH) :=
  F_X12_holder_117 k56 x1 x2 x6 x7 x6 h
set_option maxRecDepth 100000 in
theorem T_X12_holder_110 {Z : ZT} (C : Cx Z cX12_holder 9 RX12 6 (some .int)) (k56 : Int → Int → Int → Int → Int → MH → Option (Int × MH)) (hk56 : ∀ (x1 : Int) (x2 : Int) (x3 : Int) (x4 : Int) (x6 : Int) (h : MH) (t : (Int × MH)), k56 x1 x2 x3 x4 x6 h = some t → MW Z (Qm Z (some (iv t.1)) zN zG t.2 0 0) 9 zN zG h 0 0 56 [(0, rfv (xd (zX Z)) 141), (1, iv x1), (2, iv x2), (3, iv x3), (4, lvv x4), (6, iv x6)] []) (x1 : Int) (x2 : Int) (x6 : Int) (x7 : Int) (h : MH) (t : (Int × MH)) (hF : F_X12_holder_110 k56 x1 x2 x6 x7 h = some t) : MW Z (Qm Z (some (iv t.1)) zN zG t.2 0 0) 9 zN zG h 0 0 110 [(0, rfv (xd (zX Z)) 141), (1, iv x1), (2, iv x2), (6, iv x6), (7, lvv x7)] [] := by
  unfold F_X12_holder_110 at hF
  refine mw_iload 3 C dX12_holder_110 rfl ?_
  refine mw_istore_n [(3, iv x6), (0, rfv (xd (zX Z)) 141), (1, iv x1), (2, iv x2), (6, iv x6), (7, lvv x7)] C dX12_holder_112 rfl (by decide) rfl ?_
  refine mw_lload 5 C dX12_holder_113 rfl ?_
  refine mw_lstore [(4, lvv x7), (3, iv x6), (0, rfv (xd (zX Z)) 141), (1, iv x1), (2, iv x2), (6, iv x6), (7, lvv x7)] C dX12_holder_115 (by decide) rfl ?_
  refine mw_sub [2, 3, 4, 1, 0, 5] rfl ?_
  exact T_X12_holder_117 C k56 hk56 x1 x2 x6 x7 x6 _ _ hF
def F_X12_holder_56 : Nat → Int → Int → Int → Int → Int → MH → Option (Int × MH)
  | 0, _, _, _, _, _, _ => none
  | n + 1, x1, x2, x3, x4, x6, h =>
    ck (in32 x6) <|
    ck (in64 (h 142 0)) <|
    if (h 142 0) ≤ x6 then
      (F_X12_ofMachine 0 0 h).bind fun q4 =>
      (F_X12_tries 0 q4.1 x2 q4.2).bind fun q5 =>
      nx (hup q5.2 141 23 (x4 - q5.1)) fun h6 =>
      nx (hup h6 141 24 1) fun h7 =>
      ck (in32 x3) <|
      (F_X12_gives x3 h7).bind fun q9 =>
      some (q9.1, q9.2)
    else
      (F_X12_ofMachine x6 0 h).bind fun q10 =>
      ck (in32 x1) <|
      ck (in64 (q10.1 + x1)) <|
      (F_X12_tries x6 (min 99 (q10.1 + x1)) x2 q10.2).bind fun q13 =>
      ck (in32 x3) <|
      if x3 = (-1) then
        F_X12_holder_110 (F_X12_holder_56 n) x1 x2 x6 q13.1 q13.2
      else
        ck (in64 q13.1) <|
        ck (in64 x4) <|
        if x4 < q13.1 then
          F_X12_holder_110 (F_X12_holder_56 n) x1 x2 x6 q13.1 q13.2
        else
          F_X12_holder_117 (F_X12_holder_56 n) x1 x2 x3 x4 x6 q13.2
set_option maxRecDepth 100000 in
theorem T_X12_holder_56 {Z : ZT} (C : Cx Z cX12_holder 9 RX12 6 (some .int)) : ∀ (n : Nat) (x1 : Int) (x2 : Int) (x3 : Int) (x4 : Int) (x6 : Int) (h : MH) (t : (Int × MH)), F_X12_holder_56 n x1 x2 x3 x4 x6 h = some t → MW Z (Qm Z (some (iv t.1)) zN zG t.2 0 0) 9 zN zG h 0 0 56 [(0, rfv (xd (zX Z)) 141), (1, iv x1), (2, iv x2), (3, iv x3), (4, lvv x4), (6, iv x6)] [] := by
  intro n
  induction n with
  | zero =>
    intros
    rename_i hF
    exact absurd hF (by intro q; cases q)
  | succ n ih =>
    intro x1 x2 x3 x4 x6 h t hF
    rw [F_X12_holder_56] at hF
    refine mw_iload 5 C dX12_holder_56 rfl ?_
    obtain ⟨g1, hF⟩ := ck_some hF
    refine mw_i2l C dX12_holder_58 g1 ?_
    refine mw_aload_n 0 C dX12_holder_59 rfl rfl ?_
    refine mw_get (k := 0) (T := TX12) (v := rfv (xd (zX Z)) 142) C dX12_holder_60 zn141 zk141 (by decide) rfl inX12 (by decide) wd889 rfl (zfv_r rfl zg_141_0) ?_
    refine mw_iconst C dX12_holder_63 ?_
    refine mw_lald C dX12_holder_64 zn142 zk142 (by decide) (by decide) ?_
    obtain ⟨g2, hF⟩ := ck_some hF
    rcases ite_some hF with ⟨c3, hF⟩ | ⟨c3, hF⟩
    · refine mw_lcmp_ge_t (tgt := 123) C dX12_holder_65 dX12_holder_66 (by decide) (in64_of g1) g2 c3 ?_
      refine mw_aload_n 0 C dX12_holder_123 rfl rfl ?_
      refine mw_lload 4 C dX12_holder_124 rfl ?_
      refine mw_aload_n 0 C dX12_holder_126 rfl rfl ?_
      refine mw_iconst C dX12_holder_127 ?_
      refine mw_aload_n 0 C dX12_holder_128 rfl rfl ?_
      refine mw_iconst C dX12_holder_129 ?_
      refine mw_iconst C dX12_holder_130 ?_
      obtain ⟨q4, hq4, hF⟩ := bind_some hF
      refine mw_callV (c := 141) [iv 0, iv 0] [iv 0, rfv (xd (zX Z)) 141, lvv x4, rfv (xd (zX Z)) 141] C dX12_holder_131 (T_X12_ofMachine (zl Z) (zX Z) 0 0 _ _ hq4) rfl zn141 zk141 (by decide) rfl wd1086 wd1087 wd1382 wd14 wd1088 hd_X12_ofMachine rfl (by decide) (by decide) (Nat.le_of_ble_eq_true rfl) ⟨Nat.zero_le _, Nat.zero_le _⟩ ?_
      refine mw_iload_n 2 C dX12_holder_134 rfl rfl ?_
      obtain ⟨q5, hq5, hF⟩ := bind_some hF
      refine mw_callV (c := 141) [iv 0, lvv q4.1, iv x2] [lvv x4, rfv (xd (zX Z)) 141] C dX12_holder_135 (T_X12_tries (zl Z) (zX Z) 0 q4.1 x2 _ _ hq5) rfl zn141 zk141 (by decide) rfl wd1168 wd1169 wd1392 wd14 wd1170 hd_X12_tries rfl (by decide) (by decide) (Nat.le_of_ble_eq_true rfl) ⟨Nat.zero_le _, Nat.zero_le _⟩ ?_
      refine mw_lsub C dX12_holder_138 ?_
      obtain ⟨h6, eh6, hF⟩ := nx_some hF
      refine mw_put (k := 23) (T := TX12) (ty0 := tyX12) (x := (x4 - q5.1)) C dX12_holder_139 zn141 zk141 (by decide) rfl inX12 tyX12_ok nmX12 (by decide) wd912 rfl rfl rfl rfl rfl (by decide) (mw_h eh6 ?_)
      refine mw_aload_n 0 C dX12_holder_142 rfl rfl ?_
      refine mw_iconst C dX12_holder_143 ?_
      obtain ⟨h7, eh7, hF⟩ := nx_some hF
      refine mw_put (k := 24) (T := TX12) (ty0 := tyX12) (x := 1) C dX12_holder_144 zn141 zk141 (by decide) rfl inX12 tyX12_ok nmX12 (by decide) wd913 rfl rfl (nz_n (Or.inr rfl)) (nz_f (Or.inr rfl)) rfl (by decide) (mw_h eh7 ?_)
      refine mw_aload_n 0 C dX12_holder_147 rfl rfl ?_
      refine mw_iload_n 3 C dX12_holder_148 rfl rfl ?_
      obtain ⟨g8, hF⟩ := ck_some hF
      refine mw_i2l C dX12_holder_149 g8 ?_
      obtain ⟨q9, hq9, hF⟩ := bind_some hF
      refine mw_callV (c := 141) [lvv x3] [] C dX12_holder_150 (T_X12_gives (zl Z) (zX Z) x3 _ _ hq9) rfl zn141 zk141 (by decide) rfl wd1069 wd1070 wd1379 wd14 wd1071 hd_X12_gives rfl (by decide) (by decide) (Nat.le_of_ble_eq_true rfl) ⟨Nat.zero_le _, Nat.zero_le _⟩ ?_
      cases hF
      exact mw_iret C dX12_holder_153 rfl rfl
    · refine mw_lcmp_ge_f (tgt := 123) C dX12_holder_65 dX12_holder_66 (by decide) (in64_of g1) g2 c3 ?_
      refine mw_aload_n 0 C dX12_holder_69 rfl rfl ?_
      refine mw_iload 5 C dX12_holder_70 rfl ?_
      refine mw_ldc2 (a := 99) C dX12_holder_72 wd1167 rfl ?_
      refine mw_aload_n 0 C dX12_holder_75 rfl rfl ?_
      refine mw_iload 5 C dX12_holder_76 rfl ?_
      refine mw_iconst C dX12_holder_78 ?_
      obtain ⟨q10, hq10, hF⟩ := bind_some hF
      refine mw_callV (c := 141) [iv x6, iv 0] [lvv 99, iv x6, rfv (xd (zX Z)) 141] C dX12_holder_79 (T_X12_ofMachine (zl Z) (zX Z) x6 0 _ _ hq10) rfl zn141 zk141 (by decide) rfl wd1086 wd1087 wd1382 wd14 wd1088 hd_X12_ofMachine rfl (by decide) (by decide) (Nat.le_of_ble_eq_true rfl) ⟨Nat.zero_le _, Nat.zero_le _⟩ ?_
      refine mw_iload_n 1 C dX12_holder_82 rfl rfl ?_
      obtain ⟨g11, hF⟩ := ck_some hF
      refine mw_i2l C dX12_holder_83 g11 ?_
      refine mw_ladd C dX12_holder_84 ?_
      obtain ⟨g12, hF⟩ := ck_some hF
      refine mw_mminL C dX12_holder_85 wd1144 wd1145 wd16 wd1146 (by decide) (Nat.le_of_ble_eq_true rfl) ⟨Nat.zero_le _, Nat.zero_le _⟩ (by decide) g12 ?_
      refine mw_iload_n 2 C dX12_holder_88 rfl rfl ?_
      obtain ⟨q13, hq13, hF⟩ := bind_some hF
      refine mw_callV (c := 141) [iv x6, lvv (min 99 (q10.1 + x1)), iv x2] [] C dX12_holder_89 (T_X12_tries (zl Z) (zX Z) x6 (min 99 (q10.1 + x1)) x2 _ _ hq13) rfl zn141 zk141 (by decide) rfl wd1168 wd1169 wd1392 wd14 wd1170 hd_X12_tries rfl (by decide) (by decide) (Nat.le_of_ble_eq_true rfl) ⟨Nat.zero_le _, Nat.zero_le _⟩ ?_
      refine mw_lstore [(7, lvv q13.1), (0, rfv (xd (zX Z)) 141), (1, iv x1), (2, iv x2), (3, iv x3), (4, lvv x4), (6, iv x6)] C dX12_holder_92 (by decide) rfl ?_
      refine mw_iload_n 4 C dX12_holder_94 rfl rfl ?_
      refine mw_iconst C dX12_holder_95 ?_
      obtain ⟨g14, hF⟩ := ck_some hF
      rcases ite_some hF with ⟨c15, hF⟩ | ⟨c15, hF⟩
      · refine mw_icmp_eq_t (tgt := 110) C dX12_holder_96 (by decide) g14 (by decide) c15 ?_
        refine mw_sub [1, 2, 3, 6, 0] rfl ?_
        exact T_X12_holder_110 C (F_X12_holder_56 n) ih x1 x2 x6 q13.1 _ _ hF
      · refine mw_icmp_eq_f (tgt := 110) C dX12_holder_96 (by decide) g14 (by decide) c15 ?_
        refine mw_lload 0 C dX12_holder_99 rfl ?_
        refine mw_lload 5 C dX12_holder_101 rfl ?_
        obtain ⟨g16, hF⟩ := ck_some hF
        obtain ⟨g17, hF⟩ := ck_some hF
        rcases ite_some hF with ⟨c18, hF⟩ | ⟨c18, hF⟩
        · refine mw_lcmp_gt_t (tgt := 110) C dX12_holder_103 dX12_holder_104 (by decide) g16 g17 c18 ?_
          refine mw_sub [1, 2, 3, 6, 0] rfl ?_
          exact T_X12_holder_110 C (F_X12_holder_56 n) ih x1 x2 x6 q13.1 _ _ hF
        · refine mw_lcmp_gt_f (tgt := 110) C dX12_holder_103 dX12_holder_104 (by decide) g16 g17 c18 ?_
          refine mw_goto (tgt := 117) C dX12_holder_107 (by decide) ?_
          refine mw_sub [1, 2, 3, 4, 5, 6] rfl ?_
          exact T_X12_holder_117 C (F_X12_holder_56 n) ih x1 x2 x3 x4 x6 _ _ hF
def F_X12_holder_0 (x1 : Int) (x2 : Int) (h : MH) : Option (Int × MH) :=
  ck (in32 x1) <|
  (F_X12_isFrom x1 1 20 h).bind fun q2 =>
  ck (in32 q2.1) <|
  if q2.1 = 0 then
    F_X12_holder_24 q2.2
  else
    ck (in32 x2) <|
    (F_X12_isFrom x2 1 600 q2.2).bind fun q6 =>
    ck (in32 q6.1) <|
    if q6.1 ≠ 0 then
      ck (in64 (q6.2 142 0)) <|
      if (q6.2 142 0) ≠ 0 then
        F_X12_holder_56 20000 x1 x2 (-1) 0 0 q6.2
      else
        (F_X12_refuse 6 q6.2).bind fun q11 =>
        some (q11.1, q11.2)
    else
      F_X12_holder_24 q6.2
set_option maxRecDepth 100000 in
theorem T_X12_holder_0 {Z : ZT} (C : Cx Z cX12_holder 9 RX12 6 (some .int)) (x1 : Int) (x2 : Int) (h : MH) (t : (Int × MH)) (hF : F_X12_holder_0 x1 x2 h = some t) : MW Z (Qm Z (some (iv t.1)) zN zG t.2 0 0) 9 zN zG h 0 0 0 [(0, rfv (xd (zX Z)) 141), (1, iv x1), (2, iv x2)] [] := by
  unfold F_X12_holder_0 at hF
  refine mw_iload_n 1 C dX12_holder_0 rfl rfl ?_
  obtain ⟨g1, hF⟩ := ck_some hF
  refine mw_i2l C dX12_holder_1 g1 ?_
  refine mw_lconst (a := 1) C dX12_holder_2 lc_1 ?_
  refine mw_ldc2 (a := 20) C dX12_holder_3 wd1044 rfl ?_
  obtain ⟨q2, hq2, hF⟩ := bind_some hF
  refine mw_callS [lvv x1, lvv 1, lvv 20] [] C dX12_holder_6 (T_X12_isFrom (zl Z) (zX Z) x1 1 20 _ _ hq2) rfl wd1116 wd1117 wd14 wd1118 hd_X12_isFrom rfl (by decide) (by decide) (Nat.le_of_ble_eq_true rfl) ⟨Nat.zero_le _, Nat.zero_le _⟩ ?_
  obtain ⟨g3, hF⟩ := ck_some hF
  rcases ite_some hF with ⟨c4, hF⟩ | ⟨c4, hF⟩
  · refine mw_if_eq_t (tgt := 24) C dX12_holder_9 (by decide) g3 c4 ?_
    refine mw_sub [0] rfl ?_
    exact T_X12_holder_24 C _ _ hF
  · refine mw_if_eq_f (tgt := 24) C dX12_holder_9 (by decide) g3 c4 ?_
    refine mw_iload_n 2 C dX12_holder_12 rfl rfl ?_
    obtain ⟨g5, hF⟩ := ck_some hF
    refine mw_i2l C dX12_holder_13 g5 ?_
    refine mw_lconst (a := 1) C dX12_holder_14 lc_1 ?_
    refine mw_ldc2 (a := 600) C dX12_holder_15 wd1123 rfl ?_
    obtain ⟨q6, hq6, hF⟩ := bind_some hF
    refine mw_callS [lvv x2, lvv 1, lvv 600] [] C dX12_holder_18 (T_X12_isFrom (zl Z) (zX Z) x2 1 600 _ _ hq6) rfl wd1116 wd1117 wd14 wd1118 hd_X12_isFrom rfl (by decide) (by decide) (Nat.le_of_ble_eq_true rfl) ⟨Nat.zero_le _, Nat.zero_le _⟩ ?_
    obtain ⟨g7, hF⟩ := ck_some hF
    rcases ite_some hF with ⟨c8, hF⟩ | ⟨c8, hF⟩
    · refine mw_if_ne_t (tgt := 30) C dX12_holder_21 (by decide) g7 c8 ?_
      refine mw_aload_n 0 C dX12_holder_30 rfl rfl ?_
      refine mw_get (k := 0) (T := TX12) (v := rfv (xd (zX Z)) 142) C dX12_holder_31 zn141 zk141 (by decide) rfl inX12 (by decide) wd889 rfl (zfv_r rfl zg_141_0) ?_
      refine mw_iconst C dX12_holder_34 ?_
      refine mw_lald C dX12_holder_35 zn142 zk142 (by decide) (by decide) ?_
      refine mw_lconst (a := 0) C dX12_holder_36 lc_0 ?_
      obtain ⟨g9, hF⟩ := ck_some hF
      rcases ite_some hF with ⟨c10, hF⟩ | ⟨c10, hF⟩
      · refine mw_lcmp_ne_t (tgt := 48) C dX12_holder_37 dX12_holder_38 (by decide) g9 (by decide) c10 ?_
        refine mw_iconst C dX12_holder_48 ?_
        refine mw_istore_n [(3, iv (-1)), (0, rfv (xd (zX Z)) 141), (1, iv x1), (2, iv x2)] C dX12_holder_49 rfl (by decide) rfl ?_
        refine mw_lconst (a := 0) C dX12_holder_50 lc_0 ?_
        refine mw_lstore [(4, lvv 0), (3, iv (-1)), (0, rfv (xd (zX Z)) 141), (1, iv x1), (2, iv x2)] C dX12_holder_51 (by decide) rfl ?_
        refine mw_iconst C dX12_holder_53 ?_
        refine mw_istore [(6, iv 0), (4, lvv 0), (3, iv (-1)), (0, rfv (xd (zX Z)) 141), (1, iv x1), (2, iv x2)] C dX12_holder_54 (by decide) rfl ?_
        refine mw_sub [3, 4, 5, 2, 1, 0] rfl ?_
        exact T_X12_holder_56 C 20000 x1 x2 (-1) 0 0 _ _ hF
      · refine mw_lcmp_ne_f (tgt := 48) C dX12_holder_37 dX12_holder_38 (by decide) g9 (by decide) c10 ?_
        refine mw_aload_n 0 C dX12_holder_41 rfl rfl ?_
        refine mw_bipush C dX12_holder_42 bp_6 ?_
        obtain ⟨q11, hq11, hF⟩ := bind_some hF
        refine mw_callV (c := 141) [iv 6] [] C dX12_holder_44 (T_X12_refuse (zl Z) (zX Z) 6 _ _ hq11) rfl zn141 zk141 (by decide) rfl wd997 wd998 wd1360 wd14 wd999 hd_X12_refuse rfl (by decide) (by decide) (Nat.le_of_ble_eq_true rfl) ⟨Nat.zero_le _, Nat.zero_le _⟩ ?_
        cases hF
        exact mw_iret C dX12_holder_47 rfl rfl
    · refine mw_if_ne_f (tgt := 30) C dX12_holder_21 (by decide) g7 c8 ?_
      refine mw_sub [0] rfl ?_
      exact T_X12_holder_24 C _ _ hF
def F_X12_holder (x1 : Int) (x2 : Int) (h : MH) : Option (Int × MH) := F_X12_holder_0 x1 x2 h
theorem T_X12_holder (l : Launch) (X : XT) (x1 : Int) (x2 : Int) (h : MH) (t : (Int × MH)) (hF : F_X12_holder x1 x2 h = some t) : Ct l X yX12_holder cX12_holder 9 (some .int) 6 [rfv (xd X) 141, iv x1, iv x2] zN zG h (some (iv t.1)) zN zG t.2 0 0 := by
  refine Ct.head (by decide) (Nat.le_of_ble_eq_true rfl) (fun Z hX hl _ _ _ C => ?_)
  subst hX
  subst hl
  exact (T_X12_holder_0 C x1 x2 _ _ hF)
/-! BottleLineModel.gained()I -/
def F_X12_gained_0 (h : MH) : Option (Int × MH) :=
  ck (in32 (h 141 24)) <|
  if (h 141 24) = 0 then
    (F_X12_refuse 6 h).bind fun q3 =>
    some (q3.1, q3.2)
  else
    (F_X12_gives (h 141 23) h).bind fun q4 =>
    some (q4.1, q4.2)
set_option maxRecDepth 100000 in
theorem T_X12_gained_0 {Z : ZT} (C : Cx Z cX12_gained 1 RX12 2 (some .int)) (h : MH) (t : (Int × MH)) (hF : F_X12_gained_0 h = some t) : MW Z (Qm Z (some (iv t.1)) zN zG t.2 0 0) 1 zN zG h 0 0 0 [(0, rfv (xd (zX Z)) 141)] [] := by
  unfold F_X12_gained_0 at hF
  refine mw_aload_n 0 C dX12_gained_0 rfl rfl ?_
  refine mw_get (k := 24) (T := TX12) (v := iv (h 141 24)) C dX12_gained_1 zn141 zk141 (by decide) rfl inX12 (by decide) wd913 rfl rfl ?_
  obtain ⟨g1, hF⟩ := ck_some hF
  rcases ite_some hF with ⟨c2, hF⟩ | ⟨c2, hF⟩
  · refine mw_if_eq_t (tgt := 18) C dX12_gained_4 (by decide) g1 c2 ?_
    refine mw_aload_n 0 C dX12_gained_18 rfl rfl ?_
    refine mw_bipush C dX12_gained_19 bp_6 ?_
    obtain ⟨q3, hq3, hF⟩ := bind_some hF
    refine mw_callV (c := 141) [iv 6] [] C dX12_gained_21 (T_X12_refuse (zl Z) (zX Z) 6 _ _ hq3) rfl zn141 zk141 (by decide) rfl wd997 wd998 wd1360 wd14 wd999 hd_X12_refuse rfl (by decide) (by decide) (Nat.le_of_ble_eq_true rfl) ⟨Nat.zero_le _, Nat.zero_le _⟩ ?_
    cases hF
    exact mw_iret C dX12_gained_24 rfl rfl
  · refine mw_if_eq_f (tgt := 18) C dX12_gained_4 (by decide) g1 c2 ?_
    refine mw_aload_n 0 C dX12_gained_7 rfl rfl ?_
    refine mw_aload_n 0 C dX12_gained_8 rfl rfl ?_
    refine mw_get (k := 23) (T := TX12) (v := lvv (h 141 23)) C dX12_gained_9 zn141 zk141 (by decide) rfl inX12 (by decide) wd912 rfl rfl ?_
    obtain ⟨q4, hq4, hF⟩ := bind_some hF
    refine mw_callV (c := 141) [lvv (h 141 23)] [] C dX12_gained_12 (T_X12_gives (zl Z) (zX Z) (h 141 23) _ _ hq4) rfl zn141 zk141 (by decide) rfl wd1069 wd1070 wd1379 wd14 wd1071 hd_X12_gives rfl (by decide) (by decide) (Nat.le_of_ble_eq_true rfl) ⟨Nat.zero_le _, Nat.zero_le _⟩ ?_
    refine mw_goto (tgt := 24) C dX12_gained_15 (by decide) ?_
    cases hF
    exact mw_iret C dX12_gained_24 rfl rfl
def F_X12_gained (h : MH) : Option (Int × MH) := F_X12_gained_0 h
theorem T_X12_gained (l : Launch) (X : XT) (h : MH) (t : (Int × MH)) (hF : F_X12_gained h = some t) : Ct l X yX12_gained cX12_gained 1 (some .int) 2 [rfv (xd X) 141] zN zG h (some (iv t.1)) zN zG t.2 0 0 := by
  refine Ct.head (by decide) (Nat.le_of_ble_eq_true rfl) (fun Z hX hl _ _ _ C => ?_)
  subst hX
  subst hl
  exact (T_X12_gained_0 C _ _ hF)
/-! BottleLineModel.waitsFor(III)J -/
def F_X12_waitsFor_59 (k11 : Int → Int → Int → Int → MH → Option (Int × MH)) (x1 : Int) (x2 : Int) (x3 : Int) (x4 : Int) (h : MH) : Option (Int × MH) :=
  k11 x1 x2 x3 (x4 + 1) h
set_option maxRecDepth 100000 in
theorem T_X12_waitsFor_59 {Z : ZT} (C : Cx Z cX12_waitsFor 8 RX12 5 (some .long)) (k11 : Int → Int → Int → Int → MH → Option (Int × MH)) (hk11 : ∀ (x1 : Int) (x2 : Int) (x3 : Int) (x4 : Int) (h : MH) (t : (Int × MH)), k11 x1 x2 x3 x4 h = some t → MW Z (Qm Z (some (lvv t.1)) zN zG t.2 0 0) 8 zN zG h 0 0 11 [(0, rfv (xd (zX Z)) 141), (1, iv x1), (2, iv x2), (3, iv x3), (4, iv x4)] []) (x1 : Int) (x2 : Int) (x3 : Int) (x4 : Int) (h : MH) (t : (Int × MH)) (hF : F_X12_waitsFor_59 k11 x1 x2 x3 x4 h = some t) : MW Z (Qm Z (some (lvv t.1)) zN zG t.2 0 0) 8 zN zG h 0 0 59 [(0, rfv (xd (zX Z)) 141), (1, iv x1), (2, iv x2), (3, iv x3), (4, iv x4)] [] := by
  unfold F_X12_waitsFor_59 at hF
  refine mw_iinc 4 [(4, iv (x4 + 1)), (0, rfv (xd (zX Z)) 141), (1, iv x1), (2, iv x2), (3, iv x3)] C dX12_waitsFor_59 rfl (by decide) rfl ?_
  refine mw_goto (tgt := 11) C dX12_waitsFor_62 (by decide) ?_
  refine mw_sub [1, 2, 3, 4, 0] rfl ?_
  exact hk11 x1 x2 x3 (x4 + 1) _ _ hF
def F_X12_waitsFor_11 : Nat → Int → Int → Int → Int → MH → Option (Int × MH)
  | 0, _, _, _, _, _ => none
  | n + 1, x1, x2, x3, x4, h =>
    ck (in32 x4) <|
    ck (in64 (h 142 0)) <|
    if (h 142 0) ≤ x4 then
      (F_X12_ofMachine x1 8 h).bind fun q4 =>
      (F_X12_ofMachine x1 9 q4.2).bind fun q5 =>
      nx (q4.1 + q5.1) fun v6 =>
      (F_X12_runs x3 q5.2).bind fun q7 =>
      (F_X12_ofMachine x1 8 q7.2).bind fun q8 =>
      (F_X12_ofMachine x1 9 q8.2).bind fun q9 =>
      nx ((q8.1 + q9.1) - v6) fun v10 =>
      (F_X12_copies 2200 0 q9.2).bind fun q11 =>
      some (v10, q11)
    else
      ck (in32 x1) <|
      if x4 = x1 then
        F_X12_waitsFor_59 (F_X12_waitsFor_11 n) x1 x2 x3 x4 h
      else
        (F_X12_machineAt 0 x4 h).bind fun q14 =>
        (F_X12_ofMachine x4 0 q14.2).bind fun q15 =>
        ck (in32 x2) <|
        ck (in64 (q15.1 + x2)) <|
        ck (0 ≤ (q14.1 + 0) ∧ (q14.1 + 0) < 2640) <|
        nx (hup q15.2 142 (q14.1 + 0).toNat (min 99 (q15.1 + x2))) fun h19 =>
        F_X12_waitsFor_59 (F_X12_waitsFor_11 n) x1 x2 x3 x4 h19
set_option maxRecDepth 100000 in
theorem T_X12_waitsFor_11 {Z : ZT} (C : Cx Z cX12_waitsFor 8 RX12 5 (some .long)) : ∀ (n : Nat) (x1 : Int) (x2 : Int) (x3 : Int) (x4 : Int) (h : MH) (t : (Int × MH)), F_X12_waitsFor_11 n x1 x2 x3 x4 h = some t → MW Z (Qm Z (some (lvv t.1)) zN zG t.2 0 0) 8 zN zG h 0 0 11 [(0, rfv (xd (zX Z)) 141), (1, iv x1), (2, iv x2), (3, iv x3), (4, iv x4)] [] := by
  intro n
  induction n with
  | zero =>
    intros
    rename_i hF
    exact absurd hF (by intro q; cases q)
  | succ n ih =>
    intro x1 x2 x3 x4 h t hF
    rw [F_X12_waitsFor_11] at hF
    refine mw_iload 4 C dX12_waitsFor_11 rfl ?_
    obtain ⟨g1, hF⟩ := ck_some hF
    refine mw_i2l C dX12_waitsFor_13 g1 ?_
    refine mw_aload_n 0 C dX12_waitsFor_14 rfl rfl ?_
    refine mw_get (k := 0) (T := TX12) (v := rfv (xd (zX Z)) 142) C dX12_waitsFor_15 zn141 zk141 (by decide) rfl inX12 (by decide) wd889 rfl (zfv_r rfl zg_141_0) ?_
    refine mw_iconst C dX12_waitsFor_18 ?_
    refine mw_lald C dX12_waitsFor_19 zn142 zk142 (by decide) (by decide) ?_
    obtain ⟨g2, hF⟩ := ck_some hF
    rcases ite_some hF with ⟨c3, hF⟩ | ⟨c3, hF⟩
    · refine mw_lcmp_ge_t (tgt := 65) C dX12_waitsFor_20 dX12_waitsFor_21 (by decide) (in64_of g1) g2 c3 ?_
      refine mw_aload_n 0 C dX12_waitsFor_65 rfl rfl ?_
      refine mw_iload_n 1 C dX12_waitsFor_66 rfl rfl ?_
      refine mw_bipush C dX12_waitsFor_67 bp_8 ?_
      obtain ⟨q4, hq4, hF⟩ := bind_some hF
      refine mw_callV (c := 141) [iv x1, iv 8] [] C dX12_waitsFor_69 (T_X12_ofMachine (zl Z) (zX Z) x1 8 _ _ hq4) rfl zn141 zk141 (by decide) rfl wd1086 wd1087 wd1382 wd14 wd1088 hd_X12_ofMachine rfl (by decide) (by decide) (Nat.le_of_ble_eq_true rfl) ⟨Nat.zero_le _, Nat.zero_le _⟩ ?_
      refine mw_aload_n 0 C dX12_waitsFor_72 rfl rfl ?_
      refine mw_iload_n 1 C dX12_waitsFor_73 rfl rfl ?_
      refine mw_bipush C dX12_waitsFor_74 bp_9 ?_
      obtain ⟨q5, hq5, hF⟩ := bind_some hF
      refine mw_callV (c := 141) [iv x1, iv 9] [lvv q4.1] C dX12_waitsFor_76 (T_X12_ofMachine (zl Z) (zX Z) x1 9 _ _ hq5) rfl zn141 zk141 (by decide) rfl wd1086 wd1087 wd1382 wd14 wd1088 hd_X12_ofMachine rfl (by decide) (by decide) (Nat.le_of_ble_eq_true rfl) ⟨Nat.zero_le _, Nat.zero_le _⟩ ?_
      refine mw_ladd C dX12_waitsFor_79 ?_
      obtain ⟨v6, ev6, hF⟩ := nx_some hF
      refine mw_tl ev6 ?_
      refine mw_lstore [(4, lvv v6), (0, rfv (xd (zX Z)) 141), (1, iv x1), (2, iv x2), (3, iv x3)] C dX12_waitsFor_80 (by decide) rfl ?_
      refine mw_aload_n 1 C dX12_waitsFor_82 rfl rfl ?_
      refine mw_iload_n 4 C dX12_waitsFor_83 rfl rfl ?_
      obtain ⟨q7, hq7, hF⟩ := bind_some hF
      refine mw_callV (c := 141) [iv x3] [] C dX12_waitsFor_84 (T_X12_runs (zl Z) (zX Z) x3 _ _ hq7) rfl zn141 zk141 (by decide) rfl wd1124 wd1125 wd1386 wd14 wd1126 hd_X12_runs rfl (by decide) (by decide) (Nat.le_of_ble_eq_true rfl) ⟨Nat.zero_le _, Nat.zero_le _⟩ ?_
      refine mw_pop2 C dX12_waitsFor_87 rfl ?_
      refine mw_aload_n 1 C dX12_waitsFor_88 rfl rfl ?_
      refine mw_iload_n 2 C dX12_waitsFor_89 rfl rfl ?_
      refine mw_bipush C dX12_waitsFor_90 bp_8 ?_
      obtain ⟨q8, hq8, hF⟩ := bind_some hF
      refine mw_callV (c := 141) [iv x1, iv 8] [] C dX12_waitsFor_92 (T_X12_ofMachine (zl Z) (zX Z) x1 8 _ _ hq8) rfl zn141 zk141 (by decide) rfl wd1086 wd1087 wd1382 wd14 wd1088 hd_X12_ofMachine rfl (by decide) (by decide) (Nat.le_of_ble_eq_true rfl) ⟨Nat.zero_le _, Nat.zero_le _⟩ ?_
      refine mw_aload_n 1 C dX12_waitsFor_95 rfl rfl ?_
      refine mw_iload_n 2 C dX12_waitsFor_96 rfl rfl ?_
      refine mw_bipush C dX12_waitsFor_97 bp_9 ?_
      obtain ⟨q9, hq9, hF⟩ := bind_some hF
      refine mw_callV (c := 141) [iv x1, iv 9] [lvv q8.1] C dX12_waitsFor_99 (T_X12_ofMachine (zl Z) (zX Z) x1 9 _ _ hq9) rfl zn141 zk141 (by decide) rfl wd1086 wd1087 wd1382 wd14 wd1088 hd_X12_ofMachine rfl (by decide) (by decide) (Nat.le_of_ble_eq_true rfl) ⟨Nat.zero_le _, Nat.zero_le _⟩ ?_
      refine mw_ladd C dX12_waitsFor_102 ?_
      refine mw_lload 0 C dX12_waitsFor_103 rfl ?_
      refine mw_lsub C dX12_waitsFor_105 ?_
      obtain ⟨v10, ev10, hF⟩ := nx_some hF
      refine mw_tl ev10 ?_
      refine mw_lstore [(6, lvv v10), (4, lvv v6), (0, rfv (xd (zX Z)) 141), (1, iv x1), (2, iv x2), (3, iv x3)] C dX12_waitsFor_106 (by decide) rfl ?_
      refine mw_aload_n 2 C dX12_waitsFor_108 rfl rfl ?_
      refine mw_sipush C dX12_waitsFor_109 sp_2200 ?_
      refine mw_iconst C dX12_waitsFor_112 ?_
      obtain ⟨q11, hq11, hF⟩ := bind_some hF
      refine mw_callV (c := 141) [iv 2200, iv 0] [] C dX12_waitsFor_113 (T_X12_copies (zl Z) (zX Z) 2200 0 _ _ hq11) rfl zn141 zk141 (by decide) rfl wd1171 wd1172 wd1393 wd14 wd1173 hd_X12_copies rfl (by decide) (by decide) (Nat.le_of_ble_eq_true rfl) ⟨Nat.zero_le _, Nat.zero_le _⟩ ?_
      refine mw_lload 0 C dX12_waitsFor_116 rfl ?_
      cases hF
      exact mw_lret C dX12_waitsFor_118 rfl rfl
    · refine mw_lcmp_ge_f (tgt := 65) C dX12_waitsFor_20 dX12_waitsFor_21 (by decide) (in64_of g1) g2 c3 ?_
      refine mw_iload 4 C dX12_waitsFor_24 rfl ?_
      refine mw_iload_n 1 C dX12_waitsFor_26 rfl rfl ?_
      obtain ⟨g12, hF⟩ := ck_some hF
      rcases ite_some hF with ⟨c13, hF⟩ | ⟨c13, hF⟩
      · refine mw_icmp_eq_t (tgt := 59) C dX12_waitsFor_27 (by decide) g1 g12 c13 ?_
        exact T_X12_waitsFor_59 C (F_X12_waitsFor_11 n) ih x1 x2 x3 x4 _ _ hF
      · refine mw_icmp_eq_f (tgt := 59) C dX12_waitsFor_27 (by decide) g1 g12 c13 ?_
        refine mw_aload_n 0 C dX12_waitsFor_30 rfl rfl ?_
        refine mw_get (k := 0) (T := TX12) (v := rfv (xd (zX Z)) 142) C dX12_waitsFor_31 zn141 zk141 (by decide) rfl inX12 (by decide) wd889 rfl (zfv_r rfl zg_141_0) ?_
        refine mw_iconst C dX12_waitsFor_34 ?_
        refine mw_iload 4 C dX12_waitsFor_35 rfl ?_
        obtain ⟨q14, hq14, hF⟩ := bind_some hF
        refine mw_callS [iv 0, iv x4] [rfv (xd (zX Z)) 142] C dX12_waitsFor_37 (T_X12_machineAt (zl Z) (zX Z) 0 x4 _ _ hq14) rfl wd1041 wd1042 wd14 wd1043 hd_X12_machineAt rfl (by decide) (by decide) (Nat.le_of_ble_eq_true rfl) ⟨Nat.zero_le _, Nat.zero_le _⟩ ?_
        refine mw_iconst C dX12_waitsFor_40 ?_
        refine mw_iadd C dX12_waitsFor_41 ?_
        refine mw_ldc2 (a := 99) C dX12_waitsFor_42 wd1167 rfl ?_
        refine mw_aload_n 0 C dX12_waitsFor_45 rfl rfl ?_
        refine mw_iload 4 C dX12_waitsFor_46 rfl ?_
        refine mw_iconst C dX12_waitsFor_48 ?_
        obtain ⟨q15, hq15, hF⟩ := bind_some hF
        refine mw_callV (c := 141) [iv x4, iv 0] [lvv 99, iv (q14.1 + 0), rfv (xd (zX Z)) 142] C dX12_waitsFor_49 (T_X12_ofMachine (zl Z) (zX Z) x4 0 _ _ hq15) rfl zn141 zk141 (by decide) rfl wd1086 wd1087 wd1382 wd14 wd1088 hd_X12_ofMachine rfl (by decide) (by decide) (Nat.le_of_ble_eq_true rfl) ⟨Nat.zero_le _, Nat.zero_le _⟩ ?_
        refine mw_iload_n 2 C dX12_waitsFor_52 rfl rfl ?_
        obtain ⟨g16, hF⟩ := ck_some hF
        refine mw_i2l C dX12_waitsFor_53 g16 ?_
        refine mw_ladd C dX12_waitsFor_54 ?_
        obtain ⟨g17, hF⟩ := ck_some hF
        refine mw_mminL C dX12_waitsFor_55 wd1144 wd1145 wd16 wd1146 (by decide) (Nat.le_of_ble_eq_true rfl) ⟨Nat.zero_le _, Nat.zero_le _⟩ (by decide) g17 ?_
        obtain ⟨g18, hF⟩ := ck_some hF
        obtain ⟨h19, eh19, hF⟩ := nx_some hF
        refine mw_last C dX12_waitsFor_58 zn142 zk142 (by decide) g18 (mw_h eh19 ?_)
        exact T_X12_waitsFor_59 C (F_X12_waitsFor_11 n) ih x1 x2 x3 x4 _ _ hF
def F_X12_waitsFor_0 (x1 : Int) (x2 : Int) (x3 : Int) (h : MH) : Option (Int × MH) :=
  (F_X12_copies 0 2200 h).bind fun q1 =>
  F_X12_waitsFor_11 20000 x1 x2 x3 0 q1
set_option maxRecDepth 100000 in
theorem T_X12_waitsFor_0 {Z : ZT} (C : Cx Z cX12_waitsFor 8 RX12 5 (some .long)) (x1 : Int) (x2 : Int) (x3 : Int) (h : MH) (t : (Int × MH)) (hF : F_X12_waitsFor_0 x1 x2 x3 h = some t) : MW Z (Qm Z (some (lvv t.1)) zN zG t.2 0 0) 8 zN zG h 0 0 0 [(0, rfv (xd (zX Z)) 141), (1, iv x1), (2, iv x2), (3, iv x3)] [] := by
  unfold F_X12_waitsFor_0 at hF
  refine mw_aload_n 0 C dX12_waitsFor_0 rfl rfl ?_
  refine mw_iconst C dX12_waitsFor_1 ?_
  refine mw_sipush C dX12_waitsFor_2 sp_2200 ?_
  obtain ⟨q1, hq1, hF⟩ := bind_some hF
  refine mw_callV (c := 141) [iv 0, iv 2200] [] C dX12_waitsFor_5 (T_X12_copies (zl Z) (zX Z) 0 2200 _ _ hq1) rfl zn141 zk141 (by decide) rfl wd1171 wd1172 wd1393 wd14 wd1173 hd_X12_copies rfl (by decide) (by decide) (Nat.le_of_ble_eq_true rfl) ⟨Nat.zero_le _, Nat.zero_le _⟩ ?_
  refine mw_iconst C dX12_waitsFor_8 ?_
  refine mw_istore [(4, iv 0), (0, rfv (xd (zX Z)) 141), (1, iv x1), (2, iv x2), (3, iv x3)] C dX12_waitsFor_9 (by decide) rfl ?_
  refine mw_sub [1, 2, 3, 4, 0] rfl ?_
  exact T_X12_waitsFor_11 C 20000 x1 x2 x3 0 _ _ hF
def F_X12_waitsFor (x1 : Int) (x2 : Int) (x3 : Int) (h : MH) : Option (Int × MH) := F_X12_waitsFor_0 x1 x2 x3 h
theorem T_X12_waitsFor (l : Launch) (X : XT) (x1 : Int) (x2 : Int) (x3 : Int) (h : MH) (t : (Int × MH)) (hF : F_X12_waitsFor x1 x2 x3 h = some t) : Ct l X yX12_waitsFor cX12_waitsFor 8 (some .long) 5 [rfv (xd X) 141, iv x1, iv x2, iv x3] zN zG h (some (lvv t.1)) zN zG t.2 0 0 := by
  refine Ct.head (by decide) (Nat.le_of_ble_eq_true rfl) (fun Z hX hl _ _ _ C => ?_)
  subst hX
  subst hl
  exact (T_X12_waitsFor_0 C x1 x2 x3 _ _ hF)
/-! BottleLineModel.waits(III)I -/
def F_X12_waits_47 (h : MH) : Option (Int × MH) :=
  (F_X12_refuse 1 h).bind fun q1 =>
  some (q1.1, q1.2)
set_option maxRecDepth 100000 in
theorem T_X12_waits_47 {Z : ZT} (C : Cx Z cX12_waits 4 RX12 6 (some .int)) (h : MH) (t : (Int × MH)) (hF : F_X12_waits_47 h = some t) : MW Z (Qm Z (some (iv t.1)) zN zG t.2 0 0) 4 zN zG h 0 0 47 [(0, rfv (xd (zX Z)) 141)] [] := by
  unfold F_X12_waits_47 at hF
  refine mw_aload_n 0 C dX12_waits_47 rfl rfl ?_
  refine mw_iconst C dX12_waits_48 ?_
  obtain ⟨q1, hq1, hF⟩ := bind_some hF
  refine mw_callV (c := 141) [iv 1] [] C dX12_waits_49 (T_X12_refuse (zl Z) (zX Z) 1 _ _ hq1) rfl zn141 zk141 (by decide) rfl wd997 wd998 wd1360 wd14 wd999 hd_X12_refuse rfl (by decide) (by decide) (Nat.le_of_ble_eq_true rfl) ⟨Nat.zero_le _, Nat.zero_le _⟩ ?_
  cases hF
  exact mw_iret C dX12_waits_52 rfl rfl
def F_X12_waits_0 (x1 : Int) (x2 : Int) (x3 : Int) (h : MH) : Option (Int × MH) :=
  ck (in32 x1) <|
  (F_X12_isMachine x1 h).bind fun q2 =>
  ck (in32 q2.1) <|
  if q2.1 = 0 then
    F_X12_waits_47 q2.2
  else
    ck (in32 x2) <|
    (F_X12_isFrom x2 0 20 q2.2).bind fun q6 =>
    ck (in32 q6.1) <|
    if q6.1 = 0 then
      F_X12_waits_47 q6.2
    else
      ck (in32 x3) <|
      (F_X12_isFrom x3 1 600 q6.2).bind fun q10 =>
      ck (in32 q10.1) <|
      if q10.1 = 0 then
        F_X12_waits_47 q10.2
      else
        (F_X12_waitsFor x1 x2 x3 q10.2).bind fun q13 =>
        (F_X12_gives q13.1 q13.2).bind fun q14 =>
        some (q14.1, q14.2)
set_option maxRecDepth 100000 in
theorem T_X12_waits_0 {Z : ZT} (C : Cx Z cX12_waits 4 RX12 6 (some .int)) (x1 : Int) (x2 : Int) (x3 : Int) (h : MH) (t : (Int × MH)) (hF : F_X12_waits_0 x1 x2 x3 h = some t) : MW Z (Qm Z (some (iv t.1)) zN zG t.2 0 0) 4 zN zG h 0 0 0 [(0, rfv (xd (zX Z)) 141), (1, iv x1), (2, iv x2), (3, iv x3)] [] := by
  unfold F_X12_waits_0 at hF
  refine mw_aload_n 0 C dX12_waits_0 rfl rfl ?_
  refine mw_iload_n 1 C dX12_waits_1 rfl rfl ?_
  obtain ⟨g1, hF⟩ := ck_some hF
  refine mw_i2l C dX12_waits_2 g1 ?_
  obtain ⟨q2, hq2, hF⟩ := bind_some hF
  refine mw_callV (c := 141) [lvv x1] [] C dX12_waits_3 (T_X12_isMachine (zl Z) (zX Z) x1 _ _ hq2) rfl zn141 zk141 (by decide) rfl wd1093 wd1094 wd1383 wd14 wd1095 hd_X12_isMachine rfl (by decide) (by decide) (Nat.le_of_ble_eq_true rfl) ⟨Nat.zero_le _, Nat.zero_le _⟩ ?_
  obtain ⟨g3, hF⟩ := ck_some hF
  rcases ite_some hF with ⟨c4, hF⟩ | ⟨c4, hF⟩
  · refine mw_if_eq_t (tgt := 47) C dX12_waits_6 (by decide) g3 c4 ?_
    refine mw_sub [0] rfl ?_
    exact T_X12_waits_47 C _ _ hF
  · refine mw_if_eq_f (tgt := 47) C dX12_waits_6 (by decide) g3 c4 ?_
    refine mw_iload_n 2 C dX12_waits_9 rfl rfl ?_
    obtain ⟨g5, hF⟩ := ck_some hF
    refine mw_i2l C dX12_waits_10 g5 ?_
    refine mw_lconst (a := 0) C dX12_waits_11 lc_0 ?_
    refine mw_ldc2 (a := 20) C dX12_waits_12 wd1044 rfl ?_
    obtain ⟨q6, hq6, hF⟩ := bind_some hF
    refine mw_callS [lvv x2, lvv 0, lvv 20] [] C dX12_waits_15 (T_X12_isFrom (zl Z) (zX Z) x2 0 20 _ _ hq6) rfl wd1116 wd1117 wd14 wd1118 hd_X12_isFrom rfl (by decide) (by decide) (Nat.le_of_ble_eq_true rfl) ⟨Nat.zero_le _, Nat.zero_le _⟩ ?_
    obtain ⟨g7, hF⟩ := ck_some hF
    rcases ite_some hF with ⟨c8, hF⟩ | ⟨c8, hF⟩
    · refine mw_if_eq_t (tgt := 47) C dX12_waits_18 (by decide) g7 c8 ?_
      refine mw_sub [0] rfl ?_
      exact T_X12_waits_47 C _ _ hF
    · refine mw_if_eq_f (tgt := 47) C dX12_waits_18 (by decide) g7 c8 ?_
      refine mw_iload_n 3 C dX12_waits_21 rfl rfl ?_
      obtain ⟨g9, hF⟩ := ck_some hF
      refine mw_i2l C dX12_waits_22 g9 ?_
      refine mw_lconst (a := 1) C dX12_waits_23 lc_1 ?_
      refine mw_ldc2 (a := 600) C dX12_waits_24 wd1123 rfl ?_
      obtain ⟨q10, hq10, hF⟩ := bind_some hF
      refine mw_callS [lvv x3, lvv 1, lvv 600] [] C dX12_waits_27 (T_X12_isFrom (zl Z) (zX Z) x3 1 600 _ _ hq10) rfl wd1116 wd1117 wd14 wd1118 hd_X12_isFrom rfl (by decide) (by decide) (Nat.le_of_ble_eq_true rfl) ⟨Nat.zero_le _, Nat.zero_le _⟩ ?_
      obtain ⟨g11, hF⟩ := ck_some hF
      rcases ite_some hF with ⟨c12, hF⟩ | ⟨c12, hF⟩
      · refine mw_if_eq_t (tgt := 47) C dX12_waits_30 (by decide) g11 c12 ?_
        refine mw_sub [0] rfl ?_
        exact T_X12_waits_47 C _ _ hF
      · refine mw_if_eq_f (tgt := 47) C dX12_waits_30 (by decide) g11 c12 ?_
        refine mw_aload_n 0 C dX12_waits_33 rfl rfl ?_
        refine mw_aload_n 0 C dX12_waits_34 rfl rfl ?_
        refine mw_iload_n 1 C dX12_waits_35 rfl rfl ?_
        refine mw_iload_n 2 C dX12_waits_36 rfl rfl ?_
        refine mw_iload_n 3 C dX12_waits_37 rfl rfl ?_
        obtain ⟨q13, hq13, hF⟩ := bind_some hF
        refine mw_callV (c := 141) [iv x1, iv x2, iv x3] [rfv (xd (zX Z)) 141] C dX12_waits_38 (T_X12_waitsFor (zl Z) (zX Z) x1 x2 x3 _ _ hq13) rfl zn141 zk141 (by decide) rfl wd1186 wd1187 wd1394 wd14 wd1188 hd_X12_waitsFor rfl (by decide) (by decide) (Nat.le_of_ble_eq_true rfl) ⟨Nat.zero_le _, Nat.zero_le _⟩ ?_
        obtain ⟨q14, hq14, hF⟩ := bind_some hF
        refine mw_callV (c := 141) [lvv q13.1] [] C dX12_waits_41 (T_X12_gives (zl Z) (zX Z) q13.1 _ _ hq14) rfl zn141 zk141 (by decide) rfl wd1069 wd1070 wd1379 wd14 wd1071 hd_X12_gives rfl (by decide) (by decide) (Nat.le_of_ble_eq_true rfl) ⟨Nat.zero_le _, Nat.zero_le _⟩ ?_
        refine mw_goto (tgt := 52) C dX12_waits_44 (by decide) ?_
        cases hF
        exact mw_iret C dX12_waits_52 rfl rfl
def F_X12_waits (x1 : Int) (x2 : Int) (x3 : Int) (h : MH) : Option (Int × MH) := F_X12_waits_0 x1 x2 x3 h
theorem T_X12_waits (l : Launch) (X : XT) (x1 : Int) (x2 : Int) (x3 : Int) (h : MH) (t : (Int × MH)) (hF : F_X12_waits x1 x2 x3 h = some t) : Ct l X yX12_waits cX12_waits 4 (some .int) 6 [rfv (xd X) 141, iv x1, iv x2, iv x3] zN zG h (some (iv t.1)) zN zG t.2 0 0 := by
  refine Ct.head (by decide) (Nat.le_of_ble_eq_true rfl) (fun Z hX hl _ _ _ C => ?_)
  subst hX
  subst hl
  exact (T_X12_waits_0 C x1 x2 x3 _ _ hF)
/-! BottleLineModel.unwaited(II)I -/
def F_X12_unwaited_21 (h : MH) : Option (Int × MH) :=
  (F_X12_refuse 1 h).bind fun q1 =>
  some (q1.1, q1.2)
set_option maxRecDepth 100000 in
theorem T_X12_unwaited_21 {Z : ZT} (C : Cx Z cX12_unwaited 4 RX12 6 (some .int)) (h : MH) (t : (Int × MH)) (hF : F_X12_unwaited_21 h = some t) : MW Z (Qm Z (some (iv t.1)) zN zG t.2 0 0) 4 zN zG h 0 0 21 [(0, rfv (xd (zX Z)) 141)] [] := by
  unfold F_X12_unwaited_21 at hF
  refine mw_aload_n 0 C dX12_unwaited_21 rfl rfl ?_
  refine mw_iconst C dX12_unwaited_22 ?_
  obtain ⟨q1, hq1, hF⟩ := bind_some hF
  refine mw_callV (c := 141) [iv 1] [] C dX12_unwaited_23 (T_X12_refuse (zl Z) (zX Z) 1 _ _ hq1) rfl zn141 zk141 (by decide) rfl wd997 wd998 wd1360 wd14 wd999 hd_X12_refuse rfl (by decide) (by decide) (Nat.le_of_ble_eq_true rfl) ⟨Nat.zero_le _, Nat.zero_le _⟩ ?_
  cases hF
  exact mw_iret C dX12_unwaited_26 rfl rfl
def F_X12_unwaited_29 : Nat → Int → Int → Int → MH → Option (Int × MH)
  | 0, _, _, _, _ => none
  | n + 1, x1, x2, x3, h =>
    ck (in32 x3) <|
    if 20 < x3 then
      (F_X12_refuse 6 h).bind fun q3 =>
      some (q3.1, q3.2)
    else
      (F_X12_waitsFor x1 x3 x2 h).bind fun q4 =>
      ck (in64 q4.1) <|
      if q4.1 ≠ 0 then
        F_X12_unwaited_29 n x1 x2 (x3 + 1) q4.2
      else
        (F_X12_gives x3 q4.2).bind fun q7 =>
        some (q7.1, q7.2)
set_option maxRecDepth 100000 in
theorem T_X12_unwaited_29 {Z : ZT} (C : Cx Z cX12_unwaited 4 RX12 6 (some .int)) : ∀ (n : Nat) (x1 : Int) (x2 : Int) (x3 : Int) (h : MH) (t : (Int × MH)), F_X12_unwaited_29 n x1 x2 x3 h = some t → MW Z (Qm Z (some (iv t.1)) zN zG t.2 0 0) 4 zN zG h 0 0 29 [(0, rfv (xd (zX Z)) 141), (1, iv x1), (2, iv x2), (3, iv x3)] [] := by
  intro n
  induction n with
  | zero =>
    intros
    rename_i hF
    exact absurd hF (by intro q; cases q)
  | succ n ih =>
    intro x1 x2 x3 h t hF
    rw [F_X12_unwaited_29] at hF
    refine mw_iload_n 3 C dX12_unwaited_29 rfl rfl ?_
    refine mw_bipush C dX12_unwaited_30 bp_20 ?_
    obtain ⟨g1, hF⟩ := ck_some hF
    rcases ite_some hF with ⟨c2, hF⟩ | ⟨c2, hF⟩
    · refine mw_icmp_gt_t (tgt := 60) C dX12_unwaited_32 (by decide) g1 (by decide) c2 ?_
      refine mw_aload_n 0 C dX12_unwaited_60 rfl rfl ?_
      refine mw_bipush C dX12_unwaited_61 bp_6 ?_
      obtain ⟨q3, hq3, hF⟩ := bind_some hF
      refine mw_callV (c := 141) [iv 6] [] C dX12_unwaited_63 (T_X12_refuse (zl Z) (zX Z) 6 _ _ hq3) rfl zn141 zk141 (by decide) rfl wd997 wd998 wd1360 wd14 wd999 hd_X12_refuse rfl (by decide) (by decide) (Nat.le_of_ble_eq_true rfl) ⟨Nat.zero_le _, Nat.zero_le _⟩ ?_
      cases hF
      exact mw_iret C dX12_unwaited_66 rfl rfl
    · refine mw_icmp_gt_f (tgt := 60) C dX12_unwaited_32 (by decide) g1 (by decide) c2 ?_
      refine mw_aload_n 0 C dX12_unwaited_35 rfl rfl ?_
      refine mw_iload_n 1 C dX12_unwaited_36 rfl rfl ?_
      refine mw_iload_n 3 C dX12_unwaited_37 rfl rfl ?_
      refine mw_iload_n 2 C dX12_unwaited_38 rfl rfl ?_
      obtain ⟨q4, hq4, hF⟩ := bind_some hF
      refine mw_callV (c := 141) [iv x1, iv x3, iv x2] [] C dX12_unwaited_39 (T_X12_waitsFor (zl Z) (zX Z) x1 x3 x2 _ _ hq4) rfl zn141 zk141 (by decide) rfl wd1186 wd1187 wd1394 wd14 wd1188 hd_X12_waitsFor rfl (by decide) (by decide) (Nat.le_of_ble_eq_true rfl) ⟨Nat.zero_le _, Nat.zero_le _⟩ ?_
      refine mw_lconst (a := 0) C dX12_unwaited_42 lc_0 ?_
      obtain ⟨g5, hF⟩ := ck_some hF
      rcases ite_some hF with ⟨c6, hF⟩ | ⟨c6, hF⟩
      · refine mw_lcmp_ne_t (tgt := 54) C dX12_unwaited_43 dX12_unwaited_44 (by decide) g5 (by decide) c6 ?_
        refine mw_iinc 3 [(3, iv (x3 + 1)), (0, rfv (xd (zX Z)) 141), (1, iv x1), (2, iv x2)] C dX12_unwaited_54 rfl (by decide) rfl ?_
        refine mw_goto (tgt := 29) C dX12_unwaited_57 (by decide) ?_
        refine mw_sub [1, 2, 3, 0] rfl ?_
        exact ih x1 x2 (x3 + 1) _ _ hF
      · refine mw_lcmp_ne_f (tgt := 54) C dX12_unwaited_43 dX12_unwaited_44 (by decide) g5 (by decide) c6 ?_
        refine mw_aload_n 0 C dX12_unwaited_47 rfl rfl ?_
        refine mw_iload_n 3 C dX12_unwaited_48 rfl rfl ?_
        refine mw_i2l C dX12_unwaited_49 g1 ?_
        obtain ⟨q7, hq7, hF⟩ := bind_some hF
        refine mw_callV (c := 141) [lvv x3] [] C dX12_unwaited_50 (T_X12_gives (zl Z) (zX Z) x3 _ _ hq7) rfl zn141 zk141 (by decide) rfl wd1069 wd1070 wd1379 wd14 wd1071 hd_X12_gives rfl (by decide) (by decide) (Nat.le_of_ble_eq_true rfl) ⟨Nat.zero_le _, Nat.zero_le _⟩ ?_
        cases hF
        exact mw_iret C dX12_unwaited_53 rfl rfl
def F_X12_unwaited_0 (x1 : Int) (x2 : Int) (h : MH) : Option (Int × MH) :=
  ck (in32 x1) <|
  (F_X12_isMachine x1 h).bind fun q2 =>
  ck (in32 q2.1) <|
  if q2.1 = 0 then
    F_X12_unwaited_21 q2.2
  else
    ck (in32 x2) <|
    (F_X12_isFrom x2 1 200 q2.2).bind fun q6 =>
    ck (in32 q6.1) <|
    if q6.1 ≠ 0 then
      F_X12_unwaited_29 20000 x1 x2 0 q6.2
    else
      F_X12_unwaited_21 q6.2
set_option maxRecDepth 100000 in
theorem T_X12_unwaited_0 {Z : ZT} (C : Cx Z cX12_unwaited 4 RX12 6 (some .int)) (x1 : Int) (x2 : Int) (h : MH) (t : (Int × MH)) (hF : F_X12_unwaited_0 x1 x2 h = some t) : MW Z (Qm Z (some (iv t.1)) zN zG t.2 0 0) 4 zN zG h 0 0 0 [(0, rfv (xd (zX Z)) 141), (1, iv x1), (2, iv x2)] [] := by
  unfold F_X12_unwaited_0 at hF
  refine mw_aload_n 0 C dX12_unwaited_0 rfl rfl ?_
  refine mw_iload_n 1 C dX12_unwaited_1 rfl rfl ?_
  obtain ⟨g1, hF⟩ := ck_some hF
  refine mw_i2l C dX12_unwaited_2 g1 ?_
  obtain ⟨q2, hq2, hF⟩ := bind_some hF
  refine mw_callV (c := 141) [lvv x1] [] C dX12_unwaited_3 (T_X12_isMachine (zl Z) (zX Z) x1 _ _ hq2) rfl zn141 zk141 (by decide) rfl wd1093 wd1094 wd1383 wd14 wd1095 hd_X12_isMachine rfl (by decide) (by decide) (Nat.le_of_ble_eq_true rfl) ⟨Nat.zero_le _, Nat.zero_le _⟩ ?_
  obtain ⟨g3, hF⟩ := ck_some hF
  rcases ite_some hF with ⟨c4, hF⟩ | ⟨c4, hF⟩
  · refine mw_if_eq_t (tgt := 21) C dX12_unwaited_6 (by decide) g3 c4 ?_
    refine mw_sub [0] rfl ?_
    exact T_X12_unwaited_21 C _ _ hF
  · refine mw_if_eq_f (tgt := 21) C dX12_unwaited_6 (by decide) g3 c4 ?_
    refine mw_iload_n 2 C dX12_unwaited_9 rfl rfl ?_
    obtain ⟨g5, hF⟩ := ck_some hF
    refine mw_i2l C dX12_unwaited_10 g5 ?_
    refine mw_lconst (a := 1) C dX12_unwaited_11 lc_1 ?_
    refine mw_ldc2 (a := 200) C dX12_unwaited_12 wd1193 rfl ?_
    obtain ⟨q6, hq6, hF⟩ := bind_some hF
    refine mw_callS [lvv x2, lvv 1, lvv 200] [] C dX12_unwaited_15 (T_X12_isFrom (zl Z) (zX Z) x2 1 200 _ _ hq6) rfl wd1116 wd1117 wd14 wd1118 hd_X12_isFrom rfl (by decide) (by decide) (Nat.le_of_ble_eq_true rfl) ⟨Nat.zero_le _, Nat.zero_le _⟩ ?_
    obtain ⟨g7, hF⟩ := ck_some hF
    rcases ite_some hF with ⟨c8, hF⟩ | ⟨c8, hF⟩
    · refine mw_if_ne_t (tgt := 27) C dX12_unwaited_18 (by decide) g7 c8 ?_
      refine mw_iconst C dX12_unwaited_27 ?_
      refine mw_istore_n [(3, iv 0), (0, rfv (xd (zX Z)) 141), (1, iv x1), (2, iv x2)] C dX12_unwaited_28 rfl (by decide) rfl ?_
      refine mw_sub [1, 2, 3, 0] rfl ?_
      exact T_X12_unwaited_29 C 20000 x1 x2 0 _ _ hF
    · refine mw_if_ne_f (tgt := 27) C dX12_unwaited_18 (by decide) g7 c8 ?_
      refine mw_sub [0] rfl ?_
      exact T_X12_unwaited_21 C _ _ hF
def F_X12_unwaited (x1 : Int) (x2 : Int) (h : MH) : Option (Int × MH) := F_X12_unwaited_0 x1 x2 h
theorem T_X12_unwaited (l : Launch) (X : XT) (x1 : Int) (x2 : Int) (h : MH) (t : (Int × MH)) (hF : F_X12_unwaited x1 x2 h = some t) : Ct l X yX12_unwaited cX12_unwaited 4 (some .int) 6 [rfv (xd X) 141, iv x1, iv x2] zN zG h (some (iv t.1)) zN zG t.2 0 0 := by
  refine Ct.head (by decide) (Nat.le_of_ble_eq_true rfl) (fun Z hX hl _ _ _ C => ?_)
  subst hX
  subst hl
  exact (T_X12_unwaited_0 C x1 x2 _ _ hF)
/-! BottleLineModel.shared(III)I -/
def F_X12_shared_36 (h : MH) : Option (Int × MH) :=
  (F_X12_refuse 1 h).bind fun q1 =>
  some (q1.1, q1.2)
set_option maxRecDepth 100000 in
theorem T_X12_shared_36 {Z : ZT} (C : Cx Z cX12_shared 14 RX12 5 (some .int)) (h : MH) (t : (Int × MH)) (hF : F_X12_shared_36 h = some t) : MW Z (Qm Z (some (iv t.1)) zN zG t.2 0 0) 14 zN zG h 0 0 36 [(0, rfv (xd (zX Z)) 141)] [] := by
  unfold F_X12_shared_36 at hF
  refine mw_aload_n 0 C dX12_shared_36 rfl rfl ?_
  refine mw_iconst C dX12_shared_37 ?_
  obtain ⟨q1, hq1, hF⟩ := bind_some hF
  refine mw_callV (c := 141) [iv 1] [] C dX12_shared_38 (T_X12_refuse (zl Z) (zX Z) 1 _ _ hq1) rfl zn141 zk141 (by decide) rfl wd997 wd998 wd1360 wd14 wd999 hd_X12_refuse rfl (by decide) (by decide) (Nat.le_of_ble_eq_true rfl) ⟨Nat.zero_le _, Nat.zero_le _⟩ ?_
  cases hF
  exact mw_iret C dX12_shared_41 rfl rfl
def F_X12_shared_296 (k103 : Int → Int → Int → Int → Int → Int → Int → MH → Option (Int × MH)) (x1 : Int) (x2 : Int) (x3 : Int) (x4 : Int) (x5 : Int) (x6 : Int) (x8 : Int) (h : MH) : Option (Int × MH) :=
  k103 x1 x2 x3 x4 x5 x6 (x8 + 1) h
set_option maxRecDepth 100000 in
theorem T_X12_shared_296 {Z : ZT} (C : Cx Z cX12_shared 14 RX12 5 (some .int)) (k103 : Int → Int → Int → Int → Int → Int → Int → MH → Option (Int × MH)) (hk103 : ∀ (x1 : Int) (x2 : Int) (x3 : Int) (x4 : Int) (x5 : Int) (x6 : Int) (x8 : Int) (h : MH) (t : (Int × MH)), k103 x1 x2 x3 x4 x5 x6 x8 h = some t → MW Z (Qm Z (some (iv t.1)) zN zG t.2 0 0) 14 zN zG h 0 0 103 [(0, rfv (xd (zX Z)) 141), (1, iv x1), (2, iv x2), (3, iv x3), (4, iv x4), (5, iv x5), (6, lvv x6), (8, iv x8)] []) (x1 : Int) (x2 : Int) (x3 : Int) (x4 : Int) (x5 : Int) (x6 : Int) (x8 : Int) (h : MH) (t : (Int × MH)) (hF : F_X12_shared_296 k103 x1 x2 x3 x4 x5 x6 x8 h = some t) : MW Z (Qm Z (some (iv t.1)) zN zG t.2 0 0) 14 zN zG h 0 0 296 [(0, rfv (xd (zX Z)) 141), (1, iv x1), (2, iv x2), (3, iv x3), (4, iv x4), (5, iv x5), (6, lvv x6), (8, iv x8)] [] := by
  unfold F_X12_shared_296 at hF
  refine mw_iinc 7 [(8, iv (x8 + 1)), (0, rfv (xd (zX Z)) 141), (1, iv x1), (2, iv x2), (3, iv x3), (4, iv x4), (5, iv x5), (6, lvv x6)] C dX12_shared_296 rfl (by decide) rfl ?_
  refine mw_goto (tgt := 103) C dX12_shared_299 (by decide) ?_
  refine mw_sub [1, 2, 3, 4, 5, 6, 7, 0] rfl ?_
  exact hk103 x1 x2 x3 x4 x5 x6 (x8 + 1) _ _ hF
def F_X12_shared_269 (k103 : Int → Int → Int → Int → Int → Int → Int → MH → Option (Int × MH)) : Nat → Int → Int → Int → Int → Int → Int → Int → Int → MH → Option (Int × MH)
  | 0, _, _, _, _, _, _, _, _, _ => none
  | n + 1, x1, x2, x3, x4, x5, x6, x8, x13, h =>
    ck (in32 x13) <|
    ck (in32 x4) <|
    if x4 ≤ x13 then
      F_X12_shared_296 k103 x1 x2 x3 x4 x5 x6 x8 h
    else
      ck (0 ≤ x13 ∧ x13 < 5) <|
      nx (hup h 152 x13.toNat (h 151 x13.toNat)) fun h5 =>
      F_X12_shared_269 k103 n x1 x2 x3 x4 x5 x6 x8 (x13 + 1) h5
set_option maxRecDepth 100000 in
theorem T_X12_shared_269 {Z : ZT} (C : Cx Z cX12_shared 14 RX12 5 (some .int)) (k103 : Int → Int → Int → Int → Int → Int → Int → MH → Option (Int × MH)) (hk103 : ∀ (x1 : Int) (x2 : Int) (x3 : Int) (x4 : Int) (x5 : Int) (x6 : Int) (x8 : Int) (h : MH) (t : (Int × MH)), k103 x1 x2 x3 x4 x5 x6 x8 h = some t → MW Z (Qm Z (some (iv t.1)) zN zG t.2 0 0) 14 zN zG h 0 0 103 [(0, rfv (xd (zX Z)) 141), (1, iv x1), (2, iv x2), (3, iv x3), (4, iv x4), (5, iv x5), (6, lvv x6), (8, iv x8)] []) : ∀ (n : Nat) (x1 : Int) (x2 : Int) (x3 : Int) (x4 : Int) (x5 : Int) (x6 : Int) (x8 : Int) (x13 : Int) (h : MH) (t : (Int × MH)), F_X12_shared_269 k103 n x1 x2 x3 x4 x5 x6 x8 x13 h = some t → MW Z (Qm Z (some (iv t.1)) zN zG t.2 0 0) 14 zN zG h 0 0 269 [(0, rfv (xd (zX Z)) 141), (1, iv x1), (2, iv x2), (3, iv x3), (4, iv x4), (5, iv x5), (6, lvv x6), (8, iv x8), (13, iv x13)] [] := by
  intro n
  induction n with
  | zero =>
    intros
    rename_i hF
    exact absurd hF (by intro q; cases q)
  | succ n ih =>
    intro x1 x2 x3 x4 x5 x6 x8 x13 h t hF
    rw [F_X12_shared_269] at hF
    refine mw_iload 8 C dX12_shared_269 rfl ?_
    refine mw_iload 4 C dX12_shared_271 rfl ?_
    obtain ⟨g1, hF⟩ := ck_some hF
    obtain ⟨g2, hF⟩ := ck_some hF
    rcases ite_some hF with ⟨c3, hF⟩ | ⟨c3, hF⟩
    · refine mw_icmp_ge_t (tgt := 296) C dX12_shared_273 (by decide) g1 g2 c3 ?_
      refine mw_sub [0, 1, 2, 3, 4, 5, 6, 7] rfl ?_
      exact T_X12_shared_296 C k103 hk103 x1 x2 x3 x4 x5 x6 x8 _ _ hF
    · refine mw_icmp_ge_f (tgt := 296) C dX12_shared_273 (by decide) g1 g2 c3 ?_
      refine mw_aload_n 0 C dX12_shared_276 rfl rfl ?_
      refine mw_get (k := 26) (T := TX12) (v := rfv (xd (zX Z)) 152) C dX12_shared_277 zn141 zk141 (by decide) rfl inX12 (by decide) wd915 rfl (zfv_r rfl zg_141_26) ?_
      refine mw_iload 8 C dX12_shared_280 rfl ?_
      refine mw_aload_n 0 C dX12_shared_282 rfl rfl ?_
      refine mw_get (k := 25) (T := TX12) (v := rfv (xd (zX Z)) 151) C dX12_shared_283 zn141 zk141 (by decide) rfl inX12 (by decide) wd914 rfl (zfv_r rfl zg_141_25) ?_
      refine mw_iload 8 C dX12_shared_286 rfl ?_
      obtain ⟨g4, hF⟩ := ck_some hF
      refine mw_iald C dX12_shared_288 zn151 zk151 (by decide) g4 ?_
      obtain ⟨h5, eh5, hF⟩ := nx_some hF
      refine mw_iast C dX12_shared_289 zn152 zk152 (by decide) g4 (mw_h eh5 ?_)
      refine mw_iinc 8 [(13, iv (x13 + 1)), (0, rfv (xd (zX Z)) 141), (1, iv x1), (2, iv x2), (3, iv x3), (4, iv x4), (5, iv x5), (6, lvv x6), (8, iv x8)] C dX12_shared_290 rfl (by decide) rfl ?_
      refine mw_goto (tgt := 269) C dX12_shared_293 (by decide) ?_
      refine mw_sub [1, 2, 3, 4, 5, 6, 7, 8, 0] rfl ?_
      exact ih x1 x2 x3 x4 x5 x6 x8 (x13 + 1) _ _ hF
def F_X12_shared_206 (k103 : Int → Int → Int → Int → Int → Int → Int → MH → Option (Int × MH)) : Nat → Int → Int → Int → Int → Int → Int → Int → Int → MH → Option (Int × MH)
  | 0, _, _, _, _, _, _, _, _, _ => none
  | n + 1, x1, x2, x3, x4, x5, x6, x8, x11, h =>
    ck (in32 x11) <|
    ck (in32 x4) <|
    if x4 ≤ x11 then
      (F_X12_runs x3 h).bind fun q4 =>
      ck (in64 q4.1) <|
      ck (in64 x6) <|
      if x6 < q4.1 then
        F_X12_shared_269 k103 20000 x1 x2 x3 x4 x5 q4.1 x8 0 q4.2
      else
        F_X12_shared_296 k103 x1 x2 x3 x4 x5 x6 x8 q4.2
    else
      (F_X12_machineAt 0 x11 h).bind fun q8 =>
      ck (0 ≤ x11 ∧ x11 < 5) <|
      ck (in32 (q8.2 151 x11.toNat)) <|
      ck (in32 x2) <|
      ck (0 ≤ (q8.1 + 11) ∧ (q8.1 + 11) < 2640) <|
      nx (hup q8.2 142 (q8.1 + 11).toNat ((q8.2 151 x11.toNat) * x2)) fun h13 =>
      F_X12_shared_206 k103 n x1 x2 x3 x4 x5 x6 x8 (x11 + 1) h13
set_option maxRecDepth 100000 in
theorem T_X12_shared_206 {Z : ZT} (C : Cx Z cX12_shared 14 RX12 5 (some .int)) (k103 : Int → Int → Int → Int → Int → Int → Int → MH → Option (Int × MH)) (hk103 : ∀ (x1 : Int) (x2 : Int) (x3 : Int) (x4 : Int) (x5 : Int) (x6 : Int) (x8 : Int) (h : MH) (t : (Int × MH)), k103 x1 x2 x3 x4 x5 x6 x8 h = some t → MW Z (Qm Z (some (iv t.1)) zN zG t.2 0 0) 14 zN zG h 0 0 103 [(0, rfv (xd (zX Z)) 141), (1, iv x1), (2, iv x2), (3, iv x3), (4, iv x4), (5, iv x5), (6, lvv x6), (8, iv x8)] []) : ∀ (n : Nat) (x1 : Int) (x2 : Int) (x3 : Int) (x4 : Int) (x5 : Int) (x6 : Int) (x8 : Int) (x11 : Int) (h : MH) (t : (Int × MH)), F_X12_shared_206 k103 n x1 x2 x3 x4 x5 x6 x8 x11 h = some t → MW Z (Qm Z (some (iv t.1)) zN zG t.2 0 0) 14 zN zG h 0 0 206 [(0, rfv (xd (zX Z)) 141), (1, iv x1), (2, iv x2), (3, iv x3), (4, iv x4), (5, iv x5), (6, lvv x6), (8, iv x8), (11, iv x11)] [] := by
  intro n
  induction n with
  | zero =>
    intros
    rename_i hF
    exact absurd hF (by intro q; cases q)
  | succ n ih =>
    intro x1 x2 x3 x4 x5 x6 x8 x11 h t hF
    rw [F_X12_shared_206] at hF
    refine mw_iload 8 C dX12_shared_206 rfl ?_
    refine mw_iload 4 C dX12_shared_208 rfl ?_
    obtain ⟨g1, hF⟩ := ck_some hF
    obtain ⟨g2, hF⟩ := ck_some hF
    rcases ite_some hF with ⟨c3, hF⟩ | ⟨c3, hF⟩
    · refine mw_icmp_ge_t (tgt := 244) C dX12_shared_210 (by decide) g1 g2 c3 ?_
      refine mw_aload_n 0 C dX12_shared_244 rfl rfl ?_
      refine mw_iload_n 3 C dX12_shared_245 rfl rfl ?_
      obtain ⟨q4, hq4, hF⟩ := bind_some hF
      refine mw_callV (c := 141) [iv x3] [] C dX12_shared_246 (T_X12_runs (zl Z) (zX Z) x3 _ _ hq4) rfl zn141 zk141 (by decide) rfl wd1124 wd1125 wd1386 wd14 wd1126 hd_X12_runs rfl (by decide) (by decide) (Nat.le_of_ble_eq_true rfl) ⟨Nat.zero_le _, Nat.zero_le _⟩ ?_
      refine mw_lstore [(11, lvv q4.1), (0, rfv (xd (zX Z)) 141), (1, iv x1), (2, iv x2), (3, iv x3), (4, iv x4), (5, iv x5), (6, lvv x6), (8, iv x8)] C dX12_shared_249 (by decide) rfl ?_
      refine mw_lload 0 C dX12_shared_251 rfl ?_
      refine mw_lload 7 C dX12_shared_253 rfl ?_
      obtain ⟨g5, hF⟩ := ck_some hF
      obtain ⟨g6, hF⟩ := ck_some hF
      rcases ite_some hF with ⟨c7, hF⟩ | ⟨c7, hF⟩
      · refine mw_lcmp_gt_t (tgt := 262) C dX12_shared_255 dX12_shared_256 (by decide) g5 g6 c7 ?_
        refine mw_lload 0 C dX12_shared_262 rfl ?_
        refine mw_lstore [(6, lvv q4.1), (11, lvv q4.1), (0, rfv (xd (zX Z)) 141), (1, iv x1), (2, iv x2), (3, iv x3), (4, iv x4), (5, iv x5), (8, iv x8)] C dX12_shared_264 (by decide) rfl ?_
        refine mw_iconst C dX12_shared_266 ?_
        refine mw_istore [(13, iv 0), (6, lvv q4.1), (11, lvv q4.1), (0, rfv (xd (zX Z)) 141), (1, iv x1), (2, iv x2), (3, iv x3), (4, iv x4), (5, iv x5), (8, iv x8)] C dX12_shared_267 (by decide) rfl ?_
        refine mw_sub [3, 4, 5, 6, 7, 8, 1, 9, 0] rfl ?_
        exact T_X12_shared_269 C k103 hk103 20000 x1 x2 x3 x4 x5 q4.1 x8 0 _ _ hF
      · refine mw_lcmp_gt_f (tgt := 262) C dX12_shared_255 dX12_shared_256 (by decide) g5 g6 c7 ?_
        refine mw_goto (tgt := 296) C dX12_shared_259 (by decide) ?_
        refine mw_sub [1, 2, 3, 4, 5, 6, 7, 8] rfl ?_
        exact T_X12_shared_296 C k103 hk103 x1 x2 x3 x4 x5 x6 x8 _ _ hF
    · refine mw_icmp_ge_f (tgt := 244) C dX12_shared_210 (by decide) g1 g2 c3 ?_
      refine mw_aload_n 0 C dX12_shared_213 rfl rfl ?_
      refine mw_get (k := 0) (T := TX12) (v := rfv (xd (zX Z)) 142) C dX12_shared_214 zn141 zk141 (by decide) rfl inX12 (by decide) wd889 rfl (zfv_r rfl zg_141_0) ?_
      refine mw_iconst C dX12_shared_217 ?_
      refine mw_iload 8 C dX12_shared_218 rfl ?_
      obtain ⟨q8, hq8, hF⟩ := bind_some hF
      refine mw_callS [iv 0, iv x11] [rfv (xd (zX Z)) 142] C dX12_shared_220 (T_X12_machineAt (zl Z) (zX Z) 0 x11 _ _ hq8) rfl wd1041 wd1042 wd14 wd1043 hd_X12_machineAt rfl (by decide) (by decide) (Nat.le_of_ble_eq_true rfl) ⟨Nat.zero_le _, Nat.zero_le _⟩ ?_
      refine mw_bipush C dX12_shared_223 bp_11 ?_
      refine mw_iadd C dX12_shared_225 ?_
      refine mw_aload_n 0 C dX12_shared_226 rfl rfl ?_
      refine mw_get (k := 25) (T := TX12) (v := rfv (xd (zX Z)) 151) C dX12_shared_227 zn141 zk141 (by decide) rfl inX12 (by decide) wd914 rfl (zfv_r rfl zg_141_25) ?_
      refine mw_iload 8 C dX12_shared_230 rfl ?_
      obtain ⟨g9, hF⟩ := ck_some hF
      refine mw_iald C dX12_shared_232 zn151 zk151 (by decide) g9 ?_
      obtain ⟨g10, hF⟩ := ck_some hF
      refine mw_i2l C dX12_shared_233 g10 ?_
      refine mw_iload_n 2 C dX12_shared_234 rfl rfl ?_
      obtain ⟨g11, hF⟩ := ck_some hF
      refine mw_i2l C dX12_shared_235 g11 ?_
      refine mw_lmul C dX12_shared_236 ?_
      obtain ⟨g12, hF⟩ := ck_some hF
      obtain ⟨h13, eh13, hF⟩ := nx_some hF
      refine mw_last C dX12_shared_237 zn142 zk142 (by decide) g12 (mw_h eh13 ?_)
      refine mw_iinc 8 [(11, iv (x11 + 1)), (0, rfv (xd (zX Z)) 141), (1, iv x1), (2, iv x2), (3, iv x3), (4, iv x4), (5, iv x5), (6, lvv x6), (8, iv x8)] C dX12_shared_238 rfl (by decide) rfl ?_
      refine mw_goto (tgt := 206) C dX12_shared_241 (by decide) ?_
      refine mw_sub [1, 2, 3, 4, 5, 6, 7, 8, 0] rfl ?_
      exact ih x1 x2 x3 x4 x5 x6 x8 (x11 + 1) _ _ hF
def F_X12_shared_123 (k103 : Int → Int → Int → Int → Int → Int → Int → MH → Option (Int × MH)) : Nat → Int → Int → Int → Int → Int → Int → Int → Int → Int → Int → MH → Option (Int × MH)
  | 0, _, _, _, _, _, _, _, _, _, _, _ => none
  | n + 1, x1, x2, x3, x4, x5, x6, x8, x9, x10, x11, h =>
    ck (in32 x11) <|
    if x11 < 0 then
      ck (in32 x10) <|
      ck (in32 x1) <|
      if x10 ≤ x1 then
        ck (0 ≤ (x4 - 1) ∧ (x4 - 1) < 5) <|
        nx (hup h 151 (x4 - 1).toNat (x1 - x10)) fun h7 =>
        (F_X12_fresh 0 (h7 142 2203) h7).bind fun q8 =>
        F_X12_shared_206 k103 20000 x1 x2 x3 x4 x5 x6 x8 0 q8
      else
        F_X12_shared_296 k103 x1 x2 x3 x4 x5 x6 x8 h
    else
      ck (in32 x9) <|
      ck (in32 (x1 + 1)) <|
      ck ((x1 + 1) ≠ 0) <|
      ck (0 ≤ x11 ∧ x11 < 5) <|
      nx (hup h 151 x11.toNat (Int.tmod x9 (x1 + 1))) fun h13 =>
      nx (x10 + (h13 151 x11.toNat)) fun v14 =>
      ck ((x1 + 1) ≠ 0) <|
      nx (Int.tdiv x9 (x1 + 1)) fun v16 =>
      F_X12_shared_123 k103 n x1 x2 x3 x4 x5 x6 x8 v16 v14 (x11 + (-1)) h13
set_option maxRecDepth 100000 in
theorem T_X12_shared_123 {Z : ZT} (C : Cx Z cX12_shared 14 RX12 5 (some .int)) (k103 : Int → Int → Int → Int → Int → Int → Int → MH → Option (Int × MH)) (hk103 : ∀ (x1 : Int) (x2 : Int) (x3 : Int) (x4 : Int) (x5 : Int) (x6 : Int) (x8 : Int) (h : MH) (t : (Int × MH)), k103 x1 x2 x3 x4 x5 x6 x8 h = some t → MW Z (Qm Z (some (iv t.1)) zN zG t.2 0 0) 14 zN zG h 0 0 103 [(0, rfv (xd (zX Z)) 141), (1, iv x1), (2, iv x2), (3, iv x3), (4, iv x4), (5, iv x5), (6, lvv x6), (8, iv x8)] []) : ∀ (n : Nat) (x1 : Int) (x2 : Int) (x3 : Int) (x4 : Int) (x5 : Int) (x6 : Int) (x8 : Int) (x9 : Int) (x10 : Int) (x11 : Int) (h : MH) (t : (Int × MH)), F_X12_shared_123 k103 n x1 x2 x3 x4 x5 x6 x8 x9 x10 x11 h = some t → MW Z (Qm Z (some (iv t.1)) zN zG t.2 0 0) 14 zN zG h 0 0 123 [(0, rfv (xd (zX Z)) 141), (1, iv x1), (2, iv x2), (3, iv x3), (4, iv x4), (5, iv x5), (6, lvv x6), (8, iv x8), (9, iv x9), (10, iv x10), (11, iv x11)] [] := by
  intro n
  induction n with
  | zero =>
    intros
    rename_i hF
    exact absurd hF (by intro q; cases q)
  | succ n ih =>
    intro x1 x2 x3 x4 x5 x6 x8 x9 x10 x11 h t hF
    rw [F_X12_shared_123] at hF
    refine mw_iload 10 C dX12_shared_123 rfl ?_
    obtain ⟨g1, hF⟩ := ck_some hF
    rcases ite_some hF with ⟨c2, hF⟩ | ⟨c2, hF⟩
    · refine mw_if_lt_t (tgt := 167) C dX12_shared_125 (by decide) g1 c2 ?_
      refine mw_iload 9 C dX12_shared_167 rfl ?_
      refine mw_iload_n 1 C dX12_shared_169 rfl rfl ?_
      obtain ⟨g3, hF⟩ := ck_some hF
      obtain ⟨g4, hF⟩ := ck_some hF
      rcases ite_some hF with ⟨c5, hF⟩ | ⟨c5, hF⟩
      · refine mw_icmp_le_t (tgt := 176) C dX12_shared_170 (by decide) g3 g4 c5 ?_
        refine mw_aload_n 0 C dX12_shared_176 rfl rfl ?_
        refine mw_get (k := 25) (T := TX12) (v := rfv (xd (zX Z)) 151) C dX12_shared_177 zn141 zk141 (by decide) rfl inX12 (by decide) wd914 rfl (zfv_r rfl zg_141_25) ?_
        refine mw_iload 4 C dX12_shared_180 rfl ?_
        refine mw_iconst C dX12_shared_182 ?_
        refine mw_isub C dX12_shared_183 ?_
        refine mw_iload_n 1 C dX12_shared_184 rfl rfl ?_
        refine mw_iload 9 C dX12_shared_185 rfl ?_
        refine mw_isub C dX12_shared_187 ?_
        obtain ⟨g6, hF⟩ := ck_some hF
        obtain ⟨h7, eh7, hF⟩ := nx_some hF
        refine mw_iast C dX12_shared_188 zn151 zk151 (by decide) g6 (mw_h eh7 ?_)
        refine mw_aload_n 0 C dX12_shared_189 rfl rfl ?_
        refine mw_iconst C dX12_shared_190 ?_
        refine mw_aload_n 0 C dX12_shared_191 rfl rfl ?_
        refine mw_get (k := 0) (T := TX12) (v := rfv (xd (zX Z)) 142) C dX12_shared_192 zn141 zk141 (by decide) rfl inX12 (by decide) wd889 rfl (zfv_r rfl zg_141_0) ?_
        refine mw_sipush C dX12_shared_195 sp_2203 ?_
        refine mw_lald C dX12_shared_198 zn142 zk142 (by decide) (by decide) ?_
        refine mw_l2i C dX12_shared_199 ?_
        obtain ⟨q8, hq8, hF⟩ := bind_some hF
        refine mw_callV (c := 141) [iv 0, iv (h7 142 2203)] [] C dX12_shared_200 (T_X12_fresh (zl Z) (zX Z) 0 (h7 142 2203) _ _ hq8) rfl zn141 zk141 (by decide) rfl wd1066 wd1067 wd1378 wd14 wd1068 hd_X12_fresh rfl (by decide) (by decide) (Nat.le_of_ble_eq_true rfl) ⟨Nat.zero_le _, Nat.zero_le _⟩ ?_
        refine mw_iconst C dX12_shared_203 ?_
        refine mw_istore [(11, iv 0), (0, rfv (xd (zX Z)) 141), (1, iv x1), (2, iv x2), (3, iv x3), (4, iv x4), (5, iv x5), (6, lvv x6), (8, iv x8), (9, iv x9), (10, iv x10)] C dX12_shared_204 (by decide) rfl ?_
        refine mw_sub [1, 2, 3, 4, 5, 6, 7, 8, 0] rfl ?_
        exact T_X12_shared_206 C k103 hk103 20000 x1 x2 x3 x4 x5 x6 x8 0 _ _ hF
      · refine mw_icmp_le_f (tgt := 176) C dX12_shared_170 (by decide) g3 g4 c5 ?_
        refine mw_goto (tgt := 296) C dX12_shared_173 (by decide) ?_
        refine mw_sub [0, 1, 2, 3, 4, 5, 6, 7] rfl ?_
        exact T_X12_shared_296 C k103 hk103 x1 x2 x3 x4 x5 x6 x8 _ _ hF
    · refine mw_if_lt_f (tgt := 167) C dX12_shared_125 (by decide) g1 c2 ?_
      refine mw_aload_n 0 C dX12_shared_128 rfl rfl ?_
      refine mw_get (k := 25) (T := TX12) (v := rfv (xd (zX Z)) 151) C dX12_shared_129 zn141 zk141 (by decide) rfl inX12 (by decide) wd914 rfl (zfv_r rfl zg_141_25) ?_
      refine mw_iload 10 C dX12_shared_132 rfl ?_
      refine mw_iload 8 C dX12_shared_134 rfl ?_
      refine mw_iload_n 1 C dX12_shared_136 rfl rfl ?_
      refine mw_iconst C dX12_shared_137 ?_
      refine mw_iadd C dX12_shared_138 ?_
      obtain ⟨g9, hF⟩ := ck_some hF
      obtain ⟨g10, hF⟩ := ck_some hF
      obtain ⟨g11, hF⟩ := ck_some hF
      refine mw_irem C dX12_shared_139 g9 g10 g11 ?_
      obtain ⟨g12, hF⟩ := ck_some hF
      obtain ⟨h13, eh13, hF⟩ := nx_some hF
      refine mw_iast C dX12_shared_140 zn151 zk151 (by decide) g12 (mw_h eh13 ?_)
      refine mw_iload 9 C dX12_shared_141 rfl ?_
      refine mw_aload_n 0 C dX12_shared_143 rfl rfl ?_
      refine mw_get (k := 25) (T := TX12) (v := rfv (xd (zX Z)) 151) C dX12_shared_144 zn141 zk141 (by decide) rfl inX12 (by decide) wd914 rfl (zfv_r rfl zg_141_25) ?_
      refine mw_iload 10 C dX12_shared_147 rfl ?_
      refine mw_iald C dX12_shared_149 zn151 zk151 (by decide) g12 ?_
      refine mw_iadd C dX12_shared_150 ?_
      obtain ⟨v14, ev14, hF⟩ := nx_some hF
      refine mw_ti ev14 ?_
      refine mw_istore [(10, iv v14), (0, rfv (xd (zX Z)) 141), (1, iv x1), (2, iv x2), (3, iv x3), (4, iv x4), (5, iv x5), (6, lvv x6), (8, iv x8), (9, iv x9), (11, iv x11)] C dX12_shared_151 (by decide) rfl ?_
      refine mw_iload 9 C dX12_shared_153 rfl ?_
      refine mw_iload_n 2 C dX12_shared_155 rfl rfl ?_
      refine mw_iconst C dX12_shared_156 ?_
      refine mw_iadd C dX12_shared_157 ?_
      obtain ⟨g15, hF⟩ := ck_some hF
      refine mw_idiv C dX12_shared_158 g9 g10 g15 ?_
      obtain ⟨v16, ev16, hF⟩ := nx_some hF
      refine mw_ti ev16 ?_
      refine mw_istore [(9, iv v16), (10, iv v14), (0, rfv (xd (zX Z)) 141), (1, iv x1), (2, iv x2), (3, iv x3), (4, iv x4), (5, iv x5), (6, lvv x6), (8, iv x8), (11, iv x11)] C dX12_shared_159 (by decide) rfl ?_
      refine mw_iinc 10 [(11, iv (x11 + (-1))), (9, iv v16), (10, iv v14), (0, rfv (xd (zX Z)) 141), (1, iv x1), (2, iv x2), (3, iv x3), (4, iv x4), (5, iv x5), (6, lvv x6), (8, iv x8)] C dX12_shared_161 rfl (by decide) rfl ?_
      refine mw_goto (tgt := 123) C dX12_shared_164 (by decide) ?_
      refine mw_sub [3, 4, 5, 6, 7, 8, 9, 10, 1, 2, 0] rfl ?_
      exact ih x1 x2 x3 x4 x5 x6 x8 v16 v14 (x11 + (-1)) _ _ hF
def F_X12_shared_103 : Nat → Int → Int → Int → Int → Int → Int → Int → MH → Option (Int × MH)
  | 0, _, _, _, _, _, _, _, _ => none
  | n + 1, x1, x2, x3, x4, x5, x6, x8, h =>
    ck (in32 x8) <|
    ck (in32 x5) <|
    if x5 ≤ x8 then
      (F_X12_copies 2200 0 h).bind fun q4 =>
      nx (hup q4 141 27 x4) fun h5 =>
      (F_X12_gives x6 h5).bind fun q6 =>
      some (q6.1, q6.2)
    else
      nx (x4 - 2) fun v7 =>
      F_X12_shared_123 (F_X12_shared_103 n) 20000 x1 x2 x3 x4 x5 x6 x8 x8 0 v7 h
set_option maxRecDepth 100000 in
theorem T_X12_shared_103 {Z : ZT} (C : Cx Z cX12_shared 14 RX12 5 (some .int)) : ∀ (n : Nat) (x1 : Int) (x2 : Int) (x3 : Int) (x4 : Int) (x5 : Int) (x6 : Int) (x8 : Int) (h : MH) (t : (Int × MH)), F_X12_shared_103 n x1 x2 x3 x4 x5 x6 x8 h = some t → MW Z (Qm Z (some (iv t.1)) zN zG t.2 0 0) 14 zN zG h 0 0 103 [(0, rfv (xd (zX Z)) 141), (1, iv x1), (2, iv x2), (3, iv x3), (4, iv x4), (5, iv x5), (6, lvv x6), (8, iv x8)] [] := by
  intro n
  induction n with
  | zero =>
    intros
    rename_i hF
    exact absurd hF (by intro q; cases q)
  | succ n ih =>
    intro x1 x2 x3 x4 x5 x6 x8 h t hF
    rw [F_X12_shared_103] at hF
    refine mw_iload 7 C dX12_shared_103 rfl ?_
    refine mw_iload 5 C dX12_shared_105 rfl ?_
    obtain ⟨g1, hF⟩ := ck_some hF
    obtain ⟨g2, hF⟩ := ck_some hF
    rcases ite_some hF with ⟨c3, hF⟩ | ⟨c3, hF⟩
    · refine mw_icmp_ge_t (tgt := 302) C dX12_shared_107 (by decide) g1 g2 c3 ?_
      refine mw_aload_n 0 C dX12_shared_302 rfl rfl ?_
      refine mw_sipush C dX12_shared_303 sp_2200 ?_
      refine mw_iconst C dX12_shared_306 ?_
      obtain ⟨q4, hq4, hF⟩ := bind_some hF
      refine mw_callV (c := 141) [iv 2200, iv 0] [] C dX12_shared_307 (T_X12_copies (zl Z) (zX Z) 2200 0 _ _ hq4) rfl zn141 zk141 (by decide) rfl wd1171 wd1172 wd1393 wd14 wd1173 hd_X12_copies rfl (by decide) (by decide) (Nat.le_of_ble_eq_true rfl) ⟨Nat.zero_le _, Nat.zero_le _⟩ ?_
      refine mw_aload_n 0 C dX12_shared_310 rfl rfl ?_
      refine mw_iload 4 C dX12_shared_311 rfl ?_
      obtain ⟨h5, eh5, hF⟩ := nx_some hF
      refine mw_put (k := 27) (T := TX12) (ty0 := tyX12) (x := x4) C dX12_shared_313 zn141 zk141 (by decide) rfl inX12 tyX12_ok nmX12 (by decide) wd916 rfl rfl rfl rfl rfl (by decide) (mw_h eh5 ?_)
      refine mw_aload_n 0 C dX12_shared_316 rfl rfl ?_
      refine mw_lload 6 C dX12_shared_317 rfl ?_
      obtain ⟨q6, hq6, hF⟩ := bind_some hF
      refine mw_callV (c := 141) [lvv x6] [] C dX12_shared_319 (T_X12_gives (zl Z) (zX Z) x6 _ _ hq6) rfl zn141 zk141 (by decide) rfl wd1069 wd1070 wd1379 wd14 wd1071 hd_X12_gives rfl (by decide) (by decide) (Nat.le_of_ble_eq_true rfl) ⟨Nat.zero_le _, Nat.zero_le _⟩ ?_
      cases hF
      exact mw_iret C dX12_shared_322 rfl rfl
    · refine mw_icmp_ge_f (tgt := 302) C dX12_shared_107 (by decide) g1 g2 c3 ?_
      refine mw_iload 7 C dX12_shared_110 rfl ?_
      refine mw_istore [(9, iv x8), (0, rfv (xd (zX Z)) 141), (1, iv x1), (2, iv x2), (3, iv x3), (4, iv x4), (5, iv x5), (6, lvv x6), (8, iv x8)] C dX12_shared_112 (by decide) rfl ?_
      refine mw_iconst C dX12_shared_114 ?_
      refine mw_istore [(10, iv 0), (9, iv x8), (0, rfv (xd (zX Z)) 141), (1, iv x1), (2, iv x2), (3, iv x3), (4, iv x4), (5, iv x5), (6, lvv x6), (8, iv x8)] C dX12_shared_115 (by decide) rfl ?_
      refine mw_iload 6 C dX12_shared_117 rfl ?_
      refine mw_iconst C dX12_shared_119 ?_
      refine mw_isub C dX12_shared_120 ?_
      obtain ⟨v7, ev7, hF⟩ := nx_some hF
      refine mw_ti ev7 ?_
      refine mw_istore [(11, iv v7), (10, iv 0), (9, iv x8), (0, rfv (xd (zX Z)) 141), (1, iv x1), (2, iv x2), (3, iv x3), (4, iv x4), (5, iv x5), (6, lvv x6), (8, iv x8)] C dX12_shared_121 (by decide) rfl ?_
      refine mw_sub [3, 4, 5, 6, 7, 8, 9, 10, 2, 1, 0] rfl ?_
      exact T_X12_shared_123 C (F_X12_shared_103 n) ih 20000 x1 x2 x3 x4 x5 x6 x8 x8 0 v7 _ _ hF
def F_X12_shared_74 : Nat → Int → Int → Int → Int → Int → Int → MH → Option (Int × MH)
  | 0, _, _, _, _, _, _, _ => none
  | n + 1, x1, x2, x3, x4, x5, x6, h =>
    ck (in32 x6) <|
    ck (in32 x4) <|
    if x4 ≤ x6 then
      F_X12_shared_103 20000 x1 x2 x3 x4 x5 (-1) 0 h
    else
      nx (x5 * (x1 + 1)) fun v4 =>
      F_X12_shared_74 n x1 x2 x3 x4 v4 (x6 + 1) h
set_option maxRecDepth 100000 in
theorem T_X12_shared_74 {Z : ZT} (C : Cx Z cX12_shared 14 RX12 5 (some .int)) : ∀ (n : Nat) (x1 : Int) (x2 : Int) (x3 : Int) (x4 : Int) (x5 : Int) (x6 : Int) (h : MH) (t : (Int × MH)), F_X12_shared_74 n x1 x2 x3 x4 x5 x6 h = some t → MW Z (Qm Z (some (iv t.1)) zN zG t.2 0 0) 14 zN zG h 0 0 74 [(0, rfv (xd (zX Z)) 141), (1, iv x1), (2, iv x2), (3, iv x3), (4, iv x4), (5, iv x5), (6, iv x6)] [] := by
  intro n
  induction n with
  | zero =>
    intros
    rename_i hF
    exact absurd hF (by intro q; cases q)
  | succ n ih =>
    intro x1 x2 x3 x4 x5 x6 h t hF
    rw [F_X12_shared_74] at hF
    refine mw_iload 6 C dX12_shared_74 rfl ?_
    refine mw_iload 4 C dX12_shared_76 rfl ?_
    obtain ⟨g1, hF⟩ := ck_some hF
    obtain ⟨g2, hF⟩ := ck_some hF
    rcases ite_some hF with ⟨c3, hF⟩ | ⟨c3, hF⟩
    · refine mw_icmp_ge_t (tgt := 95) C dX12_shared_78 (by decide) g1 g2 c3 ?_
      refine mw_ldc2 (a := (-1)) C dX12_shared_95 wd977 rfl ?_
      refine mw_lstore [(6, lvv (-1)), (0, rfv (xd (zX Z)) 141), (1, iv x1), (2, iv x2), (3, iv x3), (4, iv x4), (5, iv x5)] C dX12_shared_98 (by decide) rfl ?_
      refine mw_iconst C dX12_shared_100 ?_
      refine mw_istore [(8, iv 0), (6, lvv (-1)), (0, rfv (xd (zX Z)) 141), (1, iv x1), (2, iv x2), (3, iv x3), (4, iv x4), (5, iv x5)] C dX12_shared_101 (by decide) rfl ?_
      refine mw_sub [2, 3, 4, 5, 6, 7, 1, 0] rfl ?_
      exact T_X12_shared_103 C 20000 x1 x2 x3 x4 x5 (-1) 0 _ _ hF
    · refine mw_icmp_ge_f (tgt := 95) C dX12_shared_78 (by decide) g1 g2 c3 ?_
      refine mw_iload 5 C dX12_shared_81 rfl ?_
      refine mw_iload_n 1 C dX12_shared_83 rfl rfl ?_
      refine mw_iconst C dX12_shared_84 ?_
      refine mw_iadd C dX12_shared_85 ?_
      refine mw_imul C dX12_shared_86 ?_
      obtain ⟨v4, ev4, hF⟩ := nx_some hF
      refine mw_ti ev4 ?_
      refine mw_istore [(5, iv v4), (0, rfv (xd (zX Z)) 141), (1, iv x1), (2, iv x2), (3, iv x3), (4, iv x4), (6, iv x6)] C dX12_shared_87 (by decide) rfl ?_
      refine mw_iinc 6 [(6, iv (x6 + 1)), (5, iv v4), (0, rfv (xd (zX Z)) 141), (1, iv x1), (2, iv x2), (3, iv x3), (4, iv x4)] C dX12_shared_89 rfl (by decide) rfl ?_
      refine mw_goto (tgt := 74) C dX12_shared_92 (by decide) ?_
      refine mw_sub [2, 3, 4, 5, 6, 1, 0] rfl ?_
      exact ih x1 x2 x3 x4 v4 (x6 + 1) _ _ hF
def F_X12_shared_0 (x1 : Int) (x2 : Int) (x3 : Int) (h : MH) : Option (Int × MH) :=
  ck (in32 x1) <|
  (F_X12_isFrom x1 0 8 h).bind fun q2 =>
  ck (in32 q2.1) <|
  if q2.1 = 0 then
    F_X12_shared_36 q2.2
  else
    ck (in32 x2) <|
    (F_X12_isFrom x2 1 99 q2.2).bind fun q6 =>
    ck (in32 q6.1) <|
    if q6.1 = 0 then
      F_X12_shared_36 q6.2
    else
      ck (in32 x3) <|
      (F_X12_isFrom x3 1 200 q6.2).bind fun q10 =>
      ck (in32 q10.1) <|
      if q10.1 ≠ 0 then
        (F_X12_tables q10.2).bind fun q13 =>
        ck (in32 q13.1) <|
        if q13.1 ≠ 0 then
          (F_X12_copies 0 2200 q13.2).bind fun q16 =>
          F_X12_shared_74 20000 x1 x2 x3 q13.1 1 1 q16
        else
          (F_X12_refuse 6 q13.2).bind fun q17 =>
          some (q17.1, q17.2)
      else
        F_X12_shared_36 q10.2
set_option maxRecDepth 100000 in
theorem T_X12_shared_0 {Z : ZT} (C : Cx Z cX12_shared 14 RX12 5 (some .int)) (x1 : Int) (x2 : Int) (x3 : Int) (h : MH) (t : (Int × MH)) (hF : F_X12_shared_0 x1 x2 x3 h = some t) : MW Z (Qm Z (some (iv t.1)) zN zG t.2 0 0) 14 zN zG h 0 0 0 [(0, rfv (xd (zX Z)) 141), (1, iv x1), (2, iv x2), (3, iv x3)] [] := by
  unfold F_X12_shared_0 at hF
  refine mw_iload_n 1 C dX12_shared_0 rfl rfl ?_
  obtain ⟨g1, hF⟩ := ck_some hF
  refine mw_i2l C dX12_shared_1 g1 ?_
  refine mw_lconst (a := 0) C dX12_shared_2 lc_0 ?_
  refine mw_ldc2 (a := 8) C dX12_shared_3 wd1139 rfl ?_
  obtain ⟨q2, hq2, hF⟩ := bind_some hF
  refine mw_callS [lvv x1, lvv 0, lvv 8] [] C dX12_shared_6 (T_X12_isFrom (zl Z) (zX Z) x1 0 8 _ _ hq2) rfl wd1116 wd1117 wd14 wd1118 hd_X12_isFrom rfl (by decide) (by decide) (Nat.le_of_ble_eq_true rfl) ⟨Nat.zero_le _, Nat.zero_le _⟩ ?_
  obtain ⟨g3, hF⟩ := ck_some hF
  rcases ite_some hF with ⟨c4, hF⟩ | ⟨c4, hF⟩
  · refine mw_if_eq_t (tgt := 36) C dX12_shared_9 (by decide) g3 c4 ?_
    refine mw_sub [0] rfl ?_
    exact T_X12_shared_36 C _ _ hF
  · refine mw_if_eq_f (tgt := 36) C dX12_shared_9 (by decide) g3 c4 ?_
    refine mw_iload_n 2 C dX12_shared_12 rfl rfl ?_
    obtain ⟨g5, hF⟩ := ck_some hF
    refine mw_i2l C dX12_shared_13 g5 ?_
    refine mw_lconst (a := 1) C dX12_shared_14 lc_1 ?_
    refine mw_ldc2 (a := 99) C dX12_shared_15 wd1167 rfl ?_
    obtain ⟨q6, hq6, hF⟩ := bind_some hF
    refine mw_callS [lvv x2, lvv 1, lvv 99] [] C dX12_shared_18 (T_X12_isFrom (zl Z) (zX Z) x2 1 99 _ _ hq6) rfl wd1116 wd1117 wd14 wd1118 hd_X12_isFrom rfl (by decide) (by decide) (Nat.le_of_ble_eq_true rfl) ⟨Nat.zero_le _, Nat.zero_le _⟩ ?_
    obtain ⟨g7, hF⟩ := ck_some hF
    rcases ite_some hF with ⟨c8, hF⟩ | ⟨c8, hF⟩
    · refine mw_if_eq_t (tgt := 36) C dX12_shared_21 (by decide) g7 c8 ?_
      refine mw_sub [0] rfl ?_
      exact T_X12_shared_36 C _ _ hF
    · refine mw_if_eq_f (tgt := 36) C dX12_shared_21 (by decide) g7 c8 ?_
      refine mw_iload_n 3 C dX12_shared_24 rfl rfl ?_
      obtain ⟨g9, hF⟩ := ck_some hF
      refine mw_i2l C dX12_shared_25 g9 ?_
      refine mw_lconst (a := 1) C dX12_shared_26 lc_1 ?_
      refine mw_ldc2 (a := 200) C dX12_shared_27 wd1193 rfl ?_
      obtain ⟨q10, hq10, hF⟩ := bind_some hF
      refine mw_callS [lvv x3, lvv 1, lvv 200] [] C dX12_shared_30 (T_X12_isFrom (zl Z) (zX Z) x3 1 200 _ _ hq10) rfl wd1116 wd1117 wd14 wd1118 hd_X12_isFrom rfl (by decide) (by decide) (Nat.le_of_ble_eq_true rfl) ⟨Nat.zero_le _, Nat.zero_le _⟩ ?_
      obtain ⟨g11, hF⟩ := ck_some hF
      rcases ite_some hF with ⟨c12, hF⟩ | ⟨c12, hF⟩
      · refine mw_if_ne_t (tgt := 42) C dX12_shared_33 (by decide) g11 c12 ?_
        refine mw_aload_n 0 C dX12_shared_42 rfl rfl ?_
        obtain ⟨q13, hq13, hF⟩ := bind_some hF
        refine mw_callV (c := 141) [] [] C dX12_shared_43 (T_X12_tables (zl Z) (zX Z) _ _ hq13) rfl zn141 zk141 (by decide) rfl wd1100 wd1101 wd1384 wd14 wd1102 hd_X12_tables rfl (by decide) (by decide) (Nat.le_of_ble_eq_true rfl) ⟨Nat.zero_le _, Nat.zero_le _⟩ ?_
        refine mw_istore [(4, iv q13.1), (0, rfv (xd (zX Z)) 141), (1, iv x1), (2, iv x2), (3, iv x3)] C dX12_shared_46 (by decide) rfl ?_
        refine mw_iload 0 C dX12_shared_48 rfl ?_
        obtain ⟨g14, hF⟩ := ck_some hF
        rcases ite_some hF with ⟨c15, hF⟩ | ⟨c15, hF⟩
        · refine mw_if_ne_t (tgt := 60) C dX12_shared_50 (by decide) g14 c15 ?_
          refine mw_aload_n 1 C dX12_shared_60 rfl rfl ?_
          refine mw_iconst C dX12_shared_61 ?_
          refine mw_sipush C dX12_shared_62 sp_2200 ?_
          obtain ⟨q16, hq16, hF⟩ := bind_some hF
          refine mw_callV (c := 141) [iv 0, iv 2200] [] C dX12_shared_65 (T_X12_copies (zl Z) (zX Z) 0 2200 _ _ hq16) rfl zn141 zk141 (by decide) rfl wd1171 wd1172 wd1393 wd14 wd1173 hd_X12_copies rfl (by decide) (by decide) (Nat.le_of_ble_eq_true rfl) ⟨Nat.zero_le _, Nat.zero_le _⟩ ?_
          refine mw_iconst C dX12_shared_68 ?_
          refine mw_istore [(5, iv 1), (4, iv q13.1), (0, rfv (xd (zX Z)) 141), (1, iv x1), (2, iv x2), (3, iv x3)] C dX12_shared_69 (by decide) rfl ?_
          refine mw_iconst C dX12_shared_71 ?_
          refine mw_istore [(6, iv 1), (5, iv 1), (4, iv q13.1), (0, rfv (xd (zX Z)) 141), (1, iv x1), (2, iv x2), (3, iv x3)] C dX12_shared_72 (by decide) rfl ?_
          refine mw_sub [3, 4, 5, 6, 2, 1, 0] rfl ?_
          exact T_X12_shared_74 C 20000 x1 x2 x3 q13.1 1 1 _ _ hF
        · refine mw_if_ne_f (tgt := 60) C dX12_shared_50 (by decide) g14 c15 ?_
          refine mw_aload_n 1 C dX12_shared_53 rfl rfl ?_
          refine mw_bipush C dX12_shared_54 bp_6 ?_
          obtain ⟨q17, hq17, hF⟩ := bind_some hF
          refine mw_callV (c := 141) [iv 6] [] C dX12_shared_56 (T_X12_refuse (zl Z) (zX Z) 6 _ _ hq17) rfl zn141 zk141 (by decide) rfl wd997 wd998 wd1360 wd14 wd999 hd_X12_refuse rfl (by decide) (by decide) (Nat.le_of_ble_eq_true rfl) ⟨Nat.zero_le _, Nat.zero_le _⟩ ?_
          cases hF
          exact mw_iret C dX12_shared_59 rfl rfl
      · refine mw_if_ne_f (tgt := 42) C dX12_shared_33 (by decide) g11 c12 ?_
        refine mw_sub [0] rfl ?_
        exact T_X12_shared_36 C _ _ hF
def F_X12_shared (x1 : Int) (x2 : Int) (x3 : Int) (h : MH) : Option (Int × MH) := F_X12_shared_0 x1 x2 x3 h
theorem T_X12_shared (l : Launch) (X : XT) (x1 : Int) (x2 : Int) (x3 : Int) (h : MH) (t : (Int × MH)) (hF : F_X12_shared x1 x2 x3 h = some t) : Ct l X yX12_shared cX12_shared 14 (some .int) 5 [rfv (xd X) 141, iv x1, iv x2, iv x3] zN zG h (some (iv t.1)) zN zG t.2 0 0 := by
  refine Ct.head (by decide) (Nat.le_of_ble_eq_true rfl) (fun Z hX hl _ _ _ C => ?_)
  subst hX
  subst hl
  exact (T_X12_shared_0 C x1 x2 x3 _ _ hF)
/-! BottleLineModel.unit(I)I -/
def F_X12_unit_26 (h : MH) : Option (Int × MH) :=
  (F_X12_refuse 1 h).bind fun q1 =>
  some (q1.1, q1.2)
set_option maxRecDepth 100000 in
theorem T_X12_unit_26 {Z : ZT} (C : Cx Z cX12_unit 2 RX12 2 (some .int)) (h : MH) (t : (Int × MH)) (hF : F_X12_unit_26 h = some t) : MW Z (Qm Z (some (iv t.1)) zN zG t.2 0 0) 2 zN zG h 0 0 26 [(0, rfv (xd (zX Z)) 141)] [] := by
  unfold F_X12_unit_26 at hF
  refine mw_aload_n 0 C dX12_unit_26 rfl rfl ?_
  refine mw_iconst C dX12_unit_27 ?_
  obtain ⟨q1, hq1, hF⟩ := bind_some hF
  refine mw_callV (c := 141) [iv 1] [] C dX12_unit_28 (T_X12_refuse (zl Z) (zX Z) 1 _ _ hq1) rfl zn141 zk141 (by decide) rfl wd997 wd998 wd1360 wd14 wd999 hd_X12_refuse rfl (by decide) (by decide) (Nat.le_of_ble_eq_true rfl) ⟨Nat.zero_le _, Nat.zero_le _⟩ ?_
  refine mw_goto (tgt := 45) C dX12_unit_31 (by decide) ?_
  cases hF
  exact mw_iret C dX12_unit_45 rfl rfl
def F_X12_unit_0 (x1 : Int) (h : MH) : Option (Int × MH) :=
  ck (in32 (h 141 27)) <|
  if (h 141 27) ≠ 0 then
    ck (in32 x1) <|
    if x1 < 0 then
      F_X12_unit_26 h
    else
      if x1 < (h 141 27) then
        ck (0 ≤ x1 ∧ x1 < 5) <|
        ck (in32 (h 152 x1.toNat)) <|
        (F_X12_gives (h 152 x1.toNat) h).bind fun q8 =>
        some (q8.1, q8.2)
      else
        F_X12_unit_26 h
  else
    (F_X12_refuse 6 h).bind fun q9 =>
    some (q9.1, q9.2)
set_option maxRecDepth 100000 in
theorem T_X12_unit_0 {Z : ZT} (C : Cx Z cX12_unit 2 RX12 2 (some .int)) (x1 : Int) (h : MH) (t : (Int × MH)) (hF : F_X12_unit_0 x1 h = some t) : MW Z (Qm Z (some (iv t.1)) zN zG t.2 0 0) 2 zN zG h 0 0 0 [(0, rfv (xd (zX Z)) 141), (1, iv x1)] [] := by
  unfold F_X12_unit_0 at hF
  refine mw_aload_n 0 C dX12_unit_0 rfl rfl ?_
  refine mw_get (k := 27) (T := TX12) (v := iv (h 141 27)) C dX12_unit_1 zn141 zk141 (by decide) rfl inX12 (by decide) wd916 rfl rfl ?_
  obtain ⟨g1, hF⟩ := ck_some hF
  rcases ite_some hF with ⟨c2, hF⟩ | ⟨c2, hF⟩
  · refine mw_if_ne_t (tgt := 14) C dX12_unit_4 (by decide) g1 c2 ?_
    refine mw_iload_n 1 C dX12_unit_14 rfl rfl ?_
    obtain ⟨g3, hF⟩ := ck_some hF
    rcases ite_some hF with ⟨c4, hF⟩ | ⟨c4, hF⟩
    · refine mw_if_lt_t (tgt := 26) C dX12_unit_15 (by decide) g3 c4 ?_
      refine mw_sub [0] rfl ?_
      exact T_X12_unit_26 C _ _ hF
    · refine mw_if_lt_f (tgt := 26) C dX12_unit_15 (by decide) g3 c4 ?_
      refine mw_iload_n 1 C dX12_unit_18 rfl rfl ?_
      refine mw_aload_n 0 C dX12_unit_19 rfl rfl ?_
      refine mw_get (k := 27) (T := TX12) (v := iv (h 141 27)) C dX12_unit_20 zn141 zk141 (by decide) rfl inX12 (by decide) wd916 rfl rfl ?_
      rcases ite_some hF with ⟨c5, hF⟩ | ⟨c5, hF⟩
      · refine mw_icmp_lt_t (tgt := 34) C dX12_unit_23 (by decide) g3 g1 c5 ?_
        refine mw_aload_n 0 C dX12_unit_34 rfl rfl ?_
        refine mw_aload_n 0 C dX12_unit_35 rfl rfl ?_
        refine mw_get (k := 26) (T := TX12) (v := rfv (xd (zX Z)) 152) C dX12_unit_36 zn141 zk141 (by decide) rfl inX12 (by decide) wd915 rfl (zfv_r rfl zg_141_26) ?_
        refine mw_iload_n 1 C dX12_unit_39 rfl rfl ?_
        obtain ⟨g6, hF⟩ := ck_some hF
        refine mw_iald C dX12_unit_40 zn152 zk152 (by decide) g6 ?_
        obtain ⟨g7, hF⟩ := ck_some hF
        refine mw_i2l C dX12_unit_41 g7 ?_
        obtain ⟨q8, hq8, hF⟩ := bind_some hF
        refine mw_callV (c := 141) [lvv (h 152 x1.toNat)] [] C dX12_unit_42 (T_X12_gives (zl Z) (zX Z) (h 152 x1.toNat) _ _ hq8) rfl zn141 zk141 (by decide) rfl wd1069 wd1070 wd1379 wd14 wd1071 hd_X12_gives rfl (by decide) (by decide) (Nat.le_of_ble_eq_true rfl) ⟨Nat.zero_le _, Nat.zero_le _⟩ ?_
        cases hF
        exact mw_iret C dX12_unit_45 rfl rfl
      · refine mw_icmp_lt_f (tgt := 34) C dX12_unit_23 (by decide) g3 g1 c5 ?_
        refine mw_sub [0] rfl ?_
        exact T_X12_unit_26 C _ _ hF
  · refine mw_if_ne_f (tgt := 14) C dX12_unit_4 (by decide) g1 c2 ?_
    refine mw_aload_n 0 C dX12_unit_7 rfl rfl ?_
    refine mw_bipush C dX12_unit_8 bp_6 ?_
    obtain ⟨q9, hq9, hF⟩ := bind_some hF
    refine mw_callV (c := 141) [iv 6] [] C dX12_unit_10 (T_X12_refuse (zl Z) (zX Z) 6 _ _ hq9) rfl zn141 zk141 (by decide) rfl wd997 wd998 wd1360 wd14 wd999 hd_X12_refuse rfl (by decide) (by decide) (Nat.le_of_ble_eq_true rfl) ⟨Nat.zero_le _, Nat.zero_le _⟩ ?_
    cases hF
    exact mw_iret C dX12_unit_13 rfl rfl
def F_X12_unit (x1 : Int) (h : MH) : Option (Int × MH) := F_X12_unit_0 x1 h
theorem T_X12_unit (l : Launch) (X : XT) (x1 : Int) (h : MH) (t : (Int × MH)) (hF : F_X12_unit x1 h = some t) : Ct l X yX12_unit cX12_unit 2 (some .int) 2 [rfv (xd X) 141, iv x1] zN zG h (some (iv t.1)) zN zG t.2 0 0 := by
  refine Ct.head (by decide) (Nat.le_of_ble_eq_true rfl) (fun Z hX hl _ _ _ C => ?_)
  subst hX
  subst hl
  exact (T_X12_unit_0 C x1 _ _ hF)
/-! BottleLineModel.goes(I)V -/
def F_X12_goes_24 (x2 : Int) (s1 : Int) (h : MH) : Option MH :=
  ck (s1 = 0 ∨ s1 = 1) <|
  nx (hup h 141 32 s1) fun h2 =>
  (F_X12_runs x2 h2).bind fun q3 =>
  nx (hup q3.2 141 31 ((h2 141 31) + q3.1)) fun h4 =>
  nx (hup h4 141 29 ((h4 141 29) + x2)) fun h5 =>
  some h5
set_option maxRecDepth 100000 in
theorem T_X12_goes_24 {Z : ZT} (C : Cx Z cX12_goes 3 RX12 5 none) (x2 : Int) (s1 : Int) (h : MH) (t : MH) (hF : F_X12_goes_24 x2 s1 h = some t) : MW Z (Qm Z none zN zG t 0 0) 3 zN zG h 0 0 24 [(0, rfv (xd (zX Z)) 141), (2, iv x2)] [iv s1, rfv (xd (zX Z)) 141] := by
  unfold F_X12_goes_24 at hF
  obtain ⟨g1, hF⟩ := ck_some hF
  obtain ⟨h2, eh2, hF⟩ := nx_some hF
  refine mw_put (k := 32) (T := TX12) (ty0 := tyX12) (x := s1) C dX12_goes_24 zn141 zk141 (by decide) rfl inX12 tyX12_ok nmX12 (by decide) wd921 rfl rfl (nz_n g1) (nz_f g1) rfl (by decide) (mw_h eh2 ?_)
  refine mw_aload_n 0 C dX12_goes_27 rfl rfl ?_
  refine mw_dup C dX12_goes_28 rfl ?_
  refine mw_get (k := 31) (T := TX12) (v := lvv (h2 141 31)) C dX12_goes_29 zn141 zk141 (by decide) rfl inX12 (by decide) wd920 rfl rfl ?_
  refine mw_aload_n 0 C dX12_goes_32 rfl rfl ?_
  refine mw_iload_n 1 C dX12_goes_33 rfl rfl ?_
  obtain ⟨q3, hq3, hF⟩ := bind_some hF
  refine mw_callV (c := 141) [iv x2] [lvv (h2 141 31), rfv (xd (zX Z)) 141] C dX12_goes_34 (T_X12_runs (zl Z) (zX Z) x2 _ _ hq3) rfl zn141 zk141 (by decide) rfl wd1124 wd1125 wd1386 wd14 wd1126 hd_X12_runs rfl (by decide) (by decide) (Nat.le_of_ble_eq_true rfl) ⟨Nat.zero_le _, Nat.zero_le _⟩ ?_
  refine mw_ladd C dX12_goes_37 ?_
  obtain ⟨h4, eh4, hF⟩ := nx_some hF
  refine mw_put (k := 31) (T := TX12) (ty0 := tyX12) (x := ((h2 141 31) + q3.1)) C dX12_goes_38 zn141 zk141 (by decide) rfl inX12 tyX12_ok nmX12 (by decide) wd920 rfl rfl rfl rfl rfl (by decide) (mw_h eh4 ?_)
  refine mw_aload_n 0 C dX12_goes_41 rfl rfl ?_
  refine mw_dup C dX12_goes_42 rfl ?_
  refine mw_get (k := 29) (T := TX12) (v := iv (h4 141 29)) C dX12_goes_43 zn141 zk141 (by decide) rfl inX12 (by decide) wd918 rfl rfl ?_
  refine mw_iload_n 1 C dX12_goes_46 rfl rfl ?_
  refine mw_iadd C dX12_goes_47 ?_
  obtain ⟨h5, eh5, hF⟩ := nx_some hF
  refine mw_put (k := 29) (T := TX12) (ty0 := tyX12) (x := ((h4 141 29) + x2)) C dX12_goes_48 zn141 zk141 (by decide) rfl inX12 tyX12_ok nmX12 (by decide) wd918 rfl rfl rfl rfl rfl (by decide) (mw_h eh5 ?_)
  cases hF
  exact mw_vret C dX12_goes_51 rfl rfl
def F_X12_goes_0 (x1 : Int) (h : MH) : Option MH :=
  ck (in32 x1) <|
  ck (in32 (1000 - (h 141 29))) <|
  nx (min x1 (1000 - (h 141 29))) fun v3 =>
  ck (in32 v3) <|
  if x1 ≤ v3 then
    F_X12_goes_24 v3 0 h
  else
    F_X12_goes_24 v3 1 h
set_option maxRecDepth 100000 in
theorem T_X12_goes_0 {Z : ZT} (C : Cx Z cX12_goes 3 RX12 5 none) (x1 : Int) (h : MH) (t : MH) (hF : F_X12_goes_0 x1 h = some t) : MW Z (Qm Z none zN zG t 0 0) 3 zN zG h 0 0 0 [(0, rfv (xd (zX Z)) 141), (1, iv x1)] [] := by
  unfold F_X12_goes_0 at hF
  refine mw_iload_n 1 C dX12_goes_0 rfl rfl ?_
  refine mw_sipush C dX12_goes_1 sp_1000 ?_
  refine mw_aload_n 0 C dX12_goes_4 rfl rfl ?_
  refine mw_get (k := 29) (T := TX12) (v := iv (h 141 29)) C dX12_goes_5 zn141 zk141 (by decide) rfl inX12 (by decide) wd918 rfl rfl ?_
  refine mw_isub C dX12_goes_8 ?_
  obtain ⟨g1, hF⟩ := ck_some hF
  obtain ⟨g2, hF⟩ := ck_some hF
  refine mw_mmin C dX12_goes_9 wd1016 wd356 wd16 wd357 (by decide) (Nat.le_of_ble_eq_true rfl) ⟨Nat.zero_le _, Nat.zero_le _⟩ g1 g2 ?_
  obtain ⟨v3, ev3, hF⟩ := nx_some hF
  refine mw_ti ev3 ?_
  refine mw_istore_n [(2, iv v3), (0, rfv (xd (zX Z)) 141), (1, iv x1)] C dX12_goes_12 rfl (by decide) rfl ?_
  refine mw_aload_n 1 C dX12_goes_13 rfl rfl ?_
  refine mw_iload_n 0 C dX12_goes_14 rfl rfl ?_
  refine mw_iload_n 2 C dX12_goes_15 rfl rfl ?_
  obtain ⟨g4, hF⟩ := ck_some hF
  rcases ite_some hF with ⟨c5, hF⟩ | ⟨c5, hF⟩
  · refine mw_icmp_ge_t (tgt := 23) C dX12_goes_16 (by decide) g4 g1 c5 ?_
    refine mw_iconst C dX12_goes_23 ?_
    refine mw_sub [1, 0] rfl ?_
    exact T_X12_goes_24 C v3 0 _ _ hF
  · refine mw_icmp_ge_f (tgt := 23) C dX12_goes_16 (by decide) g4 g1 c5 ?_
    refine mw_iconst C dX12_goes_19 ?_
    refine mw_goto (tgt := 24) C dX12_goes_20 (by decide) ?_
    refine mw_sub [1, 0] rfl ?_
    exact T_X12_goes_24 C v3 1 _ _ hF
def F_X12_goes (x1 : Int) (h : MH) : Option MH := F_X12_goes_0 x1 h
theorem T_X12_goes (l : Launch) (X : XT) (x1 : Int) (h : MH) (t : MH) (hF : F_X12_goes x1 h = some t) : Ct l X yX12_goes cX12_goes 3 none 5 [rfv (xd X) 141, iv x1] zN zG h none zN zG t 0 0 := by
  refine Ct.head (by decide) (Nat.le_of_ble_eq_true rfl) (fun Z hX hl _ _ _ C => ?_)
  subst hX
  subst hl
  exact (T_X12_goes_0 C x1 _ _ hF)
/-! BottleLineModel.does(I)I -/
def F_X12_does_160 (x1 : Int) (x4 : Int) (x5 : Int) (h : MH) : Option (Int × MH) :=
  (F_X12_machineAt 0 x5 h).bind fun q1 =>
  ck (in32 x4) <|
  ck (0 ≤ (q1.1 + 4) ∧ (q1.1 + 4) < 2640) <|
  nx (hup q1.2 142 (q1.1 + 4).toNat x4) fun h4 =>
  some ((x1 + 1), h4)
set_option maxRecDepth 100000 in
theorem T_X12_does_160 {Z : ZT} (C : Cx Z cX12_does 6 RX12 6 (some .int)) (x1 : Int) (x4 : Int) (x5 : Int) (h : MH) (t : (Int × MH)) (hF : F_X12_does_160 x1 x4 x5 h = some t) : MW Z (Qm Z (some (iv t.1)) zN zG t.2 0 0) 6 zN zG h 0 0 160 [(0, rfv (xd (zX Z)) 141), (1, iv x1), (4, iv x4), (5, iv x5)] [] := by
  unfold F_X12_does_160 at hF
  refine mw_aload_n 0 C dX12_does_160 rfl rfl ?_
  refine mw_get (k := 0) (T := TX12) (v := rfv (xd (zX Z)) 142) C dX12_does_161 zn141 zk141 (by decide) rfl inX12 (by decide) wd889 rfl (zfv_r rfl zg_141_0) ?_
  refine mw_iconst C dX12_does_164 ?_
  refine mw_iload 3 C dX12_does_165 rfl ?_
  obtain ⟨q1, hq1, hF⟩ := bind_some hF
  refine mw_callS [iv 0, iv x5] [rfv (xd (zX Z)) 142] C dX12_does_167 (T_X12_machineAt (zl Z) (zX Z) 0 x5 _ _ hq1) rfl wd1041 wd1042 wd14 wd1043 hd_X12_machineAt rfl (by decide) (by decide) (Nat.le_of_ble_eq_true rfl) ⟨Nat.zero_le _, Nat.zero_le _⟩ ?_
  refine mw_iconst C dX12_does_170 ?_
  refine mw_iadd C dX12_does_171 ?_
  refine mw_iload 2 C dX12_does_172 rfl ?_
  obtain ⟨g2, hF⟩ := ck_some hF
  refine mw_i2l C dX12_does_174 g2 ?_
  obtain ⟨g3, hF⟩ := ck_some hF
  obtain ⟨h4, eh4, hF⟩ := nx_some hF
  refine mw_last C dX12_does_175 zn142 zk142 (by decide) g3 (mw_h eh4 ?_)
  refine mw_iload_n 1 C dX12_does_176 rfl rfl ?_
  refine mw_iconst C dX12_does_177 ?_
  refine mw_iadd C dX12_does_178 ?_
  cases hF
  exact mw_iret C dX12_does_179 rfl rfl
def F_X12_does_144 (x1 : Int) (x3 : Int) (x4 : Int) (x5 : Int) (h : MH) : Option (Int × MH) :=
  ck (in32 x5) <|
  if x5 = (-1) then
    some ((x1 + 1), h)
  else
    ck (in32 x3) <|
    if x3 = 2 then
      F_X12_does_160 x1 x4 x5 h
    else
      if x3 ≠ 3 then
        some ((x1 + 1), h)
      else
        F_X12_does_160 x1 x4 x5 h
set_option maxRecDepth 100000 in
theorem T_X12_does_144 {Z : ZT} (C : Cx Z cX12_does 6 RX12 6 (some .int)) (x1 : Int) (x3 : Int) (x4 : Int) (x5 : Int) (h : MH) (t : (Int × MH)) (hF : F_X12_does_144 x1 x3 x4 x5 h = some t) : MW Z (Qm Z (some (iv t.1)) zN zG t.2 0 0) 6 zN zG h 0 0 144 [(0, rfv (xd (zX Z)) 141), (1, iv x1), (3, iv x3), (4, iv x4), (5, iv x5)] [] := by
  unfold F_X12_does_144 at hF
  refine mw_iload 4 C dX12_does_144 rfl ?_
  refine mw_iconst C dX12_does_146 ?_
  obtain ⟨g1, hF⟩ := ck_some hF
  rcases ite_some hF with ⟨c2, hF⟩ | ⟨c2, hF⟩
  · refine mw_icmp_eq_t (tgt := 176) C dX12_does_147 (by decide) g1 (by decide) c2 ?_
    refine mw_iload_n 1 C dX12_does_176 rfl rfl ?_
    refine mw_iconst C dX12_does_177 ?_
    refine mw_iadd C dX12_does_178 ?_
    cases hF
    exact mw_iret C dX12_does_179 rfl rfl
  · refine mw_icmp_eq_f (tgt := 176) C dX12_does_147 (by decide) g1 (by decide) c2 ?_
    refine mw_iload_n 2 C dX12_does_150 rfl rfl ?_
    refine mw_iconst C dX12_does_151 ?_
    obtain ⟨g3, hF⟩ := ck_some hF
    rcases ite_some hF with ⟨c4, hF⟩ | ⟨c4, hF⟩
    · refine mw_icmp_eq_t (tgt := 160) C dX12_does_152 (by decide) g3 (by decide) c4 ?_
      refine mw_sub [0, 1, 3, 4] rfl ?_
      exact T_X12_does_160 C x1 x4 x5 _ _ hF
    · refine mw_icmp_eq_f (tgt := 160) C dX12_does_152 (by decide) g3 (by decide) c4 ?_
      refine mw_iload_n 2 C dX12_does_155 rfl rfl ?_
      refine mw_iconst C dX12_does_156 ?_
      rcases ite_some hF with ⟨c5, hF⟩ | ⟨c5, hF⟩
      · refine mw_icmp_ne_t (tgt := 176) C dX12_does_157 (by decide) g3 (by decide) c5 ?_
        refine mw_iload_n 1 C dX12_does_176 rfl rfl ?_
        refine mw_iconst C dX12_does_177 ?_
        refine mw_iadd C dX12_does_178 ?_
        cases hF
        exact mw_iret C dX12_does_179 rfl rfl
      · refine mw_icmp_ne_f (tgt := 176) C dX12_does_157 (by decide) g3 (by decide) c5 ?_
        refine mw_sub [0, 1, 3, 4] rfl ?_
        exact T_X12_does_160 C x1 x4 x5 _ _ hF
def F_X12_does_117 (x1 : Int) (x3 : Int) (x4 : Int) (x5 : Int) (h : MH) : Option (Int × MH) :=
  ck (in32 x5) <|
  if x5 = (-1) then
    F_X12_does_144 x1 x3 x4 x5 h
  else
    ck (in32 x3) <|
    if x3 ≠ 1 then
      F_X12_does_144 x1 x3 x4 x5 h
    else
      (F_X12_machineAt 0 x5 h).bind fun q5 =>
      ck (in32 x4) <|
      ck (0 ≤ (q5.1 + 0) ∧ (q5.1 + 0) < 2640) <|
      nx (hup q5.2 142 (q5.1 + 0).toNat x4) fun h8 =>
      F_X12_does_144 x1 x3 x4 x5 h8
set_option maxRecDepth 100000 in
theorem T_X12_does_117 {Z : ZT} (C : Cx Z cX12_does 6 RX12 6 (some .int)) (x1 : Int) (x3 : Int) (x4 : Int) (x5 : Int) (h : MH) (t : (Int × MH)) (hF : F_X12_does_117 x1 x3 x4 x5 h = some t) : MW Z (Qm Z (some (iv t.1)) zN zG t.2 0 0) 6 zN zG h 0 0 117 [(0, rfv (xd (zX Z)) 141), (1, iv x1), (3, iv x3), (4, iv x4), (5, iv x5)] [] := by
  unfold F_X12_does_117 at hF
  refine mw_iload 4 C dX12_does_117 rfl ?_
  refine mw_iconst C dX12_does_119 ?_
  obtain ⟨g1, hF⟩ := ck_some hF
  rcases ite_some hF with ⟨c2, hF⟩ | ⟨c2, hF⟩
  · refine mw_icmp_eq_t (tgt := 144) C dX12_does_120 (by decide) g1 (by decide) c2 ?_
    exact T_X12_does_144 C x1 x3 x4 x5 _ _ hF
  · refine mw_icmp_eq_f (tgt := 144) C dX12_does_120 (by decide) g1 (by decide) c2 ?_
    refine mw_iload_n 2 C dX12_does_123 rfl rfl ?_
    refine mw_iconst C dX12_does_124 ?_
    obtain ⟨g3, hF⟩ := ck_some hF
    rcases ite_some hF with ⟨c4, hF⟩ | ⟨c4, hF⟩
    · refine mw_icmp_ne_t (tgt := 144) C dX12_does_125 (by decide) g3 (by decide) c4 ?_
      exact T_X12_does_144 C x1 x3 x4 x5 _ _ hF
    · refine mw_icmp_ne_f (tgt := 144) C dX12_does_125 (by decide) g3 (by decide) c4 ?_
      refine mw_aload_n 0 C dX12_does_128 rfl rfl ?_
      refine mw_get (k := 0) (T := TX12) (v := rfv (xd (zX Z)) 142) C dX12_does_129 zn141 zk141 (by decide) rfl inX12 (by decide) wd889 rfl (zfv_r rfl zg_141_0) ?_
      refine mw_iconst C dX12_does_132 ?_
      refine mw_iload 4 C dX12_does_133 rfl ?_
      obtain ⟨q5, hq5, hF⟩ := bind_some hF
      refine mw_callS [iv 0, iv x5] [rfv (xd (zX Z)) 142] C dX12_does_135 (T_X12_machineAt (zl Z) (zX Z) 0 x5 _ _ hq5) rfl wd1041 wd1042 wd14 wd1043 hd_X12_machineAt rfl (by decide) (by decide) (Nat.le_of_ble_eq_true rfl) ⟨Nat.zero_le _, Nat.zero_le _⟩ ?_
      refine mw_iconst C dX12_does_138 ?_
      refine mw_iadd C dX12_does_139 ?_
      refine mw_iload 3 C dX12_does_140 rfl ?_
      obtain ⟨g6, hF⟩ := ck_some hF
      refine mw_i2l C dX12_does_142 g6 ?_
      obtain ⟨g7, hF⟩ := ck_some hF
      obtain ⟨h8, eh8, hF⟩ := nx_some hF
      refine mw_last C dX12_does_143 zn142 zk142 (by decide) g7 (mw_h eh8 ?_)
      exact T_X12_does_144 C x1 x3 x4 x5 _ _ hF
def F_X12_does_105 (x2 : Int) (h : MH) : Option (Int × MH) :=
  ck (0 ≤ (x2 + 3) ∧ (x2 + 3) < 2640) <|
  some (((h 142 (x2 + 3).toNat) + 1), h)
set_option maxRecDepth 100000 in
theorem T_X12_does_105 {Z : ZT} (C : Cx Z cX12_does 6 RX12 6 (some .int)) (x2 : Int) (h : MH) (t : (Int × MH)) (hF : F_X12_does_105 x2 h = some t) : MW Z (Qm Z (some (iv t.1)) zN zG t.2 0 0) 6 zN zG h 0 0 105 [(0, rfv (xd (zX Z)) 141), (2, iv x2)] [] := by
  unfold F_X12_does_105 at hF
  refine mw_aload_n 0 C dX12_does_105 rfl rfl ?_
  refine mw_get (k := 0) (T := TX12) (v := rfv (xd (zX Z)) 142) C dX12_does_106 zn141 zk141 (by decide) rfl inX12 (by decide) wd889 rfl (zfv_r rfl zg_141_0) ?_
  refine mw_iload_n 1 C dX12_does_109 rfl rfl ?_
  refine mw_iconst C dX12_does_110 ?_
  refine mw_iadd C dX12_does_111 ?_
  obtain ⟨g1, hF⟩ := ck_some hF
  refine mw_lald C dX12_does_112 zn142 zk142 (by decide) g1 ?_
  refine mw_l2i C dX12_does_113 ?_
  refine mw_iconst C dX12_does_114 ?_
  refine mw_iadd C dX12_does_115 ?_
  cases hF
  exact mw_iret C dX12_does_116 rfl rfl
def F_X12_does_80 (x1 : Int) (x2 : Int) (x3 : Int) (x4 : Int) (x5 : Int) (h : MH) : Option (Int × MH) :=
  ck (in32 x3) <|
  if x3 ≠ 5 then
    F_X12_does_117 x1 x3 x4 x5 h
  else
    ck (in32 x5) <|
    if x5 = (-1) then
      F_X12_does_105 x2 h
    else
      (F_X12_ofMachine x5 5 h).bind fun q5 =>
      ck (in32 x4) <|
      ck (in64 q5.1) <|
      if q5.1 = x4 then
        F_X12_does_117 x1 x3 x4 x5 q5.2
      else
        F_X12_does_105 x2 q5.2
set_option maxRecDepth 100000 in
theorem T_X12_does_80 {Z : ZT} (C : Cx Z cX12_does 6 RX12 6 (some .int)) (x1 : Int) (x2 : Int) (x3 : Int) (x4 : Int) (x5 : Int) (h : MH) (t : (Int × MH)) (hF : F_X12_does_80 x1 x2 x3 x4 x5 h = some t) : MW Z (Qm Z (some (iv t.1)) zN zG t.2 0 0) 6 zN zG h 0 0 80 [(0, rfv (xd (zX Z)) 141), (1, iv x1), (2, iv x2), (3, iv x3), (4, iv x4), (5, iv x5)] [] := by
  unfold F_X12_does_80 at hF
  refine mw_iload_n 3 C dX12_does_80 rfl rfl ?_
  refine mw_iconst C dX12_does_81 ?_
  obtain ⟨g1, hF⟩ := ck_some hF
  rcases ite_some hF with ⟨c2, hF⟩ | ⟨c2, hF⟩
  · refine mw_icmp_ne_t (tgt := 117) C dX12_does_82 (by decide) g1 (by decide) c2 ?_
    refine mw_sub [0, 1, 3, 4, 5] rfl ?_
    exact T_X12_does_117 C x1 x3 x4 x5 _ _ hF
  · refine mw_icmp_ne_f (tgt := 117) C dX12_does_82 (by decide) g1 (by decide) c2 ?_
    refine mw_iload 5 C dX12_does_85 rfl ?_
    refine mw_iconst C dX12_does_87 ?_
    obtain ⟨g3, hF⟩ := ck_some hF
    rcases ite_some hF with ⟨c4, hF⟩ | ⟨c4, hF⟩
    · refine mw_icmp_eq_t (tgt := 105) C dX12_does_88 (by decide) g3 (by decide) c4 ?_
      refine mw_sub [0, 2] rfl ?_
      exact T_X12_does_105 C x2 _ _ hF
    · refine mw_icmp_eq_f (tgt := 105) C dX12_does_88 (by decide) g3 (by decide) c4 ?_
      refine mw_aload_n 0 C dX12_does_91 rfl rfl ?_
      refine mw_iload 5 C dX12_does_92 rfl ?_
      refine mw_iconst C dX12_does_94 ?_
      obtain ⟨q5, hq5, hF⟩ := bind_some hF
      refine mw_callV (c := 141) [iv x5, iv 5] [] C dX12_does_95 (T_X12_ofMachine (zl Z) (zX Z) x5 5 _ _ hq5) rfl zn141 zk141 (by decide) rfl wd1086 wd1087 wd1382 wd14 wd1088 hd_X12_ofMachine rfl (by decide) (by decide) (Nat.le_of_ble_eq_true rfl) ⟨Nat.zero_le _, Nat.zero_le _⟩ ?_
      refine mw_iload 4 C dX12_does_98 rfl ?_
      obtain ⟨g6, hF⟩ := ck_some hF
      refine mw_i2l C dX12_does_100 g6 ?_
      obtain ⟨g7, hF⟩ := ck_some hF
      rcases ite_some hF with ⟨c8, hF⟩ | ⟨c8, hF⟩
      · refine mw_lcmp_eq_t (tgt := 117) C dX12_does_101 dX12_does_102 (by decide) g7 (in64_of g6) c8 ?_
        refine mw_sub [0, 1, 3, 4, 5] rfl ?_
        exact T_X12_does_117 C x1 x3 x4 x5 _ _ hF
      · refine mw_lcmp_eq_f (tgt := 117) C dX12_does_101 dX12_does_102 (by decide) g7 (in64_of g6) c8 ?_
        refine mw_sub [0, 2] rfl ?_
        exact T_X12_does_105 C x2 _ _ hF
def F_X12_does_65 (x1 : Int) (x2 : Int) (x3 : Int) (x4 : Int) (x5 : Int) (h : MH) : Option (Int × MH) :=
  ck (in32 x3) <|
  if x3 ≠ 4 then
    F_X12_does_80 x1 x2 x3 x4 x5 h
  else
    ck (0 ≤ x1 ∧ x1 < 64) <|
    nx (hup h 153 x1.toNat (x4 - 1)) fun h4 =>
    F_X12_does_80 x1 x2 x3 x4 x5 h4
set_option maxRecDepth 100000 in
theorem T_X12_does_65 {Z : ZT} (C : Cx Z cX12_does 6 RX12 6 (some .int)) (x1 : Int) (x2 : Int) (x3 : Int) (x4 : Int) (x5 : Int) (h : MH) (t : (Int × MH)) (hF : F_X12_does_65 x1 x2 x3 x4 x5 h = some t) : MW Z (Qm Z (some (iv t.1)) zN zG t.2 0 0) 6 zN zG h 0 0 65 [(0, rfv (xd (zX Z)) 141), (1, iv x1), (2, iv x2), (3, iv x3), (4, iv x4), (5, iv x5)] [] := by
  unfold F_X12_does_65 at hF
  refine mw_iload_n 3 C dX12_does_65 rfl rfl ?_
  refine mw_iconst C dX12_does_66 ?_
  obtain ⟨g1, hF⟩ := ck_some hF
  rcases ite_some hF with ⟨c2, hF⟩ | ⟨c2, hF⟩
  · refine mw_icmp_ne_t (tgt := 80) C dX12_does_67 (by decide) g1 (by decide) c2 ?_
    exact T_X12_does_80 C x1 x2 x3 x4 x5 _ _ hF
  · refine mw_icmp_ne_f (tgt := 80) C dX12_does_67 (by decide) g1 (by decide) c2 ?_
    refine mw_aload_n 0 C dX12_does_70 rfl rfl ?_
    refine mw_get (k := 28) (T := TX12) (v := rfv (xd (zX Z)) 153) C dX12_does_71 zn141 zk141 (by decide) rfl inX12 (by decide) wd917 rfl (zfv_r rfl zg_141_28) ?_
    refine mw_iload_n 1 C dX12_does_74 rfl rfl ?_
    refine mw_iload 4 C dX12_does_75 rfl ?_
    refine mw_iconst C dX12_does_77 ?_
    refine mw_isub C dX12_does_78 ?_
    obtain ⟨g3, hF⟩ := ck_some hF
    obtain ⟨h4, eh4, hF⟩ := nx_some hF
    refine mw_iast C dX12_does_79 zn153 zk153 (by decide) g3 (mw_h eh4 ?_)
    exact T_X12_does_80 C x1 x2 x3 x4 x5 _ _ hF
def F_X12_does_53 (x1 : Int) (x2 : Int) (x3 : Int) (x4 : Int) (s0 : Int) (h : MH) : Option (Int × MH) :=
  ck (in32 x3) <|
  if x3 ≠ 0 then
    F_X12_does_65 x1 x2 x3 x4 s0 h
  else
    (F_X12_goes x4 h).bind fun q3 =>
    F_X12_does_65 x1 x2 x3 x4 s0 q3
set_option maxRecDepth 100000 in
theorem T_X12_does_53 {Z : ZT} (C : Cx Z cX12_does 6 RX12 6 (some .int)) (x1 : Int) (x2 : Int) (x3 : Int) (x4 : Int) (s0 : Int) (h : MH) (t : (Int × MH)) (hF : F_X12_does_53 x1 x2 x3 x4 s0 h = some t) : MW Z (Qm Z (some (iv t.1)) zN zG t.2 0 0) 6 zN zG h 0 0 53 [(0, rfv (xd (zX Z)) 141), (1, iv x1), (2, iv x2), (3, iv x3), (4, iv x4)] [iv s0] := by
  unfold F_X12_does_53 at hF
  refine mw_istore [(5, iv s0), (0, rfv (xd (zX Z)) 141), (1, iv x1), (2, iv x2), (3, iv x3), (4, iv x4)] C dX12_does_53 (by decide) rfl ?_
  refine mw_iload_n 4 C dX12_does_55 rfl rfl ?_
  obtain ⟨g1, hF⟩ := ck_some hF
  rcases ite_some hF with ⟨c2, hF⟩ | ⟨c2, hF⟩
  · refine mw_if_ne_t (tgt := 65) C dX12_does_56 (by decide) g1 c2 ?_
    refine mw_sub [1, 2, 3, 4, 5, 0] rfl ?_
    exact T_X12_does_65 C x1 x2 x3 x4 s0 _ _ hF
  · refine mw_if_ne_f (tgt := 65) C dX12_does_56 (by decide) g1 c2 ?_
    refine mw_aload_n 1 C dX12_does_59 rfl rfl ?_
    refine mw_iload 5 C dX12_does_60 rfl ?_
    obtain ⟨q3, hq3, hF⟩ := bind_some hF
    refine mw_callV (c := 141) [iv x4] [] C dX12_does_62 (T_X12_goes (zl Z) (zX Z) x4 _ _ hq3) rfl zn141 zk141 (by decide) rfl wd1209 wd1210 wd1396 wd14 wd1211 hd_X12_goes rfl (by decide) (by decide) (Nat.le_of_ble_eq_true rfl) ⟨Nat.zero_le _, Nat.zero_le _⟩ ?_
    refine mw_sub [1, 2, 3, 4, 5, 0] rfl ?_
    exact T_X12_does_65 C x1 x2 x3 x4 s0 _ _ hF
def F_X12_does_36 (x1 : Int) (x2 : Int) (x3 : Int) (x4 : Int) (h : MH) : Option (Int × MH) :=
  F_X12_does_53 x1 x2 x3 x4 (-1) h
set_option maxRecDepth 100000 in
theorem T_X12_does_36 {Z : ZT} (C : Cx Z cX12_does 6 RX12 6 (some .int)) (x1 : Int) (x2 : Int) (x3 : Int) (x4 : Int) (h : MH) (t : (Int × MH)) (hF : F_X12_does_36 x1 x2 x3 x4 h = some t) : MW Z (Qm Z (some (iv t.1)) zN zG t.2 0 0) 6 zN zG h 0 0 36 [(0, rfv (xd (zX Z)) 141), (1, iv x1), (2, iv x2), (3, iv x3), (4, iv x4)] [] := by
  unfold F_X12_does_36 at hF
  refine mw_iconst C dX12_does_36 ?_
  refine mw_goto (tgt := 53) C dX12_does_37 (by decide) ?_
  exact T_X12_does_53 C x1 x2 x3 x4 (-1) _ _ hF
def F_X12_does_0 (x1 : Int) (h : MH) : Option (Int × MH) :=
  nx (190 + (4 * x1)) fun v1 =>
  ck (0 ≤ v1 ∧ v1 < 2640) <|
  nx (h 142 v1.toNat) fun v3 =>
  ck (0 ≤ (v1 + 2) ∧ (v1 + 2) < 2640) <|
  nx (h 142 (v1 + 2).toNat) fun v5 =>
  ck (in32 v3) <|
  if v3 = 0 then
    F_X12_does_36 x1 v1 v3 v5 h
  else
    if v3 ≠ 4 then
      ck (0 ≤ (v1 + 1) ∧ (v1 + 1) < 2640) <|
      (F_X12_machineNamed 0 (h 142 (v1 + 1).toNat) h).bind fun q10 =>
      F_X12_does_53 x1 v1 v3 v5 q10.1 q10.2
    else
      F_X12_does_36 x1 v1 v3 v5 h
set_option maxRecDepth 100000 in
theorem T_X12_does_0 {Z : ZT} (C : Cx Z cX12_does 6 RX12 6 (some .int)) (x1 : Int) (h : MH) (t : (Int × MH)) (hF : F_X12_does_0 x1 h = some t) : MW Z (Qm Z (some (iv t.1)) zN zG t.2 0 0) 6 zN zG h 0 0 0 [(0, rfv (xd (zX Z)) 141), (1, iv x1)] [] := by
  unfold F_X12_does_0 at hF
  refine mw_sipush C dX12_does_0 sp_190 ?_
  refine mw_iconst C dX12_does_3 ?_
  refine mw_iload_n 1 C dX12_does_4 rfl rfl ?_
  refine mw_imul C dX12_does_5 ?_
  refine mw_iadd C dX12_does_6 ?_
  obtain ⟨v1, ev1, hF⟩ := nx_some hF
  refine mw_ti ev1 ?_
  refine mw_istore_n [(2, iv v1), (0, rfv (xd (zX Z)) 141), (1, iv x1)] C dX12_does_7 rfl (by decide) rfl ?_
  refine mw_aload_n 1 C dX12_does_8 rfl rfl ?_
  refine mw_get (k := 0) (T := TX12) (v := rfv (xd (zX Z)) 142) C dX12_does_9 zn141 zk141 (by decide) rfl inX12 (by decide) wd889 rfl (zfv_r rfl zg_141_0) ?_
  refine mw_iload_n 0 C dX12_does_12 rfl rfl ?_
  obtain ⟨g2, hF⟩ := ck_some hF
  refine mw_lald C dX12_does_13 zn142 zk142 (by decide) g2 ?_
  refine mw_l2i C dX12_does_14 ?_
  obtain ⟨v3, ev3, hF⟩ := nx_some hF
  refine mw_ti ev3 ?_
  refine mw_istore_n [(3, iv v3), (2, iv v1), (0, rfv (xd (zX Z)) 141), (1, iv x1)] C dX12_does_15 rfl (by decide) rfl ?_
  refine mw_aload_n 2 C dX12_does_16 rfl rfl ?_
  refine mw_get (k := 0) (T := TX12) (v := rfv (xd (zX Z)) 142) C dX12_does_17 zn141 zk141 (by decide) rfl inX12 (by decide) wd889 rfl (zfv_r rfl zg_141_0) ?_
  refine mw_iload_n 1 C dX12_does_20 rfl rfl ?_
  refine mw_iconst C dX12_does_21 ?_
  refine mw_iadd C dX12_does_22 ?_
  obtain ⟨g4, hF⟩ := ck_some hF
  refine mw_lald C dX12_does_23 zn142 zk142 (by decide) g4 ?_
  refine mw_l2i C dX12_does_24 ?_
  obtain ⟨v5, ev5, hF⟩ := nx_some hF
  refine mw_ti ev5 ?_
  refine mw_istore [(4, iv v5), (3, iv v3), (2, iv v1), (0, rfv (xd (zX Z)) 141), (1, iv x1)] C dX12_does_25 (by decide) rfl ?_
  refine mw_iload_n 1 C dX12_does_27 rfl rfl ?_
  obtain ⟨g6, hF⟩ := ck_some hF
  rcases ite_some hF with ⟨c7, hF⟩ | ⟨c7, hF⟩
  · refine mw_if_eq_t (tgt := 36) C dX12_does_28 (by decide) g6 c7 ?_
    refine mw_sub [3, 4, 2, 1, 0] rfl ?_
    exact T_X12_does_36 C x1 v1 v3 v5 _ _ hF
  · refine mw_if_eq_f (tgt := 36) C dX12_does_28 (by decide) g6 c7 ?_
    refine mw_iload_n 1 C dX12_does_31 rfl rfl ?_
    refine mw_iconst C dX12_does_32 ?_
    rcases ite_some hF with ⟨c8, hF⟩ | ⟨c8, hF⟩
    · refine mw_icmp_ne_t (tgt := 40) C dX12_does_33 (by decide) g6 (by decide) c8 ?_
      refine mw_aload_n 3 C dX12_does_40 rfl rfl ?_
      refine mw_iconst C dX12_does_41 ?_
      refine mw_aload_n 3 C dX12_does_42 rfl rfl ?_
      refine mw_get (k := 0) (T := TX12) (v := rfv (xd (zX Z)) 142) C dX12_does_43 zn141 zk141 (by decide) rfl inX12 (by decide) wd889 rfl (zfv_r rfl zg_141_0) ?_
      refine mw_iload_n 2 C dX12_does_46 rfl rfl ?_
      refine mw_iconst C dX12_does_47 ?_
      refine mw_iadd C dX12_does_48 ?_
      obtain ⟨g9, hF⟩ := ck_some hF
      refine mw_lald C dX12_does_49 zn142 zk142 (by decide) g9 ?_
      obtain ⟨q10, hq10, hF⟩ := bind_some hF
      refine mw_callV (c := 141) [iv 0, lvv (h 142 (v1 + 1).toNat)] [] C dX12_does_50 (T_X12_machineNamed (zl Z) (zX Z) 0 (h 142 (v1 + 1).toNat) _ _ hq10) rfl zn141 zk141 (by decide) rfl wd1038 wd1039 wd1370 wd14 wd1040 hd_X12_machineNamed rfl (by decide) (by decide) (Nat.le_of_ble_eq_true rfl) ⟨Nat.zero_le _, Nat.zero_le _⟩ ?_
      refine mw_sub [3, 4, 2, 1, 0] rfl ?_
      exact T_X12_does_53 C x1 v1 v3 v5 q10.1 _ _ hF
    · refine mw_icmp_ne_f (tgt := 40) C dX12_does_33 (by decide) g6 (by decide) c8 ?_
      refine mw_sub [3, 4, 2, 1, 0] rfl ?_
      exact T_X12_does_36 C x1 v1 v3 v5 _ _ hF
def F_X12_does (x1 : Int) (h : MH) : Option (Int × MH) := F_X12_does_0 x1 h
theorem T_X12_does (l : Launch) (X : XT) (x1 : Int) (h : MH) (t : (Int × MH)) (hF : F_X12_does x1 h = some t) : Ct l X yX12_does cX12_does 6 (some .int) 6 [rfv (xd X) 141, iv x1] zN zG h (some (iv t.1)) zN zG t.2 0 0 := by
  refine Ct.head (by decide) (Nat.le_of_ble_eq_true rfl) (fun Z hX hl _ _ _ C => ?_)
  subst hX
  subst hl
  exact (T_X12_does_0 C x1 _ _ hF)
/-! BottleLineModel.behindEnds(I)I -/
def F_X12_behindEnds_113 (k2 : Int → MH → Option (Int × MH)) (s0 : Int) (h : MH) : Option (Int × MH) :=
  k2 s0 h
set_option maxRecDepth 100000 in
theorem T_X12_behindEnds_113 {Z : ZT} (C : Cx Z cX12_behindEnds 5 RX12 1 (some .int)) (k2 : Int → MH → Option (Int × MH)) (hk2 : ∀ (x2 : Int) (h : MH) (t : (Int × MH)), k2 x2 h = some t → MW Z (Qm Z (some (iv t.1)) zN zG t.2 0 0) 5 zN zG h 0 0 2 [(0, rfv (xd (zX Z)) 141), (2, iv x2)] []) (s0 : Int) (h : MH) (t : (Int × MH)) (hF : F_X12_behindEnds_113 k2 s0 h = some t) : MW Z (Qm Z (some (iv t.1)) zN zG t.2 0 0) 5 zN zG h 0 0 113 [(0, rfv (xd (zX Z)) 141)] [iv s0] := by
  unfold F_X12_behindEnds_113 at hF
  refine mw_istore_n [(2, iv s0), (0, rfv (xd (zX Z)) 141)] C dX12_behindEnds_113 rfl (by decide) rfl ?_
  refine mw_goto (tgt := 2) C dX12_behindEnds_114 (by decide) ?_
  refine mw_sub [1, 0] rfl ?_
  exact hk2 s0 _ _ hF
def F_X12_behindEnds_99 (k2 : Int → MH → Option (Int × MH)) (x2 : Int) (x3 : Int) (x4 : Int) (h : MH) : Option (Int × MH) :=
  ck (in32 x4) <|
  if x4 = 0 then
    F_X12_behindEnds_113 k2 (x2 + 1) h
  else
    F_X12_behindEnds_113 k2 (x3 + 1) h
set_option maxRecDepth 100000 in
theorem T_X12_behindEnds_99 {Z : ZT} (C : Cx Z cX12_behindEnds 5 RX12 1 (some .int)) (k2 : Int → MH → Option (Int × MH)) (hk2 : ∀ (x2 : Int) (h : MH) (t : (Int × MH)), k2 x2 h = some t → MW Z (Qm Z (some (iv t.1)) zN zG t.2 0 0) 5 zN zG h 0 0 2 [(0, rfv (xd (zX Z)) 141), (2, iv x2)] []) (x2 : Int) (x3 : Int) (x4 : Int) (h : MH) (t : (Int × MH)) (hF : F_X12_behindEnds_99 k2 x2 x3 x4 h = some t) : MW Z (Qm Z (some (iv t.1)) zN zG t.2 0 0) 5 zN zG h 0 0 99 [(0, rfv (xd (zX Z)) 141), (2, iv x2), (3, iv x3), (4, iv x4)] [] := by
  unfold F_X12_behindEnds_99 at hF
  refine mw_iload 3 C dX12_behindEnds_99 rfl ?_
  obtain ⟨g1, hF⟩ := ck_some hF
  rcases ite_some hF with ⟨c2, hF⟩ | ⟨c2, hF⟩
  · refine mw_if_eq_t (tgt := 110) C dX12_behindEnds_101 (by decide) g1 c2 ?_
    refine mw_iload_n 1 C dX12_behindEnds_110 rfl rfl ?_
    refine mw_iconst C dX12_behindEnds_111 ?_
    refine mw_iadd C dX12_behindEnds_112 ?_
    refine mw_sub [0] rfl ?_
    exact T_X12_behindEnds_113 C k2 hk2 (x2 + 1) _ _ hF
  · refine mw_if_eq_f (tgt := 110) C dX12_behindEnds_101 (by decide) g1 c2 ?_
    refine mw_iload_n 2 C dX12_behindEnds_104 rfl rfl ?_
    refine mw_iconst C dX12_behindEnds_105 ?_
    refine mw_iadd C dX12_behindEnds_106 ?_
    refine mw_goto (tgt := 113) C dX12_behindEnds_107 (by decide) ?_
    refine mw_sub [0] rfl ?_
    exact T_X12_behindEnds_113 C k2 hk2 (x3 + 1) _ _ hF
def F_X12_behindEnds_82 (k2 : Int → MH → Option (Int × MH)) (x2 : Int) (x3 : Int) (s0 : Int) (h : MH) : Option (Int × MH) :=
  ck (in32 s0) <|
  if s0 = 0 then
    F_X12_behindEnds_99 k2 x2 x3 s0 h
  else
    ck (0 ≤ x3 ∧ x3 < 64) <|
    nx (hup h 153 x3.toNat ((h 153 x3.toNat) - 1)) fun h4 =>
    F_X12_behindEnds_99 k2 x2 x3 s0 h4
set_option maxRecDepth 100000 in
theorem T_X12_behindEnds_82 {Z : ZT} (C : Cx Z cX12_behindEnds 5 RX12 1 (some .int)) (k2 : Int → MH → Option (Int × MH)) (hk2 : ∀ (x2 : Int) (h : MH) (t : (Int × MH)), k2 x2 h = some t → MW Z (Qm Z (some (iv t.1)) zN zG t.2 0 0) 5 zN zG h 0 0 2 [(0, rfv (xd (zX Z)) 141), (2, iv x2)] []) (x2 : Int) (x3 : Int) (s0 : Int) (h : MH) (t : (Int × MH)) (hF : F_X12_behindEnds_82 k2 x2 x3 s0 h = some t) : MW Z (Qm Z (some (iv t.1)) zN zG t.2 0 0) 5 zN zG h 0 0 82 [(0, rfv (xd (zX Z)) 141), (2, iv x2), (3, iv x3)] [iv s0] := by
  unfold F_X12_behindEnds_82 at hF
  refine mw_istore [(4, iv s0), (0, rfv (xd (zX Z)) 141), (2, iv x2), (3, iv x3)] C dX12_behindEnds_82 (by decide) rfl ?_
  refine mw_iload 0 C dX12_behindEnds_84 rfl ?_
  obtain ⟨g1, hF⟩ := ck_some hF
  rcases ite_some hF with ⟨c2, hF⟩ | ⟨c2, hF⟩
  · refine mw_if_eq_t (tgt := 99) C dX12_behindEnds_86 (by decide) g1 c2 ?_
    refine mw_sub [1, 2, 3, 0] rfl ?_
    exact T_X12_behindEnds_99 C k2 hk2 x2 x3 s0 _ _ hF
  · refine mw_if_eq_f (tgt := 99) C dX12_behindEnds_86 (by decide) g1 c2 ?_
    refine mw_aload_n 1 C dX12_behindEnds_89 rfl rfl ?_
    refine mw_get (k := 28) (T := TX12) (v := rfv (xd (zX Z)) 153) C dX12_behindEnds_90 zn141 zk141 (by decide) rfl inX12 (by decide) wd917 rfl (zfv_r rfl zg_141_28) ?_
    refine mw_iload_n 3 C dX12_behindEnds_93 rfl rfl ?_
    refine mw_dup2 C dX12_behindEnds_94 rfl rfl ?_
    obtain ⟨g3, hF⟩ := ck_some hF
    refine mw_iald C dX12_behindEnds_95 zn153 zk153 (by decide) g3 ?_
    refine mw_iconst C dX12_behindEnds_96 ?_
    refine mw_isub C dX12_behindEnds_97 ?_
    obtain ⟨h4, eh4, hF⟩ := nx_some hF
    refine mw_iast C dX12_behindEnds_98 zn153 zk153 (by decide) g3 (mw_h eh4 ?_)
    refine mw_sub [1, 2, 3, 0] rfl ?_
    exact T_X12_behindEnds_99 C k2 hk2 x2 x3 s0 _ _ hF
def F_X12_behindEnds_81 (k2 : Int → MH → Option (Int × MH)) (x2 : Int) (x3 : Int) (h : MH) : Option (Int × MH) :=
  F_X12_behindEnds_82 k2 x2 x3 0 h
set_option maxRecDepth 100000 in
theorem T_X12_behindEnds_81 {Z : ZT} (C : Cx Z cX12_behindEnds 5 RX12 1 (some .int)) (k2 : Int → MH → Option (Int × MH)) (hk2 : ∀ (x2 : Int) (h : MH) (t : (Int × MH)), k2 x2 h = some t → MW Z (Qm Z (some (iv t.1)) zN zG t.2 0 0) 5 zN zG h 0 0 2 [(0, rfv (xd (zX Z)) 141), (2, iv x2)] []) (x2 : Int) (x3 : Int) (h : MH) (t : (Int × MH)) (hF : F_X12_behindEnds_81 k2 x2 x3 h = some t) : MW Z (Qm Z (some (iv t.1)) zN zG t.2 0 0) 5 zN zG h 0 0 81 [(0, rfv (xd (zX Z)) 141), (2, iv x2), (3, iv x3)] [] := by
  unfold F_X12_behindEnds_81 at hF
  refine mw_iconst C dX12_behindEnds_81 ?_
  exact T_X12_behindEnds_82 C k2 hk2 x2 x3 0 _ _ hF
def F_X12_behindEnds_2 : Nat → Int → MH → Option (Int × MH)
  | 0, _, _ => none
  | n + 1, x2, h =>
    ck (in32 x2) <|
    ck (in64 (h 142 5)) <|
    if (h 142 5) ≤ x2 then
      some (x2, h)
    else
      ck (0 ≤ (190 + (4 * x2)) ∧ (190 + (4 * x2)) < 2640) <|
      ck (in64 (h 142 (190 + (4 * x2)).toNat)) <|
      if (h 142 (190 + (4 * x2)).toNat) ≠ 6 then
        some (x2, h)
      else
        ck (0 ≤ ((190 + (4 * x2)) + 3) ∧ ((190 + (4 * x2)) + 3) < 2640) <|
        nx (h 142 ((190 + (4 * x2)) + 3).toNat) fun v8 =>
        ck (0 ≤ (190 + (4 * v8)) ∧ (190 + (4 * v8)) < 2640) <|
        ck (in64 (h 142 (190 + (4 * v8)).toNat)) <|
        if (h 142 (190 + (4 * v8)).toNat) ≠ 4 then
          F_X12_behindEnds_81 (F_X12_behindEnds_2 n) x2 v8 h
        else
          ck (0 ≤ v8 ∧ v8 < 64) <|
          ck (in32 (h 153 v8.toNat)) <|
          if (h 153 v8.toNat) ≤ 0 then
            F_X12_behindEnds_81 (F_X12_behindEnds_2 n) x2 v8 h
          else
            F_X12_behindEnds_82 (F_X12_behindEnds_2 n) x2 v8 1 h
set_option maxRecDepth 100000 in
theorem T_X12_behindEnds_2 {Z : ZT} (C : Cx Z cX12_behindEnds 5 RX12 1 (some .int)) : ∀ (n : Nat) (x2 : Int) (h : MH) (t : (Int × MH)), F_X12_behindEnds_2 n x2 h = some t → MW Z (Qm Z (some (iv t.1)) zN zG t.2 0 0) 5 zN zG h 0 0 2 [(0, rfv (xd (zX Z)) 141), (2, iv x2)] [] := by
  intro n
  induction n with
  | zero =>
    intros
    rename_i hF
    exact absurd hF (by intro q; cases q)
  | succ n ih =>
    intro x2 h t hF
    rw [F_X12_behindEnds_2] at hF
    refine mw_iload_n 1 C dX12_behindEnds_2 rfl rfl ?_
    obtain ⟨g1, hF⟩ := ck_some hF
    refine mw_i2l C dX12_behindEnds_3 g1 ?_
    refine mw_aload_n 0 C dX12_behindEnds_4 rfl rfl ?_
    refine mw_get (k := 0) (T := TX12) (v := rfv (xd (zX Z)) 142) C dX12_behindEnds_5 zn141 zk141 (by decide) rfl inX12 (by decide) wd889 rfl (zfv_r rfl zg_141_0) ?_
    refine mw_iconst C dX12_behindEnds_8 ?_
    refine mw_lald C dX12_behindEnds_9 zn142 zk142 (by decide) (by decide) ?_
    obtain ⟨g2, hF⟩ := ck_some hF
    rcases ite_some hF with ⟨c3, hF⟩ | ⟨c3, hF⟩
    · refine mw_lcmp_ge_t (tgt := 117) C dX12_behindEnds_10 dX12_behindEnds_11 (by decide) (in64_of g1) g2 c3 ?_
      refine mw_iload_n 1 C dX12_behindEnds_117 rfl rfl ?_
      cases hF
      exact mw_iret C dX12_behindEnds_118 rfl rfl
    · refine mw_lcmp_ge_f (tgt := 117) C dX12_behindEnds_10 dX12_behindEnds_11 (by decide) (in64_of g1) g2 c3 ?_
      refine mw_aload_n 0 C dX12_behindEnds_14 rfl rfl ?_
      refine mw_get (k := 0) (T := TX12) (v := rfv (xd (zX Z)) 142) C dX12_behindEnds_15 zn141 zk141 (by decide) rfl inX12 (by decide) wd889 rfl (zfv_r rfl zg_141_0) ?_
      refine mw_sipush C dX12_behindEnds_18 sp_190 ?_
      refine mw_iconst C dX12_behindEnds_21 ?_
      refine mw_iload_n 1 C dX12_behindEnds_22 rfl rfl ?_
      refine mw_imul C dX12_behindEnds_23 ?_
      refine mw_iadd C dX12_behindEnds_24 ?_
      obtain ⟨g4, hF⟩ := ck_some hF
      refine mw_lald C dX12_behindEnds_25 zn142 zk142 (by decide) g4 ?_
      refine mw_ldc2 (a := 6) C dX12_behindEnds_26 wd1215 rfl ?_
      obtain ⟨g5, hF⟩ := ck_some hF
      rcases ite_some hF with ⟨c6, hF⟩ | ⟨c6, hF⟩
      · refine mw_lcmp_ne_t (tgt := 117) C dX12_behindEnds_29 dX12_behindEnds_30 (by decide) g5 (by decide) c6 ?_
        refine mw_iload_n 1 C dX12_behindEnds_117 rfl rfl ?_
        cases hF
        exact mw_iret C dX12_behindEnds_118 rfl rfl
      · refine mw_lcmp_ne_f (tgt := 117) C dX12_behindEnds_29 dX12_behindEnds_30 (by decide) g5 (by decide) c6 ?_
        refine mw_aload_n 0 C dX12_behindEnds_33 rfl rfl ?_
        refine mw_get (k := 0) (T := TX12) (v := rfv (xd (zX Z)) 142) C dX12_behindEnds_34 zn141 zk141 (by decide) rfl inX12 (by decide) wd889 rfl (zfv_r rfl zg_141_0) ?_
        refine mw_sipush C dX12_behindEnds_37 sp_190 ?_
        refine mw_iconst C dX12_behindEnds_40 ?_
        refine mw_iload_n 1 C dX12_behindEnds_41 rfl rfl ?_
        refine mw_imul C dX12_behindEnds_42 ?_
        refine mw_iadd C dX12_behindEnds_43 ?_
        refine mw_iconst C dX12_behindEnds_44 ?_
        refine mw_iadd C dX12_behindEnds_45 ?_
        obtain ⟨g7, hF⟩ := ck_some hF
        refine mw_lald C dX12_behindEnds_46 zn142 zk142 (by decide) g7 ?_
        refine mw_l2i C dX12_behindEnds_47 ?_
        obtain ⟨v8, ev8, hF⟩ := nx_some hF
        refine mw_ti ev8 ?_
        refine mw_istore_n [(3, iv v8), (0, rfv (xd (zX Z)) 141), (2, iv x2)] C dX12_behindEnds_48 rfl (by decide) rfl ?_
        refine mw_aload_n 1 C dX12_behindEnds_49 rfl rfl ?_
        refine mw_get (k := 0) (T := TX12) (v := rfv (xd (zX Z)) 142) C dX12_behindEnds_50 zn141 zk141 (by decide) rfl inX12 (by decide) wd889 rfl (zfv_r rfl zg_141_0) ?_
        refine mw_sipush C dX12_behindEnds_53 sp_190 ?_
        refine mw_iconst C dX12_behindEnds_56 ?_
        refine mw_iload_n 0 C dX12_behindEnds_57 rfl rfl ?_
        refine mw_imul C dX12_behindEnds_58 ?_
        refine mw_iadd C dX12_behindEnds_59 ?_
        obtain ⟨g9, hF⟩ := ck_some hF
        refine mw_lald C dX12_behindEnds_60 zn142 zk142 (by decide) g9 ?_
        refine mw_ldc2 (a := 4) C dX12_behindEnds_61 wd1216 rfl ?_
        obtain ⟨g10, hF⟩ := ck_some hF
        rcases ite_some hF with ⟨c11, hF⟩ | ⟨c11, hF⟩
        · refine mw_lcmp_ne_t (tgt := 81) C dX12_behindEnds_64 dX12_behindEnds_65 (by decide) g10 (by decide) c11 ?_
          refine mw_sub [1, 2, 0] rfl ?_
          exact T_X12_behindEnds_81 C (F_X12_behindEnds_2 n) ih x2 v8 _ _ hF
        · refine mw_lcmp_ne_f (tgt := 81) C dX12_behindEnds_64 dX12_behindEnds_65 (by decide) g10 (by decide) c11 ?_
          refine mw_aload_n 1 C dX12_behindEnds_68 rfl rfl ?_
          refine mw_get (k := 28) (T := TX12) (v := rfv (xd (zX Z)) 153) C dX12_behindEnds_69 zn141 zk141 (by decide) rfl inX12 (by decide) wd917 rfl (zfv_r rfl zg_141_28) ?_
          refine mw_iload_n 0 C dX12_behindEnds_72 rfl rfl ?_
          obtain ⟨g12, hF⟩ := ck_some hF
          refine mw_iald C dX12_behindEnds_73 zn153 zk153 (by decide) g12 ?_
          obtain ⟨g13, hF⟩ := ck_some hF
          rcases ite_some hF with ⟨c14, hF⟩ | ⟨c14, hF⟩
          · refine mw_if_le_t (tgt := 81) C dX12_behindEnds_74 (by decide) g13 c14 ?_
            refine mw_sub [1, 2, 0] rfl ?_
            exact T_X12_behindEnds_81 C (F_X12_behindEnds_2 n) ih x2 v8 _ _ hF
          · refine mw_if_le_f (tgt := 81) C dX12_behindEnds_74 (by decide) g13 c14 ?_
            refine mw_iconst C dX12_behindEnds_77 ?_
            refine mw_goto (tgt := 82) C dX12_behindEnds_78 (by decide) ?_
            refine mw_sub [1, 2, 0] rfl ?_
            exact T_X12_behindEnds_82 C (F_X12_behindEnds_2 n) ih x2 v8 1 _ _ hF
def F_X12_behindEnds_0 (x1 : Int) (h : MH) : Option (Int × MH) :=
  F_X12_behindEnds_2 20000 x1 h
set_option maxRecDepth 100000 in
theorem T_X12_behindEnds_0 {Z : ZT} (C : Cx Z cX12_behindEnds 5 RX12 1 (some .int)) (x1 : Int) (h : MH) (t : (Int × MH)) (hF : F_X12_behindEnds_0 x1 h = some t) : MW Z (Qm Z (some (iv t.1)) zN zG t.2 0 0) 5 zN zG h 0 0 0 [(0, rfv (xd (zX Z)) 141), (1, iv x1)] [] := by
  unfold F_X12_behindEnds_0 at hF
  refine mw_iload_n 1 C dX12_behindEnds_0 rfl rfl ?_
  refine mw_istore_n [(2, iv x1), (0, rfv (xd (zX Z)) 141), (1, iv x1)] C dX12_behindEnds_1 rfl (by decide) rfl ?_
  refine mw_sub [1, 0] rfl ?_
  exact T_X12_behindEnds_2 C 20000 x1 _ _ hF
def F_X12_behindEnds (x1 : Int) (h : MH) : Option (Int × MH) := F_X12_behindEnds_0 x1 h
theorem T_X12_behindEnds (l : Launch) (X : XT) (x1 : Int) (h : MH) (t : (Int × MH)) (hF : F_X12_behindEnds x1 h = some t) : Ct l X yX12_behindEnds cX12_behindEnds 5 (some .int) 1 [rfv (xd X) 141, iv x1] zN zG h (some (iv t.1)) zN zG t.2 0 0 := by
  refine Ct.head (by decide) (Nat.le_of_ble_eq_true rfl) (fun Z hX hl _ _ _ C => ?_)
  subst hX
  subst hl
  exact (T_X12_behindEnds_0 C x1 _ _ hF)
/-! BottleLineModel.work()I -/
def F_X12_work_88 (x1 : Int) (s1 : Int) (h : MH) : Option (Int × MH) :=
  nx (hup h 141 30 s1) fun h1 =>
  ck (in32 x1) <|
  (F_X12_gives x1 h1).bind fun q3 =>
  some (q3.1, q3.2)
set_option maxRecDepth 100000 in
theorem T_X12_work_88 {Z : ZT} (C : Cx Z cX12_work 3 RX12 7 (some .int)) (x1 : Int) (s1 : Int) (h : MH) (t : (Int × MH)) (hF : F_X12_work_88 x1 s1 h = some t) : MW Z (Qm Z (some (iv t.1)) zN zG t.2 0 0) 3 zN zG h 0 0 88 [(0, rfv (xd (zX Z)) 141), (1, iv x1)] [iv s1, rfv (xd (zX Z)) 141] := by
  unfold F_X12_work_88 at hF
  obtain ⟨h1, eh1, hF⟩ := nx_some hF
  refine mw_put (k := 30) (T := TX12) (ty0 := tyX12) (x := s1) C dX12_work_88 zn141 zk141 (by decide) rfl inX12 tyX12_ok nmX12 (by decide) wd919 rfl rfl rfl rfl rfl (by decide) (mw_h eh1 ?_)
  refine mw_aload_n 0 C dX12_work_91 rfl rfl ?_
  refine mw_iload_n 1 C dX12_work_92 rfl rfl ?_
  obtain ⟨g2, hF⟩ := ck_some hF
  refine mw_i2l C dX12_work_93 g2 ?_
  obtain ⟨q3, hq3, hF⟩ := bind_some hF
  refine mw_callV (c := 141) [lvv x1] [] C dX12_work_94 (T_X12_gives (zl Z) (zX Z) x1 _ _ hq3) rfl zn141 zk141 (by decide) rfl wd1069 wd1070 wd1379 wd14 wd1071 hd_X12_gives rfl (by decide) (by decide) (Nat.le_of_ble_eq_true rfl) ⟨Nat.zero_le _, Nat.zero_le _⟩ ?_
  cases hF
  exact mw_iret C dX12_work_97 rfl rfl
def F_X12_work_83 (x1 : Int) (h : MH) : Option (Int × MH) :=
  F_X12_work_88 x1 1 h
set_option maxRecDepth 100000 in
theorem T_X12_work_83 {Z : ZT} (C : Cx Z cX12_work 3 RX12 7 (some .int)) (x1 : Int) (h : MH) (t : (Int × MH)) (hF : F_X12_work_83 x1 h = some t) : MW Z (Qm Z (some (iv t.1)) zN zG t.2 0 0) 3 zN zG h 0 0 83 [(0, rfv (xd (zX Z)) 141), (1, iv x1)] [rfv (xd (zX Z)) 141] := by
  unfold F_X12_work_83 at hF
  refine mw_iconst C dX12_work_83 ?_
  refine mw_goto (tgt := 88) C dX12_work_84 (by decide) ?_
  exact T_X12_work_88 C x1 1 _ _ hF
def F_X12_work_63 (x1 : Int) (x2 : Int) (h : MH) : Option (Int × MH) :=
  ck (in32 (h 141 32)) <|
  if (h 141 32) ≠ 0 then
    F_X12_work_83 x1 h
  else
    ck (in32 x2) <|
    ck (in64 (h 142 5)) <|
    if (h 142 5) ≤ x2 then
      F_X12_work_88 x1 0 h
    else
      F_X12_work_83 x1 h
set_option maxRecDepth 100000 in
theorem T_X12_work_63 {Z : ZT} (C : Cx Z cX12_work 3 RX12 7 (some .int)) (x1 : Int) (x2 : Int) (h : MH) (t : (Int × MH)) (hF : F_X12_work_63 x1 x2 h = some t) : MW Z (Qm Z (some (iv t.1)) zN zG t.2 0 0) 3 zN zG h 0 0 63 [(0, rfv (xd (zX Z)) 141), (1, iv x1), (2, iv x2)] [] := by
  unfold F_X12_work_63 at hF
  refine mw_aload_n 0 C dX12_work_63 rfl rfl ?_
  refine mw_aload_n 0 C dX12_work_64 rfl rfl ?_
  refine mw_get (k := 32) (T := TX12) (v := iv (h 141 32)) C dX12_work_65 zn141 zk141 (by decide) rfl inX12 (by decide) wd921 rfl rfl ?_
  obtain ⟨g1, hF⟩ := ck_some hF
  rcases ite_some hF with ⟨c2, hF⟩ | ⟨c2, hF⟩
  · refine mw_if_ne_t (tgt := 83) C dX12_work_68 (by decide) g1 c2 ?_
    refine mw_sub [0, 1] rfl ?_
    exact T_X12_work_83 C x1 _ _ hF
  · refine mw_if_ne_f (tgt := 83) C dX12_work_68 (by decide) g1 c2 ?_
    refine mw_iload_n 2 C dX12_work_71 rfl rfl ?_
    obtain ⟨g3, hF⟩ := ck_some hF
    refine mw_i2l C dX12_work_72 g3 ?_
    refine mw_aload_n 0 C dX12_work_73 rfl rfl ?_
    refine mw_get (k := 0) (T := TX12) (v := rfv (xd (zX Z)) 142) C dX12_work_74 zn141 zk141 (by decide) rfl inX12 (by decide) wd889 rfl (zfv_r rfl zg_141_0) ?_
    refine mw_iconst C dX12_work_77 ?_
    refine mw_lald C dX12_work_78 zn142 zk142 (by decide) (by decide) ?_
    obtain ⟨g4, hF⟩ := ck_some hF
    rcases ite_some hF with ⟨c5, hF⟩ | ⟨c5, hF⟩
    · refine mw_lcmp_ge_t (tgt := 87) C dX12_work_79 dX12_work_80 (by decide) (in64_of g3) g4 c5 ?_
      refine mw_iconst C dX12_work_87 ?_
      refine mw_sub [0, 1] rfl ?_
      exact T_X12_work_88 C x1 0 _ _ hF
    · refine mw_lcmp_ge_f (tgt := 87) C dX12_work_79 dX12_work_80 (by decide) (in64_of g3) g4 c5 ?_
      refine mw_sub [0, 1] rfl ?_
      exact T_X12_work_83 C x1 _ _ hF
def F_X12_work_19 : Nat → Int → Int → MH → Option (Int × MH)
  | 0, _, _, _ => none
  | n + 1, x1, x2, h =>
    ck (in32 x2) <|
    ck (in64 (h 142 5)) <|
    if (h 142 5) ≤ x2 then
      F_X12_work_63 x1 x2 h
    else
      ck (in32 x1) <|
      if 100 ≤ x1 then
        F_X12_work_63 x1 x2 h
      else
        ck (in32 (h 141 29)) <|
        if 1000 ≤ (h 141 29) then
          F_X12_work_63 x1 x2 h
        else
          (F_X12_does x2 h).bind fun q8 =>
          (F_X12_behindEnds q8.1 q8.2).bind fun q9 =>
          F_X12_work_19 n (x1 + 1) q9.1 q9.2
set_option maxRecDepth 100000 in
theorem T_X12_work_19 {Z : ZT} (C : Cx Z cX12_work 3 RX12 7 (some .int)) : ∀ (n : Nat) (x1 : Int) (x2 : Int) (h : MH) (t : (Int × MH)), F_X12_work_19 n x1 x2 h = some t → MW Z (Qm Z (some (iv t.1)) zN zG t.2 0 0) 3 zN zG h 0 0 19 [(0, rfv (xd (zX Z)) 141), (1, iv x1), (2, iv x2)] [] := by
  intro n
  induction n with
  | zero =>
    intros
    rename_i hF
    exact absurd hF (by intro q; cases q)
  | succ n ih =>
    intro x1 x2 h t hF
    rw [F_X12_work_19] at hF
    refine mw_iload_n 2 C dX12_work_19 rfl rfl ?_
    obtain ⟨g1, hF⟩ := ck_some hF
    refine mw_i2l C dX12_work_20 g1 ?_
    refine mw_aload_n 0 C dX12_work_21 rfl rfl ?_
    refine mw_get (k := 0) (T := TX12) (v := rfv (xd (zX Z)) 142) C dX12_work_22 zn141 zk141 (by decide) rfl inX12 (by decide) wd889 rfl (zfv_r rfl zg_141_0) ?_
    refine mw_iconst C dX12_work_25 ?_
    refine mw_lald C dX12_work_26 zn142 zk142 (by decide) (by decide) ?_
    obtain ⟨g2, hF⟩ := ck_some hF
    rcases ite_some hF with ⟨c3, hF⟩ | ⟨c3, hF⟩
    · refine mw_lcmp_ge_t (tgt := 63) C dX12_work_27 dX12_work_28 (by decide) (in64_of g1) g2 c3 ?_
      exact T_X12_work_63 C x1 x2 _ _ hF
    · refine mw_lcmp_ge_f (tgt := 63) C dX12_work_27 dX12_work_28 (by decide) (in64_of g1) g2 c3 ?_
      refine mw_iload_n 1 C dX12_work_31 rfl rfl ?_
      refine mw_bipush C dX12_work_32 bp_100 ?_
      obtain ⟨g4, hF⟩ := ck_some hF
      rcases ite_some hF with ⟨c5, hF⟩ | ⟨c5, hF⟩
      · refine mw_icmp_ge_t (tgt := 63) C dX12_work_34 (by decide) g4 (by decide) c5 ?_
        exact T_X12_work_63 C x1 x2 _ _ hF
      · refine mw_icmp_ge_f (tgt := 63) C dX12_work_34 (by decide) g4 (by decide) c5 ?_
        refine mw_aload_n 0 C dX12_work_37 rfl rfl ?_
        refine mw_get (k := 29) (T := TX12) (v := iv (h 141 29)) C dX12_work_38 zn141 zk141 (by decide) rfl inX12 (by decide) wd918 rfl rfl ?_
        refine mw_sipush C dX12_work_41 sp_1000 ?_
        obtain ⟨g6, hF⟩ := ck_some hF
        rcases ite_some hF with ⟨c7, hF⟩ | ⟨c7, hF⟩
        · refine mw_icmp_ge_t (tgt := 63) C dX12_work_44 (by decide) g6 (by decide) c7 ?_
          exact T_X12_work_63 C x1 x2 _ _ hF
        · refine mw_icmp_ge_f (tgt := 63) C dX12_work_44 (by decide) g6 (by decide) c7 ?_
          refine mw_aload_n 0 C dX12_work_47 rfl rfl ?_
          refine mw_aload_n 0 C dX12_work_48 rfl rfl ?_
          refine mw_iload_n 2 C dX12_work_49 rfl rfl ?_
          obtain ⟨q8, hq8, hF⟩ := bind_some hF
          refine mw_callV (c := 141) [iv x2] [rfv (xd (zX Z)) 141] C dX12_work_50 (T_X12_does (zl Z) (zX Z) x2 _ _ hq8) rfl zn141 zk141 (by decide) rfl wd1206 wd1207 wd1395 wd14 wd1208 hd_X12_does rfl (by decide) (by decide) (Nat.le_of_ble_eq_true rfl) ⟨Nat.zero_le _, Nat.zero_le _⟩ ?_
          obtain ⟨q9, hq9, hF⟩ := bind_some hF
          refine mw_callV (c := 141) [iv q8.1] [] C dX12_work_53 (T_X12_behindEnds (zl Z) (zX Z) q8.1 _ _ hq9) rfl zn141 zk141 (by decide) rfl wd1212 wd1213 wd1397 wd14 wd1214 hd_X12_behindEnds rfl (by decide) (by decide) (Nat.le_of_ble_eq_true rfl) ⟨Nat.zero_le _, Nat.zero_le _⟩ ?_
          refine mw_istore_n [(2, iv q9.1), (0, rfv (xd (zX Z)) 141), (1, iv x1)] C dX12_work_56 rfl (by decide) rfl ?_
          refine mw_iinc 2 [(1, iv (x1 + 1)), (2, iv q9.1), (0, rfv (xd (zX Z)) 141)] C dX12_work_57 rfl (by decide) rfl ?_
          refine mw_goto (tgt := 19) C dX12_work_60 (by decide) ?_
          refine mw_sub [2, 0, 1] rfl ?_
          exact ih (x1 + 1) q9.1 _ _ hF
def F_X12_work_0 (h : MH) : Option (Int × MH) :=
  nx (hup h 141 29 0) fun h1 =>
  nx (hup h1 141 31 0) fun h2 =>
  nx (hup h2 141 32 0) fun h3 =>
  F_X12_work_19 20000 0 0 h3
set_option maxRecDepth 100000 in
theorem T_X12_work_0 {Z : ZT} (C : Cx Z cX12_work 3 RX12 7 (some .int)) (h : MH) (t : (Int × MH)) (hF : F_X12_work_0 h = some t) : MW Z (Qm Z (some (iv t.1)) zN zG t.2 0 0) 3 zN zG h 0 0 0 [(0, rfv (xd (zX Z)) 141)] [] := by
  unfold F_X12_work_0 at hF
  refine mw_aload_n 0 C dX12_work_0 rfl rfl ?_
  refine mw_iconst C dX12_work_1 ?_
  obtain ⟨h1, eh1, hF⟩ := nx_some hF
  refine mw_put (k := 29) (T := TX12) (ty0 := tyX12) (x := 0) C dX12_work_2 zn141 zk141 (by decide) rfl inX12 tyX12_ok nmX12 (by decide) wd918 rfl rfl rfl rfl rfl (by decide) (mw_h eh1 ?_)
  refine mw_aload_n 0 C dX12_work_5 rfl rfl ?_
  refine mw_lconst (a := 0) C dX12_work_6 lc_0 ?_
  obtain ⟨h2, eh2, hF⟩ := nx_some hF
  refine mw_put (k := 31) (T := TX12) (ty0 := tyX12) (x := 0) C dX12_work_7 zn141 zk141 (by decide) rfl inX12 tyX12_ok nmX12 (by decide) wd920 rfl rfl rfl rfl rfl (by decide) (mw_h eh2 ?_)
  refine mw_aload_n 0 C dX12_work_10 rfl rfl ?_
  refine mw_iconst C dX12_work_11 ?_
  obtain ⟨h3, eh3, hF⟩ := nx_some hF
  refine mw_put (k := 32) (T := TX12) (ty0 := tyX12) (x := 0) C dX12_work_12 zn141 zk141 (by decide) rfl inX12 tyX12_ok nmX12 (by decide) wd921 rfl rfl (nz_n (Or.inl rfl)) (nz_f (Or.inl rfl)) rfl (by decide) (mw_h eh3 ?_)
  refine mw_iconst C dX12_work_15 ?_
  refine mw_istore_n [(1, iv 0), (0, rfv (xd (zX Z)) 141)] C dX12_work_16 rfl (by decide) rfl ?_
  refine mw_iconst C dX12_work_17 ?_
  refine mw_istore_n [(2, iv 0), (1, iv 0), (0, rfv (xd (zX Z)) 141)] C dX12_work_18 rfl (by decide) rfl ?_
  refine mw_sub [2, 1, 0] rfl ?_
  exact T_X12_work_19 C 20000 0 0 _ _ hF
def F_X12_work (h : MH) : Option (Int × MH) := F_X12_work_0 h
theorem T_X12_work (l : Launch) (X : XT) (h : MH) (t : (Int × MH)) (hF : F_X12_work h = some t) : Ct l X yX12_work cX12_work 3 (some .int) 7 [rfv (xd X) 141] zN zG h (some (iv t.1)) zN zG t.2 0 0 := by
  refine Ct.head (by decide) (Nat.le_of_ble_eq_true rfl) (fun Z hX hl _ _ _ C => ?_)
  subst hX
  subst hl
  exact (T_X12_work_0 C _ _ hF)
/-! BottleLineModel.worked(I)I -/
def F_X12_worked_9 (h : MH) : Option (Int × MH) :=
  (F_X12_refuse 1 h).bind fun q1 =>
  some (q1.1, q1.2)
set_option maxRecDepth 100000 in
theorem T_X12_worked_9 {Z : ZT} (C : Cx Z cX12_worked 2 RX12 2 (some .int)) (h : MH) (t : (Int × MH)) (hF : F_X12_worked_9 h = some t) : MW Z (Qm Z (some (iv t.1)) zN zG t.2 0 0) 2 zN zG h 0 0 9 [(0, rfv (xd (zX Z)) 141)] [] := by
  unfold F_X12_worked_9 at hF
  refine mw_aload_n 0 C dX12_worked_9 rfl rfl ?_
  refine mw_iconst C dX12_worked_10 ?_
  obtain ⟨q1, hq1, hF⟩ := bind_some hF
  refine mw_callV (c := 141) [iv 1] [] C dX12_worked_11 (T_X12_refuse (zl Z) (zX Z) 1 _ _ hq1) rfl zn141 zk141 (by decide) rfl wd997 wd998 wd1360 wd14 wd999 hd_X12_refuse rfl (by decide) (by decide) (Nat.le_of_ble_eq_true rfl) ⟨Nat.zero_le _, Nat.zero_le _⟩ ?_
  cases hF
  exact mw_iret C dX12_worked_14 rfl rfl
def F_X12_worked_60 (s1 : Int) (h : MH) : Option (Int × MH) :=
  (F_X12_gives s1 h).bind fun q1 =>
  some (q1.1, q1.2)
set_option maxRecDepth 100000 in
theorem T_X12_worked_60 {Z : ZT} (C : Cx Z cX12_worked 2 RX12 2 (some .int)) (s1 : Int) (h : MH) (t : (Int × MH)) (hF : F_X12_worked_60 s1 h = some t) : MW Z (Qm Z (some (iv t.1)) zN zG t.2 0 0) 2 zN zG h 0 0 60 [] [lvv s1, rfv (xd (zX Z)) 141] := by
  unfold F_X12_worked_60 at hF
  obtain ⟨q1, hq1, hF⟩ := bind_some hF
  refine mw_callV (c := 141) [lvv s1] [] C dX12_worked_60 (T_X12_gives (zl Z) (zX Z) s1 _ _ hq1) rfl zn141 zk141 (by decide) rfl wd1069 wd1070 wd1379 wd14 wd1071 hd_X12_gives rfl (by decide) (by decide) (Nat.le_of_ble_eq_true rfl) ⟨Nat.zero_le _, Nat.zero_le _⟩ ?_
  cases hF
  exact mw_iret C dX12_worked_63 rfl rfl
def F_X12_worked_0 (x1 : Int) (h : MH) : Option (Int × MH) :=
  ck (in32 x1) <|
  if x1 < 0 then
    F_X12_worked_9 h
  else
    if x1 ≤ 2 then
      ck (in32 (h 141 30)) <|
      if (h 141 30) ≠ (-1) then
        if x1 ≠ 0 then
          if x1 ≠ 1 then
            F_X12_worked_60 (h 141 30) h
          else
            F_X12_worked_60 (h 141 31) h
        else
          ck (in32 (h 141 29)) <|
          F_X12_worked_60 (h 141 29) h
      else
        (F_X12_refuse 6 h).bind fun q9 =>
        some (q9.1, q9.2)
    else
      F_X12_worked_9 h
set_option maxRecDepth 100000 in
theorem T_X12_worked_0 {Z : ZT} (C : Cx Z cX12_worked 2 RX12 2 (some .int)) (x1 : Int) (h : MH) (t : (Int × MH)) (hF : F_X12_worked_0 x1 h = some t) : MW Z (Qm Z (some (iv t.1)) zN zG t.2 0 0) 2 zN zG h 0 0 0 [(0, rfv (xd (zX Z)) 141), (1, iv x1)] [] := by
  unfold F_X12_worked_0 at hF
  refine mw_iload_n 1 C dX12_worked_0 rfl rfl ?_
  obtain ⟨g1, hF⟩ := ck_some hF
  rcases ite_some hF with ⟨c2, hF⟩ | ⟨c2, hF⟩
  · refine mw_if_lt_t (tgt := 9) C dX12_worked_1 (by decide) g1 c2 ?_
    refine mw_sub [0] rfl ?_
    exact T_X12_worked_9 C _ _ hF
  · refine mw_if_lt_f (tgt := 9) C dX12_worked_1 (by decide) g1 c2 ?_
    refine mw_iload_n 1 C dX12_worked_4 rfl rfl ?_
    refine mw_iconst C dX12_worked_5 ?_
    rcases ite_some hF with ⟨c3, hF⟩ | ⟨c3, hF⟩
    · refine mw_icmp_le_t (tgt := 15) C dX12_worked_6 (by decide) g1 (by decide) c3 ?_
      refine mw_aload_n 0 C dX12_worked_15 rfl rfl ?_
      refine mw_get (k := 30) (T := TX12) (v := iv (h 141 30)) C dX12_worked_16 zn141 zk141 (by decide) rfl inX12 (by decide) wd919 rfl rfl ?_
      refine mw_iconst C dX12_worked_19 ?_
      obtain ⟨g4, hF⟩ := ck_some hF
      rcases ite_some hF with ⟨c5, hF⟩ | ⟨c5, hF⟩
      · refine mw_icmp_ne_t (tgt := 30) C dX12_worked_20 (by decide) g4 (by decide) c5 ?_
        refine mw_aload_n 0 C dX12_worked_30 rfl rfl ?_
        refine mw_iload_n 1 C dX12_worked_31 rfl rfl ?_
        rcases ite_some hF with ⟨c6, hF⟩ | ⟨c6, hF⟩
        · refine mw_if_ne_t (tgt := 43) C dX12_worked_32 (by decide) g1 c6 ?_
          refine mw_iload_n 1 C dX12_worked_43 rfl rfl ?_
          refine mw_iconst C dX12_worked_44 ?_
          rcases ite_some hF with ⟨c7, hF⟩ | ⟨c7, hF⟩
          · refine mw_icmp_ne_t (tgt := 55) C dX12_worked_45 (by decide) g1 (by decide) c7 ?_
            refine mw_aload_n 0 C dX12_worked_55 rfl rfl ?_
            refine mw_get (k := 30) (T := TX12) (v := iv (h 141 30)) C dX12_worked_56 zn141 zk141 (by decide) rfl inX12 (by decide) wd919 rfl rfl ?_
            refine mw_i2l C dX12_worked_59 g4 ?_
            refine mw_sub [] rfl ?_
            exact T_X12_worked_60 C (h 141 30) _ _ hF
          · refine mw_icmp_ne_f (tgt := 55) C dX12_worked_45 (by decide) g1 (by decide) c7 ?_
            refine mw_aload_n 0 C dX12_worked_48 rfl rfl ?_
            refine mw_get (k := 31) (T := TX12) (v := lvv (h 141 31)) C dX12_worked_49 zn141 zk141 (by decide) rfl inX12 (by decide) wd920 rfl rfl ?_
            refine mw_goto (tgt := 60) C dX12_worked_52 (by decide) ?_
            refine mw_sub [] rfl ?_
            exact T_X12_worked_60 C (h 141 31) _ _ hF
        · refine mw_if_ne_f (tgt := 43) C dX12_worked_32 (by decide) g1 c6 ?_
          refine mw_aload_n 0 C dX12_worked_35 rfl rfl ?_
          refine mw_get (k := 29) (T := TX12) (v := iv (h 141 29)) C dX12_worked_36 zn141 zk141 (by decide) rfl inX12 (by decide) wd918 rfl rfl ?_
          obtain ⟨g8, hF⟩ := ck_some hF
          refine mw_i2l C dX12_worked_39 g8 ?_
          refine mw_goto (tgt := 60) C dX12_worked_40 (by decide) ?_
          refine mw_sub [] rfl ?_
          exact T_X12_worked_60 C (h 141 29) _ _ hF
      · refine mw_icmp_ne_f (tgt := 30) C dX12_worked_20 (by decide) g4 (by decide) c5 ?_
        refine mw_aload_n 0 C dX12_worked_23 rfl rfl ?_
        refine mw_bipush C dX12_worked_24 bp_6 ?_
        obtain ⟨q9, hq9, hF⟩ := bind_some hF
        refine mw_callV (c := 141) [iv 6] [] C dX12_worked_26 (T_X12_refuse (zl Z) (zX Z) 6 _ _ hq9) rfl zn141 zk141 (by decide) rfl wd997 wd998 wd1360 wd14 wd999 hd_X12_refuse rfl (by decide) (by decide) (Nat.le_of_ble_eq_true rfl) ⟨Nat.zero_le _, Nat.zero_le _⟩ ?_
        cases hF
        exact mw_iret C dX12_worked_29 rfl rfl
    · refine mw_icmp_le_f (tgt := 15) C dX12_worked_6 (by decide) g1 (by decide) c3 ?_
      refine mw_sub [0] rfl ?_
      exact T_X12_worked_9 C _ _ hF
def F_X12_worked (x1 : Int) (h : MH) : Option (Int × MH) := F_X12_worked_0 x1 h
theorem T_X12_worked (l : Launch) (X : XT) (x1 : Int) (h : MH) (t : (Int × MH)) (hF : F_X12_worked x1 h = some t) : Ct l X yX12_worked cX12_worked 2 (some .int) 2 [rfv (xd X) 141, iv x1] zN zG h (some (iv t.1)) zN zG t.2 0 0 := by
  refine Ct.head (by decide) (Nat.le_of_ble_eq_true rfl) (fun Z hX hl _ _ _ C => ?_)
  subst hX
  subst hl
  exact (T_X12_worked_0 C x1 _ _ hF)
/-! BottleLineModel.bothHave(III)I -/
def F_X12_bothHave_93 (k6 : Int → Int → Int → Int → Int → MH → Option (Int × MH)) (x1 : Int) (x2 : Int) (x3 : Int) (x5 : Int) (s0 : Int) (s1 : Int) (h : MH) : Option (Int × MH) :=
  nx (s0 + s1) fun v1 =>
  k6 x1 x2 x3 v1 (x5 + 1) h
set_option maxRecDepth 100000 in
theorem T_X12_bothHave_93 {Z : ZT} (C : Cx Z cX12_bothHave 7 RX12 3 (some .int)) (k6 : Int → Int → Int → Int → Int → MH → Option (Int × MH)) (hk6 : ∀ (x1 : Int) (x2 : Int) (x3 : Int) (x4 : Int) (x5 : Int) (h : MH) (t : (Int × MH)), k6 x1 x2 x3 x4 x5 h = some t → MW Z (Qm Z (some (iv t.1)) zN zG t.2 0 0) 7 zN zG h 0 0 6 [(0, rfv (xd (zX Z)) 141), (1, iv x1), (2, iv x2), (3, iv x3), (4, iv x4), (5, iv x5)] []) (x1 : Int) (x2 : Int) (x3 : Int) (x5 : Int) (s0 : Int) (s1 : Int) (h : MH) (t : (Int × MH)) (hF : F_X12_bothHave_93 k6 x1 x2 x3 x5 s0 s1 h = some t) : MW Z (Qm Z (some (iv t.1)) zN zG t.2 0 0) 7 zN zG h 0 0 93 [(0, rfv (xd (zX Z)) 141), (1, iv x1), (2, iv x2), (3, iv x3), (5, iv x5)] [iv s1, iv s0] := by
  unfold F_X12_bothHave_93 at hF
  refine mw_iadd C dX12_bothHave_93 ?_
  obtain ⟨v1, ev1, hF⟩ := nx_some hF
  refine mw_ti ev1 ?_
  refine mw_istore [(4, iv v1), (0, rfv (xd (zX Z)) 141), (1, iv x1), (2, iv x2), (3, iv x3), (5, iv x5)] C dX12_bothHave_94 (by decide) rfl ?_
  refine mw_iinc 5 [(5, iv (x5 + 1)), (4, iv v1), (0, rfv (xd (zX Z)) 141), (1, iv x1), (2, iv x2), (3, iv x3)] C dX12_bothHave_96 rfl (by decide) rfl ?_
  refine mw_goto (tgt := 6) C dX12_bothHave_99 (by decide) ?_
  refine mw_sub [2, 3, 4, 5, 1, 0] rfl ?_
  exact hk6 x1 x2 x3 v1 (x5 + 1) _ _ hF
def F_X12_bothHave_92 (k6 : Int → Int → Int → Int → Int → MH → Option (Int × MH)) (x1 : Int) (x2 : Int) (x3 : Int) (x5 : Int) (s0 : Int) (h : MH) : Option (Int × MH) :=
  F_X12_bothHave_93 k6 x1 x2 x3 x5 s0 0 h
set_option maxRecDepth 100000 in
theorem T_X12_bothHave_92 {Z : ZT} (C : Cx Z cX12_bothHave 7 RX12 3 (some .int)) (k6 : Int → Int → Int → Int → Int → MH → Option (Int × MH)) (hk6 : ∀ (x1 : Int) (x2 : Int) (x3 : Int) (x4 : Int) (x5 : Int) (h : MH) (t : (Int × MH)), k6 x1 x2 x3 x4 x5 h = some t → MW Z (Qm Z (some (iv t.1)) zN zG t.2 0 0) 7 zN zG h 0 0 6 [(0, rfv (xd (zX Z)) 141), (1, iv x1), (2, iv x2), (3, iv x3), (4, iv x4), (5, iv x5)] []) (x1 : Int) (x2 : Int) (x3 : Int) (x5 : Int) (s0 : Int) (h : MH) (t : (Int × MH)) (hF : F_X12_bothHave_92 k6 x1 x2 x3 x5 s0 h = some t) : MW Z (Qm Z (some (iv t.1)) zN zG t.2 0 0) 7 zN zG h 0 0 92 [(0, rfv (xd (zX Z)) 141), (1, iv x1), (2, iv x2), (3, iv x3), (5, iv x5)] [iv s0] := by
  unfold F_X12_bothHave_92 at hF
  refine mw_iconst C dX12_bothHave_92 ?_
  exact T_X12_bothHave_93 C k6 hk6 x1 x2 x3 x5 s0 0 _ _ hF
def F_X12_bothHave_48 (k6 : Int → Int → Int → Int → Int → MH → Option (Int × MH)) (x1 : Int) (x2 : Int) (x3 : Int) (x4 : Int) (x5 : Int) (s0 : Int) (h : MH) : Option (Int × MH) :=
  ck (in32 s0) <|
  if s0 = 0 then
    F_X12_bothHave_92 k6 x1 x2 x3 x5 x4 h
  else
    ck (0 ≤ x5 ∧ x5 < 60) <|
    ck (in32 (h 158 x5.toNat)) <|
    ck (0 ≤ x2 ∧ x2 < 144) <|
    (F_X12_ofMachine (h 155 x2.toNat) 1 h).bind fun q6 =>
    ck (in64 q6.1) <|
    ck (q6.1 ≠ 0) <|
    ck (in32 (q6.2 156 x2.toNat)) <|
    ck (in64 (Int.tmod (h 158 x5.toNat) q6.1)) <|
    if (Int.tmod (h 158 x5.toNat) q6.1) ≠ (q6.2 156 x2.toNat) then
      F_X12_bothHave_92 k6 x1 x2 x3 x5 x4 q6.2
    else
      F_X12_bothHave_93 k6 x1 x2 x3 x5 x4 1 q6.2
set_option maxRecDepth 100000 in
theorem T_X12_bothHave_48 {Z : ZT} (C : Cx Z cX12_bothHave 7 RX12 3 (some .int)) (k6 : Int → Int → Int → Int → Int → MH → Option (Int × MH)) (hk6 : ∀ (x1 : Int) (x2 : Int) (x3 : Int) (x4 : Int) (x5 : Int) (h : MH) (t : (Int × MH)), k6 x1 x2 x3 x4 x5 h = some t → MW Z (Qm Z (some (iv t.1)) zN zG t.2 0 0) 7 zN zG h 0 0 6 [(0, rfv (xd (zX Z)) 141), (1, iv x1), (2, iv x2), (3, iv x3), (4, iv x4), (5, iv x5)] []) (x1 : Int) (x2 : Int) (x3 : Int) (x4 : Int) (x5 : Int) (s0 : Int) (h : MH) (t : (Int × MH)) (hF : F_X12_bothHave_48 k6 x1 x2 x3 x4 x5 s0 h = some t) : MW Z (Qm Z (some (iv t.1)) zN zG t.2 0 0) 7 zN zG h 0 0 48 [(0, rfv (xd (zX Z)) 141), (1, iv x1), (2, iv x2), (3, iv x3), (4, iv x4), (5, iv x5)] [iv s0] := by
  unfold F_X12_bothHave_48 at hF
  refine mw_istore [(6, iv s0), (0, rfv (xd (zX Z)) 141), (1, iv x1), (2, iv x2), (3, iv x3), (4, iv x4), (5, iv x5)] C dX12_bothHave_48 (by decide) rfl ?_
  refine mw_iload 5 C dX12_bothHave_50 rfl ?_
  refine mw_iload 0 C dX12_bothHave_52 rfl ?_
  obtain ⟨g1, hF⟩ := ck_some hF
  rcases ite_some hF with ⟨c2, hF⟩ | ⟨c2, hF⟩
  · refine mw_if_eq_t (tgt := 92) C dX12_bothHave_54 (by decide) g1 c2 ?_
    refine mw_sub [1, 2, 3, 4, 6] rfl ?_
    exact T_X12_bothHave_92 C k6 hk6 x1 x2 x3 x5 x4 _ _ hF
  · refine mw_if_eq_f (tgt := 92) C dX12_bothHave_54 (by decide) g1 c2 ?_
    refine mw_aload_n 1 C dX12_bothHave_57 rfl rfl ?_
    refine mw_get (k := 37) (T := TX12) (v := rfv (xd (zX Z)) 158) C dX12_bothHave_58 zn141 zk141 (by decide) rfl inX12 (by decide) wd926 rfl (zfv_r rfl zg_141_37) ?_
    refine mw_iload 6 C dX12_bothHave_61 rfl ?_
    obtain ⟨g3, hF⟩ := ck_some hF
    refine mw_iald C dX12_bothHave_63 zn158 zk158 (by decide) g3 ?_
    obtain ⟨g4, hF⟩ := ck_some hF
    refine mw_i2l C dX12_bothHave_64 g4 ?_
    refine mw_aload_n 1 C dX12_bothHave_65 rfl rfl ?_
    refine mw_aload_n 1 C dX12_bothHave_66 rfl rfl ?_
    refine mw_get (k := 34) (T := TX12) (v := rfv (xd (zX Z)) 155) C dX12_bothHave_67 zn141 zk141 (by decide) rfl inX12 (by decide) wd923 rfl (zfv_r rfl zg_141_34) ?_
    refine mw_iload_n 3 C dX12_bothHave_70 rfl rfl ?_
    obtain ⟨g5, hF⟩ := ck_some hF
    refine mw_iald C dX12_bothHave_71 zn155 zk155 (by decide) g5 ?_
    refine mw_iconst C dX12_bothHave_72 ?_
    obtain ⟨q6, hq6, hF⟩ := bind_some hF
    refine mw_callV (c := 141) [iv (h 155 x2.toNat), iv 1] [lvv (h 158 x5.toNat), iv x4] C dX12_bothHave_73 (T_X12_ofMachine (zl Z) (zX Z) (h 155 x2.toNat) 1 _ _ hq6) rfl zn141 zk141 (by decide) rfl wd1086 wd1087 wd1382 wd14 wd1088 hd_X12_ofMachine rfl (by decide) (by decide) (Nat.le_of_ble_eq_true rfl) ⟨Nat.zero_le _, Nat.zero_le _⟩ ?_
    obtain ⟨g7, hF⟩ := ck_some hF
    obtain ⟨g8, hF⟩ := ck_some hF
    refine mw_lrem C dX12_bothHave_76 (in64_of g4) g7 g8 ?_
    refine mw_aload_n 1 C dX12_bothHave_77 rfl rfl ?_
    refine mw_get (k := 35) (T := TX12) (v := rfv (xd (zX Z)) 156) C dX12_bothHave_78 zn141 zk141 (by decide) rfl inX12 (by decide) wd924 rfl (zfv_r rfl zg_141_35) ?_
    refine mw_iload_n 3 C dX12_bothHave_81 rfl rfl ?_
    refine mw_iald C dX12_bothHave_82 zn156 zk156 (by decide) g5 ?_
    obtain ⟨g9, hF⟩ := ck_some hF
    refine mw_i2l C dX12_bothHave_83 g9 ?_
    obtain ⟨g10, hF⟩ := ck_some hF
    rcases ite_some hF with ⟨c11, hF⟩ | ⟨c11, hF⟩
    · refine mw_lcmp_ne_t (tgt := 92) C dX12_bothHave_84 dX12_bothHave_85 (by decide) g10 (in64_of g9) c11 ?_
      refine mw_sub [1, 2, 3, 4, 6] rfl ?_
      exact T_X12_bothHave_92 C k6 hk6 x1 x2 x3 x5 x4 _ _ hF
    · refine mw_lcmp_ne_f (tgt := 92) C dX12_bothHave_84 dX12_bothHave_85 (by decide) g10 (in64_of g9) c11 ?_
      refine mw_iconst C dX12_bothHave_88 ?_
      refine mw_goto (tgt := 93) C dX12_bothHave_89 (by decide) ?_
      refine mw_sub [1, 2, 3, 4, 6] rfl ?_
      exact T_X12_bothHave_93 C k6 hk6 x1 x2 x3 x5 x4 1 _ _ hF
def F_X12_bothHave_6 : Nat → Int → Int → Int → Int → Int → MH → Option (Int × MH)
  | 0, _, _, _, _, _, _ => none
  | n + 1, x1, x2, x3, x4, x5, h =>
    ck (in32 x5) <|
    ck (in32 x3) <|
    if x3 ≤ x5 then
      some (x4, h)
    else
      ck (0 ≤ x5 ∧ x5 < 60) <|
      ck (in32 (h 158 x5.toNat)) <|
      ck (0 ≤ x1 ∧ x1 < 144) <|
      (F_X12_ofMachine (h 155 x1.toNat) 1 h).bind fun q7 =>
      ck (in64 q7.1) <|
      ck (q7.1 ≠ 0) <|
      ck (in32 (q7.2 156 x1.toNat)) <|
      ck (in64 (Int.tmod (h 158 x5.toNat) q7.1)) <|
      if (Int.tmod (h 158 x5.toNat) q7.1) ≠ (q7.2 156 x1.toNat) then
        F_X12_bothHave_48 (F_X12_bothHave_6 n) x1 x2 x3 x4 x5 0 q7.2
      else
        F_X12_bothHave_48 (F_X12_bothHave_6 n) x1 x2 x3 x4 x5 1 q7.2
set_option maxRecDepth 100000 in
theorem T_X12_bothHave_6 {Z : ZT} (C : Cx Z cX12_bothHave 7 RX12 3 (some .int)) : ∀ (n : Nat) (x1 : Int) (x2 : Int) (x3 : Int) (x4 : Int) (x5 : Int) (h : MH) (t : (Int × MH)), F_X12_bothHave_6 n x1 x2 x3 x4 x5 h = some t → MW Z (Qm Z (some (iv t.1)) zN zG t.2 0 0) 7 zN zG h 0 0 6 [(0, rfv (xd (zX Z)) 141), (1, iv x1), (2, iv x2), (3, iv x3), (4, iv x4), (5, iv x5)] [] := by
  intro n
  induction n with
  | zero =>
    intros
    rename_i hF
    exact absurd hF (by intro q; cases q)
  | succ n ih =>
    intro x1 x2 x3 x4 x5 h t hF
    rw [F_X12_bothHave_6] at hF
    refine mw_iload 5 C dX12_bothHave_6 rfl ?_
    refine mw_iload_n 3 C dX12_bothHave_8 rfl rfl ?_
    obtain ⟨g1, hF⟩ := ck_some hF
    obtain ⟨g2, hF⟩ := ck_some hF
    rcases ite_some hF with ⟨c3, hF⟩ | ⟨c3, hF⟩
    · refine mw_icmp_ge_t (tgt := 102) C dX12_bothHave_9 (by decide) g1 g2 c3 ?_
      refine mw_iload 4 C dX12_bothHave_102 rfl ?_
      cases hF
      exact mw_iret C dX12_bothHave_104 rfl rfl
    · refine mw_icmp_ge_f (tgt := 102) C dX12_bothHave_9 (by decide) g1 g2 c3 ?_
      refine mw_aload_n 0 C dX12_bothHave_12 rfl rfl ?_
      refine mw_get (k := 37) (T := TX12) (v := rfv (xd (zX Z)) 158) C dX12_bothHave_13 zn141 zk141 (by decide) rfl inX12 (by decide) wd926 rfl (zfv_r rfl zg_141_37) ?_
      refine mw_iload 5 C dX12_bothHave_16 rfl ?_
      obtain ⟨g4, hF⟩ := ck_some hF
      refine mw_iald C dX12_bothHave_18 zn158 zk158 (by decide) g4 ?_
      obtain ⟨g5, hF⟩ := ck_some hF
      refine mw_i2l C dX12_bothHave_19 g5 ?_
      refine mw_aload_n 0 C dX12_bothHave_20 rfl rfl ?_
      refine mw_aload_n 0 C dX12_bothHave_21 rfl rfl ?_
      refine mw_get (k := 34) (T := TX12) (v := rfv (xd (zX Z)) 155) C dX12_bothHave_22 zn141 zk141 (by decide) rfl inX12 (by decide) wd923 rfl (zfv_r rfl zg_141_34) ?_
      refine mw_iload_n 1 C dX12_bothHave_25 rfl rfl ?_
      obtain ⟨g6, hF⟩ := ck_some hF
      refine mw_iald C dX12_bothHave_26 zn155 zk155 (by decide) g6 ?_
      refine mw_iconst C dX12_bothHave_27 ?_
      obtain ⟨q7, hq7, hF⟩ := bind_some hF
      refine mw_callV (c := 141) [iv (h 155 x1.toNat), iv 1] [lvv (h 158 x5.toNat)] C dX12_bothHave_28 (T_X12_ofMachine (zl Z) (zX Z) (h 155 x1.toNat) 1 _ _ hq7) rfl zn141 zk141 (by decide) rfl wd1086 wd1087 wd1382 wd14 wd1088 hd_X12_ofMachine rfl (by decide) (by decide) (Nat.le_of_ble_eq_true rfl) ⟨Nat.zero_le _, Nat.zero_le _⟩ ?_
      obtain ⟨g8, hF⟩ := ck_some hF
      obtain ⟨g9, hF⟩ := ck_some hF
      refine mw_lrem C dX12_bothHave_31 (in64_of g5) g8 g9 ?_
      refine mw_aload_n 0 C dX12_bothHave_32 rfl rfl ?_
      refine mw_get (k := 35) (T := TX12) (v := rfv (xd (zX Z)) 156) C dX12_bothHave_33 zn141 zk141 (by decide) rfl inX12 (by decide) wd924 rfl (zfv_r rfl zg_141_35) ?_
      refine mw_iload_n 1 C dX12_bothHave_36 rfl rfl ?_
      refine mw_iald C dX12_bothHave_37 zn156 zk156 (by decide) g6 ?_
      obtain ⟨g10, hF⟩ := ck_some hF
      refine mw_i2l C dX12_bothHave_38 g10 ?_
      obtain ⟨g11, hF⟩ := ck_some hF
      rcases ite_some hF with ⟨c12, hF⟩ | ⟨c12, hF⟩
      · refine mw_lcmp_ne_t (tgt := 47) C dX12_bothHave_39 dX12_bothHave_40 (by decide) g11 (in64_of g10) c12 ?_
        refine mw_iconst C dX12_bothHave_47 ?_
        exact T_X12_bothHave_48 C (F_X12_bothHave_6 n) ih x1 x2 x3 x4 x5 0 _ _ hF
      · refine mw_lcmp_ne_f (tgt := 47) C dX12_bothHave_39 dX12_bothHave_40 (by decide) g11 (in64_of g10) c12 ?_
        refine mw_iconst C dX12_bothHave_43 ?_
        refine mw_goto (tgt := 48) C dX12_bothHave_44 (by decide) ?_
        exact T_X12_bothHave_48 C (F_X12_bothHave_6 n) ih x1 x2 x3 x4 x5 1 _ _ hF
def F_X12_bothHave_0 (x1 : Int) (x2 : Int) (x3 : Int) (h : MH) : Option (Int × MH) :=
  F_X12_bothHave_6 20000 x1 x2 x3 0 0 h
set_option maxRecDepth 100000 in
theorem T_X12_bothHave_0 {Z : ZT} (C : Cx Z cX12_bothHave 7 RX12 3 (some .int)) (x1 : Int) (x2 : Int) (x3 : Int) (h : MH) (t : (Int × MH)) (hF : F_X12_bothHave_0 x1 x2 x3 h = some t) : MW Z (Qm Z (some (iv t.1)) zN zG t.2 0 0) 7 zN zG h 0 0 0 [(0, rfv (xd (zX Z)) 141), (1, iv x1), (2, iv x2), (3, iv x3)] [] := by
  unfold F_X12_bothHave_0 at hF
  refine mw_iconst C dX12_bothHave_0 ?_
  refine mw_istore [(4, iv 0), (0, rfv (xd (zX Z)) 141), (1, iv x1), (2, iv x2), (3, iv x3)] C dX12_bothHave_1 (by decide) rfl ?_
  refine mw_iconst C dX12_bothHave_3 ?_
  refine mw_istore [(5, iv 0), (4, iv 0), (0, rfv (xd (zX Z)) 141), (1, iv x1), (2, iv x2), (3, iv x3)] C dX12_bothHave_4 (by decide) rfl ?_
  refine mw_sub [2, 3, 4, 5, 1, 0] rfl ?_
  exact T_X12_bothHave_6 C 20000 x1 x2 x3 0 0 _ _ hF
def F_X12_bothHave (x1 : Int) (x2 : Int) (x3 : Int) (h : MH) : Option (Int × MH) := F_X12_bothHave_0 x1 x2 x3 h
theorem T_X12_bothHave (l : Launch) (X : XT) (x1 : Int) (x2 : Int) (x3 : Int) (h : MH) (t : (Int × MH)) (hF : F_X12_bothHave x1 x2 x3 h = some t) : Ct l X yX12_bothHave cX12_bothHave 7 (some .int) 3 [rfv (xd X) 141, iv x1, iv x2, iv x3] zN zG h (some (iv t.1)) zN zG t.2 0 0 := by
  refine Ct.head (by decide) (Nat.le_of_ble_eq_true rfl) (fun Z hX hl _ _ _ C => ?_)
  subst hX
  subst hl
  exact (T_X12_bothHave_0 C x1 x2 x3 _ _ hF)
/-! BottleLineModel.takesHeads(I)V -/
def F_X12_takesHeads_139 (k7 : Int → Int → MH → Option MH) (x1 : Int) (x2 : Int) (h : MH) : Option MH :=
  k7 x1 (x2 + 1) h
set_option maxRecDepth 100000 in
theorem T_X12_takesHeads_139 {Z : ZT} (C : Cx Z cX12_takesHeads 8 RX12 3 none) (k7 : Int → Int → MH → Option MH) (hk7 : ∀ (x1 : Int) (x2 : Int) (h : MH) (t : MH), k7 x1 x2 h = some t → MW Z (Qm Z none zN zG t 0 0) 8 zN zG h 0 0 7 [(0, rfv (xd (zX Z)) 141), (1, iv x1), (2, iv x2)] []) (x1 : Int) (x2 : Int) (h : MH) (t : MH) (hF : F_X12_takesHeads_139 k7 x1 x2 h = some t) : MW Z (Qm Z none zN zG t 0 0) 8 zN zG h 0 0 139 [(0, rfv (xd (zX Z)) 141), (1, iv x1), (2, iv x2)] [] := by
  unfold F_X12_takesHeads_139 at hF
  refine mw_iinc 2 [(2, iv (x2 + 1)), (0, rfv (xd (zX Z)) 141), (1, iv x1)] C dX12_takesHeads_139 rfl (by decide) rfl ?_
  refine mw_goto (tgt := 7) C dX12_takesHeads_142 (by decide) ?_
  refine mw_sub [1, 2, 0] rfl ?_
  exact hk7 x1 (x2 + 1) _ _ hF
def F_X12_takesHeads_133 (k7 : Int → Int → MH → Option MH) (k30 : Int → Int → Int → Int → MH → Option MH) (x1 : Int) (x2 : Int) (x3 : Int) (x4 : Int) (h : MH) : Option MH :=
  k30 x1 x2 x3 (x4 + 1) h
set_option maxRecDepth 100000 in
theorem T_X12_takesHeads_133 {Z : ZT} (C : Cx Z cX12_takesHeads 8 RX12 3 none) (k7 : Int → Int → MH → Option MH) (hk7 : ∀ (x1 : Int) (x2 : Int) (h : MH) (t : MH), k7 x1 x2 h = some t → MW Z (Qm Z none zN zG t 0 0) 8 zN zG h 0 0 7 [(0, rfv (xd (zX Z)) 141), (1, iv x1), (2, iv x2)] []) (k30 : Int → Int → Int → Int → MH → Option MH) (hk30 : ∀ (x1 : Int) (x2 : Int) (x3 : Int) (x4 : Int) (h : MH) (t : MH), k30 x1 x2 x3 x4 h = some t → MW Z (Qm Z none zN zG t 0 0) 8 zN zG h 0 0 30 [(0, rfv (xd (zX Z)) 141), (1, iv x1), (2, iv x2), (3, iv x3), (4, iv x4)] []) (x1 : Int) (x2 : Int) (x3 : Int) (x4 : Int) (h : MH) (t : MH) (hF : F_X12_takesHeads_133 k7 k30 x1 x2 x3 x4 h = some t) : MW Z (Qm Z none zN zG t 0 0) 8 zN zG h 0 0 133 [(0, rfv (xd (zX Z)) 141), (1, iv x1), (2, iv x2), (3, iv x3), (4, iv x4)] [] := by
  unfold F_X12_takesHeads_133 at hF
  refine mw_iinc 4 [(4, iv (x4 + 1)), (0, rfv (xd (zX Z)) 141), (1, iv x1), (2, iv x2), (3, iv x3)] C dX12_takesHeads_133 rfl (by decide) rfl ?_
  refine mw_goto (tgt := 30) C dX12_takesHeads_136 (by decide) ?_
  refine mw_sub [1, 2, 3, 4, 0] rfl ?_
  exact hk30 x1 x2 x3 (x4 + 1) _ _ hF
def F_X12_takesHeads_83 (k7 : Int → Int → MH → Option MH) (k30 : Int → Int → Int → Int → MH → Option MH) (x1 : Int) (x2 : Int) (x3 : Int) (x4 : Int) (x5 : Int) (x6 : Int) (h : MH) : Option MH :=
  ck (in32 x6) <|
  if x6 ≠ 0 then
    ck (0 ≤ (h 141 39) ∧ (h 141 39) < 144) <|
    nx (hup h 155 (h 141 39).toNat x2) fun h4 =>
    ck (0 ≤ (h4 141 39) ∧ (h4 141 39) < 144) <|
    nx (hup h4 156 (h4 141 39).toNat x4) fun h6 =>
    ck (0 ≤ (h6 141 39) ∧ (h6 141 39) < 144) <|
    nx (hup h6 157 (h6 141 39).toNat x5) fun h8 =>
    nx (hup h8 141 39 ((h8 141 39) + 1)) fun h9 =>
    F_X12_takesHeads_133 k7 k30 x1 x2 x3 x4 h9
  else
    F_X12_takesHeads_133 k7 k30 x1 x2 x3 x4 h
set_option maxRecDepth 100000 in
theorem T_X12_takesHeads_83 {Z : ZT} (C : Cx Z cX12_takesHeads 8 RX12 3 none) (k7 : Int → Int → MH → Option MH) (hk7 : ∀ (x1 : Int) (x2 : Int) (h : MH) (t : MH), k7 x1 x2 h = some t → MW Z (Qm Z none zN zG t 0 0) 8 zN zG h 0 0 7 [(0, rfv (xd (zX Z)) 141), (1, iv x1), (2, iv x2)] []) (k30 : Int → Int → Int → Int → MH → Option MH) (hk30 : ∀ (x1 : Int) (x2 : Int) (x3 : Int) (x4 : Int) (h : MH) (t : MH), k30 x1 x2 x3 x4 h = some t → MW Z (Qm Z none zN zG t 0 0) 8 zN zG h 0 0 30 [(0, rfv (xd (zX Z)) 141), (1, iv x1), (2, iv x2), (3, iv x3), (4, iv x4)] []) (x1 : Int) (x2 : Int) (x3 : Int) (x4 : Int) (x5 : Int) (x6 : Int) (h : MH) (t : MH) (hF : F_X12_takesHeads_83 k7 k30 x1 x2 x3 x4 x5 x6 h = some t) : MW Z (Qm Z none zN zG t 0 0) 8 zN zG h 0 0 83 [(0, rfv (xd (zX Z)) 141), (1, iv x1), (2, iv x2), (3, iv x3), (4, iv x4), (5, iv x5), (6, iv x6)] [] := by
  unfold F_X12_takesHeads_83 at hF
  refine mw_iload 6 C dX12_takesHeads_83 rfl ?_
  obtain ⟨g1, hF⟩ := ck_some hF
  rcases ite_some hF with ⟨c2, hF⟩ | ⟨c2, hF⟩
  · refine mw_if_ne_t (tgt := 91) C dX12_takesHeads_85 (by decide) g1 c2 ?_
    refine mw_aload_n 0 C dX12_takesHeads_91 rfl rfl ?_
    refine mw_get (k := 34) (T := TX12) (v := rfv (xd (zX Z)) 155) C dX12_takesHeads_92 zn141 zk141 (by decide) rfl inX12 (by decide) wd923 rfl (zfv_r rfl zg_141_34) ?_
    refine mw_aload_n 0 C dX12_takesHeads_95 rfl rfl ?_
    refine mw_get (k := 39) (T := TX12) (v := iv (h 141 39)) C dX12_takesHeads_96 zn141 zk141 (by decide) rfl inX12 (by decide) wd928 rfl rfl ?_
    refine mw_iload_n 2 C dX12_takesHeads_99 rfl rfl ?_
    obtain ⟨g3, hF⟩ := ck_some hF
    obtain ⟨h4, eh4, hF⟩ := nx_some hF
    refine mw_iast C dX12_takesHeads_100 zn155 zk155 (by decide) g3 (mw_h eh4 ?_)
    refine mw_aload_n 0 C dX12_takesHeads_101 rfl rfl ?_
    refine mw_get (k := 35) (T := TX12) (v := rfv (xd (zX Z)) 156) C dX12_takesHeads_102 zn141 zk141 (by decide) rfl inX12 (by decide) wd924 rfl (zfv_r rfl zg_141_35) ?_
    refine mw_aload_n 0 C dX12_takesHeads_105 rfl rfl ?_
    refine mw_get (k := 39) (T := TX12) (v := iv (h4 141 39)) C dX12_takesHeads_106 zn141 zk141 (by decide) rfl inX12 (by decide) wd928 rfl rfl ?_
    refine mw_iload 4 C dX12_takesHeads_109 rfl ?_
    obtain ⟨g5, hF⟩ := ck_some hF
    obtain ⟨h6, eh6, hF⟩ := nx_some hF
    refine mw_iast C dX12_takesHeads_111 zn156 zk156 (by decide) g5 (mw_h eh6 ?_)
    refine mw_aload_n 0 C dX12_takesHeads_112 rfl rfl ?_
    refine mw_get (k := 36) (T := TX12) (v := rfv (xd (zX Z)) 157) C dX12_takesHeads_113 zn141 zk141 (by decide) rfl inX12 (by decide) wd925 rfl (zfv_r rfl zg_141_36) ?_
    refine mw_aload_n 0 C dX12_takesHeads_116 rfl rfl ?_
    refine mw_get (k := 39) (T := TX12) (v := iv (h6 141 39)) C dX12_takesHeads_117 zn141 zk141 (by decide) rfl inX12 (by decide) wd928 rfl rfl ?_
    refine mw_iload 5 C dX12_takesHeads_120 rfl ?_
    obtain ⟨g7, hF⟩ := ck_some hF
    obtain ⟨h8, eh8, hF⟩ := nx_some hF
    refine mw_iast C dX12_takesHeads_122 zn157 zk157 (by decide) g7 (mw_h eh8 ?_)
    refine mw_aload_n 0 C dX12_takesHeads_123 rfl rfl ?_
    refine mw_dup C dX12_takesHeads_124 rfl ?_
    refine mw_get (k := 39) (T := TX12) (v := iv (h8 141 39)) C dX12_takesHeads_125 zn141 zk141 (by decide) rfl inX12 (by decide) wd928 rfl rfl ?_
    refine mw_iconst C dX12_takesHeads_128 ?_
    refine mw_iadd C dX12_takesHeads_129 ?_
    obtain ⟨h9, eh9, hF⟩ := nx_some hF
    refine mw_put (k := 39) (T := TX12) (ty0 := tyX12) (x := ((h8 141 39) + 1)) C dX12_takesHeads_130 zn141 zk141 (by decide) rfl inX12 tyX12_ok nmX12 (by decide) wd928 rfl rfl rfl rfl rfl (by decide) (mw_h eh9 ?_)
    refine mw_sub [0, 1, 2, 3, 4] rfl ?_
    exact T_X12_takesHeads_133 C k7 hk7 k30 hk30 x1 x2 x3 x4 _ _ hF
  · refine mw_if_ne_f (tgt := 91) C dX12_takesHeads_85 (by decide) g1 c2 ?_
    refine mw_goto (tgt := 133) C dX12_takesHeads_88 (by decide) ?_
    refine mw_sub [0, 1, 2, 3, 4] rfl ?_
    exact T_X12_takesHeads_133 C k7 hk7 k30 hk30 x1 x2 x3 x4 _ _ hF
def F_X12_takesHeads_51 (k7 : Int → Int → MH → Option MH) (k30 : Int → Int → Int → Int → MH → Option MH) : Nat → Int → Int → Int → Int → Int → Int → Int → MH → Option MH
  | 0, _, _, _, _, _, _, _, _ => none
  | n + 1, x1, x2, x3, x4, x5, x6, x7, h =>
    ck (in32 x7) <|
    ck (in32 x1) <|
    if x1 ≤ x7 then
      F_X12_takesHeads_83 k7 k30 x1 x2 x3 x4 x5 x6 h
    else
      ck (in32 x6) <|
      if x6 = 0 then
        F_X12_takesHeads_83 k7 k30 x1 x2 x3 x4 x5 x6 h
      else
        ck (0 ≤ x7 ∧ x7 < 10000) <|
        nx (h 154 x7.toNat) fun v7 =>
        nx (x7 + x3) fun v8 =>
        F_X12_takesHeads_51 k7 k30 n x1 x2 x3 x4 (x5 + 1) v7 v8 h
set_option maxRecDepth 100000 in
theorem T_X12_takesHeads_51 {Z : ZT} (C : Cx Z cX12_takesHeads 8 RX12 3 none) (k7 : Int → Int → MH → Option MH) (hk7 : ∀ (x1 : Int) (x2 : Int) (h : MH) (t : MH), k7 x1 x2 h = some t → MW Z (Qm Z none zN zG t 0 0) 8 zN zG h 0 0 7 [(0, rfv (xd (zX Z)) 141), (1, iv x1), (2, iv x2)] []) (k30 : Int → Int → Int → Int → MH → Option MH) (hk30 : ∀ (x1 : Int) (x2 : Int) (x3 : Int) (x4 : Int) (h : MH) (t : MH), k30 x1 x2 x3 x4 h = some t → MW Z (Qm Z none zN zG t 0 0) 8 zN zG h 0 0 30 [(0, rfv (xd (zX Z)) 141), (1, iv x1), (2, iv x2), (3, iv x3), (4, iv x4)] []) : ∀ (n : Nat) (x1 : Int) (x2 : Int) (x3 : Int) (x4 : Int) (x5 : Int) (x6 : Int) (x7 : Int) (h : MH) (t : MH), F_X12_takesHeads_51 k7 k30 n x1 x2 x3 x4 x5 x6 x7 h = some t → MW Z (Qm Z none zN zG t 0 0) 8 zN zG h 0 0 51 [(0, rfv (xd (zX Z)) 141), (1, iv x1), (2, iv x2), (3, iv x3), (4, iv x4), (5, iv x5), (6, iv x6), (7, iv x7)] [] := by
  intro n
  induction n with
  | zero =>
    intros
    rename_i hF
    exact absurd hF (by intro q; cases q)
  | succ n ih =>
    intro x1 x2 x3 x4 x5 x6 x7 h t hF
    rw [F_X12_takesHeads_51] at hF
    refine mw_iload 7 C dX12_takesHeads_51 rfl ?_
    refine mw_iload_n 1 C dX12_takesHeads_53 rfl rfl ?_
    obtain ⟨g1, hF⟩ := ck_some hF
    obtain ⟨g2, hF⟩ := ck_some hF
    rcases ite_some hF with ⟨c3, hF⟩ | ⟨c3, hF⟩
    · refine mw_icmp_ge_t (tgt := 83) C dX12_takesHeads_54 (by decide) g1 g2 c3 ?_
      refine mw_sub [0, 1, 2, 3, 4, 5, 6] rfl ?_
      exact T_X12_takesHeads_83 C k7 hk7 k30 hk30 x1 x2 x3 x4 x5 x6 _ _ hF
    · refine mw_icmp_ge_f (tgt := 83) C dX12_takesHeads_54 (by decide) g1 g2 c3 ?_
      refine mw_iload 6 C dX12_takesHeads_57 rfl ?_
      obtain ⟨g4, hF⟩ := ck_some hF
      rcases ite_some hF with ⟨c5, hF⟩ | ⟨c5, hF⟩
      · refine mw_if_eq_t (tgt := 83) C dX12_takesHeads_59 (by decide) g4 c5 ?_
        refine mw_sub [0, 1, 2, 3, 4, 5, 6] rfl ?_
        exact T_X12_takesHeads_83 C k7 hk7 k30 hk30 x1 x2 x3 x4 x5 x6 _ _ hF
      · refine mw_if_eq_f (tgt := 83) C dX12_takesHeads_59 (by decide) g4 c5 ?_
        refine mw_aload_n 0 C dX12_takesHeads_62 rfl rfl ?_
        refine mw_get (k := 33) (T := TX12) (v := rfv (xd (zX Z)) 154) C dX12_takesHeads_63 zn141 zk141 (by decide) rfl inX12 (by decide) wd922 rfl (zfv_r rfl zg_141_33) ?_
        refine mw_iload 7 C dX12_takesHeads_66 rfl ?_
        obtain ⟨g6, hF⟩ := ck_some hF
        refine mw_zald C dX12_takesHeads_68 zn154 zk154 (by decide) g6 ?_
        obtain ⟨v7, ev7, hF⟩ := nx_some hF
        refine mw_ti ev7 ?_
        refine mw_istore [(6, iv v7), (0, rfv (xd (zX Z)) 141), (1, iv x1), (2, iv x2), (3, iv x3), (4, iv x4), (5, iv x5), (7, iv x7)] C dX12_takesHeads_69 (by decide) rfl ?_
        refine mw_iinc 6 [(5, iv (x5 + 1)), (6, iv v7), (0, rfv (xd (zX Z)) 141), (1, iv x1), (2, iv x2), (3, iv x3), (4, iv x4), (7, iv x7)] C dX12_takesHeads_71 rfl (by decide) rfl ?_
        refine mw_iload 7 C dX12_takesHeads_74 rfl ?_
        refine mw_iload_n 5 C dX12_takesHeads_76 rfl rfl ?_
        refine mw_iadd C dX12_takesHeads_77 ?_
        obtain ⟨v8, ev8, hF⟩ := nx_some hF
        refine mw_ti ev8 ?_
        refine mw_istore [(7, iv v8), (5, iv (x5 + 1)), (6, iv v7), (0, rfv (xd (zX Z)) 141), (1, iv x1), (2, iv x2), (3, iv x3), (4, iv x4)] C dX12_takesHeads_78 (by decide) rfl ?_
        refine mw_goto (tgt := 51) C dX12_takesHeads_80 (by decide) ?_
        refine mw_sub [3, 4, 5, 6, 7, 1, 2, 0] rfl ?_
        exact ih x1 x2 x3 x4 (x5 + 1) v7 v8 _ _ hF
def F_X12_takesHeads_30 (k7 : Int → Int → MH → Option MH) : Nat → Int → Int → Int → Int → MH → Option MH
  | 0, _, _, _, _, _ => none
  | n + 1, x1, x2, x3, x4, h =>
    ck (in32 x4) <|
    ck (in32 x3) <|
    if x3 ≤ x4 then
      F_X12_takesHeads_139 k7 x1 x2 h
    else
      if x3 ≤ 1 then
        F_X12_takesHeads_139 k7 x1 x2 h
      else
        F_X12_takesHeads_51 k7 (F_X12_takesHeads_30 k7 n) 20000 x1 x2 x3 x4 0 1 x4 h
set_option maxRecDepth 100000 in
theorem T_X12_takesHeads_30 {Z : ZT} (C : Cx Z cX12_takesHeads 8 RX12 3 none) (k7 : Int → Int → MH → Option MH) (hk7 : ∀ (x1 : Int) (x2 : Int) (h : MH) (t : MH), k7 x1 x2 h = some t → MW Z (Qm Z none zN zG t 0 0) 8 zN zG h 0 0 7 [(0, rfv (xd (zX Z)) 141), (1, iv x1), (2, iv x2)] []) : ∀ (n : Nat) (x1 : Int) (x2 : Int) (x3 : Int) (x4 : Int) (h : MH) (t : MH), F_X12_takesHeads_30 k7 n x1 x2 x3 x4 h = some t → MW Z (Qm Z none zN zG t 0 0) 8 zN zG h 0 0 30 [(0, rfv (xd (zX Z)) 141), (1, iv x1), (2, iv x2), (3, iv x3), (4, iv x4)] [] := by
  intro n
  induction n with
  | zero =>
    intros
    rename_i hF
    exact absurd hF (by intro q; cases q)
  | succ n ih =>
    intro x1 x2 x3 x4 h t hF
    rw [F_X12_takesHeads_30] at hF
    refine mw_iload 4 C dX12_takesHeads_30 rfl ?_
    refine mw_iload_n 3 C dX12_takesHeads_32 rfl rfl ?_
    obtain ⟨g1, hF⟩ := ck_some hF
    obtain ⟨g2, hF⟩ := ck_some hF
    rcases ite_some hF with ⟨c3, hF⟩ | ⟨c3, hF⟩
    · refine mw_icmp_ge_t (tgt := 139) C dX12_takesHeads_33 (by decide) g1 g2 c3 ?_
      refine mw_sub [0, 1, 2] rfl ?_
      exact T_X12_takesHeads_139 C k7 hk7 x1 x2 _ _ hF
    · refine mw_icmp_ge_f (tgt := 139) C dX12_takesHeads_33 (by decide) g1 g2 c3 ?_
      refine mw_iload_n 3 C dX12_takesHeads_36 rfl rfl ?_
      refine mw_iconst C dX12_takesHeads_37 ?_
      rcases ite_some hF with ⟨c4, hF⟩ | ⟨c4, hF⟩
      · refine mw_icmp_le_t (tgt := 139) C dX12_takesHeads_38 (by decide) g2 (by decide) c4 ?_
        refine mw_sub [0, 1, 2] rfl ?_
        exact T_X12_takesHeads_139 C k7 hk7 x1 x2 _ _ hF
      · refine mw_icmp_le_f (tgt := 139) C dX12_takesHeads_38 (by decide) g2 (by decide) c4 ?_
        refine mw_iconst C dX12_takesHeads_41 ?_
        refine mw_istore [(5, iv 0), (0, rfv (xd (zX Z)) 141), (1, iv x1), (2, iv x2), (3, iv x3), (4, iv x4)] C dX12_takesHeads_42 (by decide) rfl ?_
        refine mw_iconst C dX12_takesHeads_44 ?_
        refine mw_istore [(6, iv 1), (5, iv 0), (0, rfv (xd (zX Z)) 141), (1, iv x1), (2, iv x2), (3, iv x3), (4, iv x4)] C dX12_takesHeads_45 (by decide) rfl ?_
        refine mw_iload 6 C dX12_takesHeads_47 rfl ?_
        refine mw_istore [(7, iv x4), (6, iv 1), (5, iv 0), (0, rfv (xd (zX Z)) 141), (1, iv x1), (2, iv x2), (3, iv x3), (4, iv x4)] C dX12_takesHeads_49 (by decide) rfl ?_
        refine mw_sub [3, 4, 5, 6, 7, 2, 1, 0] rfl ?_
        exact T_X12_takesHeads_51 C k7 hk7 (F_X12_takesHeads_30 k7 n) ih 20000 x1 x2 x3 x4 0 1 x4 _ _ hF
def F_X12_takesHeads_7 : Nat → Int → Int → MH → Option MH
  | 0, _, _, _ => none
  | n + 1, x1, x2, h =>
    ck (in32 x2) <|
    ck (in64 (h 142 0)) <|
    if (h 142 0) ≤ x2 then
      some h
    else
      (F_X12_ofMachine x2 1 h).bind fun q4 =>
      F_X12_takesHeads_30 (F_X12_takesHeads_7 n) 20000 x1 x2 q4.1 0 q4.2
set_option maxRecDepth 100000 in
theorem T_X12_takesHeads_7 {Z : ZT} (C : Cx Z cX12_takesHeads 8 RX12 3 none) : ∀ (n : Nat) (x1 : Int) (x2 : Int) (h : MH) (t : MH), F_X12_takesHeads_7 n x1 x2 h = some t → MW Z (Qm Z none zN zG t 0 0) 8 zN zG h 0 0 7 [(0, rfv (xd (zX Z)) 141), (1, iv x1), (2, iv x2)] [] := by
  intro n
  induction n with
  | zero =>
    intros
    rename_i hF
    exact absurd hF (by intro q; cases q)
  | succ n ih =>
    intro x1 x2 h t hF
    rw [F_X12_takesHeads_7] at hF
    refine mw_iload_n 2 C dX12_takesHeads_7 rfl rfl ?_
    obtain ⟨g1, hF⟩ := ck_some hF
    refine mw_i2l C dX12_takesHeads_8 g1 ?_
    refine mw_aload_n 0 C dX12_takesHeads_9 rfl rfl ?_
    refine mw_get (k := 0) (T := TX12) (v := rfv (xd (zX Z)) 142) C dX12_takesHeads_10 zn141 zk141 (by decide) rfl inX12 (by decide) wd889 rfl (zfv_r rfl zg_141_0) ?_
    refine mw_iconst C dX12_takesHeads_13 ?_
    refine mw_lald C dX12_takesHeads_14 zn142 zk142 (by decide) (by decide) ?_
    obtain ⟨g2, hF⟩ := ck_some hF
    rcases ite_some hF with ⟨c3, hF⟩ | ⟨c3, hF⟩
    · refine mw_lcmp_ge_t (tgt := 145) C dX12_takesHeads_15 dX12_takesHeads_16 (by decide) (in64_of g1) g2 c3 ?_
      cases hF
      exact mw_vret C dX12_takesHeads_145 rfl rfl
    · refine mw_lcmp_ge_f (tgt := 145) C dX12_takesHeads_15 dX12_takesHeads_16 (by decide) (in64_of g1) g2 c3 ?_
      refine mw_aload_n 0 C dX12_takesHeads_19 rfl rfl ?_
      refine mw_iload_n 2 C dX12_takesHeads_20 rfl rfl ?_
      refine mw_iconst C dX12_takesHeads_21 ?_
      obtain ⟨q4, hq4, hF⟩ := bind_some hF
      refine mw_callV (c := 141) [iv x2, iv 1] [] C dX12_takesHeads_22 (T_X12_ofMachine (zl Z) (zX Z) x2 1 _ _ hq4) rfl zn141 zk141 (by decide) rfl wd1086 wd1087 wd1382 wd14 wd1088 hd_X12_ofMachine rfl (by decide) (by decide) (Nat.le_of_ble_eq_true rfl) ⟨Nat.zero_le _, Nat.zero_le _⟩ ?_
      refine mw_l2i C dX12_takesHeads_25 ?_
      refine mw_istore_n [(3, iv q4.1), (0, rfv (xd (zX Z)) 141), (1, iv x1), (2, iv x2)] C dX12_takesHeads_26 rfl (by decide) rfl ?_
      refine mw_iconst C dX12_takesHeads_27 ?_
      refine mw_istore [(4, iv 0), (3, iv q4.1), (0, rfv (xd (zX Z)) 141), (1, iv x1), (2, iv x2)] C dX12_takesHeads_28 (by decide) rfl ?_
      refine mw_sub [2, 3, 4, 1, 0] rfl ?_
      exact T_X12_takesHeads_30 C (F_X12_takesHeads_7 n) ih 20000 x1 x2 q4.1 0 _ _ hF
def F_X12_takesHeads_0 (x1 : Int) (h : MH) : Option MH :=
  nx (hup h 141 39 0) fun h1 =>
  F_X12_takesHeads_7 20000 x1 0 h1
set_option maxRecDepth 100000 in
theorem T_X12_takesHeads_0 {Z : ZT} (C : Cx Z cX12_takesHeads 8 RX12 3 none) (x1 : Int) (h : MH) (t : MH) (hF : F_X12_takesHeads_0 x1 h = some t) : MW Z (Qm Z none zN zG t 0 0) 8 zN zG h 0 0 0 [(0, rfv (xd (zX Z)) 141), (1, iv x1)] [] := by
  unfold F_X12_takesHeads_0 at hF
  refine mw_aload_n 0 C dX12_takesHeads_0 rfl rfl ?_
  refine mw_iconst C dX12_takesHeads_1 ?_
  obtain ⟨h1, eh1, hF⟩ := nx_some hF
  refine mw_put (k := 39) (T := TX12) (ty0 := tyX12) (x := 0) C dX12_takesHeads_2 zn141 zk141 (by decide) rfl inX12 tyX12_ok nmX12 (by decide) wd928 rfl rfl rfl rfl rfl (by decide) (mw_h eh1 ?_)
  refine mw_iconst C dX12_takesHeads_5 ?_
  refine mw_istore_n [(2, iv 0), (0, rfv (xd (zX Z)) 141), (1, iv x1)] C dX12_takesHeads_6 rfl (by decide) rfl ?_
  refine mw_sub [1, 2, 0] rfl ?_
  exact T_X12_takesHeads_7 C 20000 x1 0 _ _ hF
def F_X12_takesHeads (x1 : Int) (h : MH) : Option MH := F_X12_takesHeads_0 x1 h
theorem T_X12_takesHeads (l : Launch) (X : XT) (x1 : Int) (h : MH) (t : MH) (hF : F_X12_takesHeads x1 h = some t) : Ct l X yX12_takesHeads cX12_takesHeads 8 none 3 [rfv (xd X) 141, iv x1] zN zG h none zN zG t 0 0 := by
  refine Ct.head (by decide) (Nat.le_of_ble_eq_true rfl) (fun Z hX hl _ _ _ C => ?_)
  subst hX
  subst hl
  exact (T_X12_takesHeads_0 C x1 _ _ hF)
/-! BottleLineModel.found(II)V -/
def F_X12_found_0 (x1 : Int) (x2 : Int) (h : MH) : Option MH :=
  nx (hup h 141 40 ((h 141 40) + 1)) fun h1 =>
  ck (in32 (h1 141 40)) <|
  if (h1 141 40) ≤ 1 then
    ck (0 ≤ x1 ∧ x1 < 144) <|
    nx (hup h1 159 0 (h1 155 x1.toNat)) fun h5 =>
    nx (hup h5 159 1 (h5 156 x1.toNat)) fun h6 =>
    ck (0 ≤ x2 ∧ x2 < 144) <|
    nx (hup h6 159 2 (h6 155 x2.toNat)) fun h8 =>
    nx (hup h8 159 3 (h8 156 x2.toNat)) fun h9 =>
    some h9
  else
    some h1
set_option maxRecDepth 100000 in
theorem T_X12_found_0 {Z : ZT} (C : Cx Z cX12_found 3 RX12 1 none) (x1 : Int) (x2 : Int) (h : MH) (t : MH) (hF : F_X12_found_0 x1 x2 h = some t) : MW Z (Qm Z none zN zG t 0 0) 3 zN zG h 0 0 0 [(0, rfv (xd (zX Z)) 141), (1, iv x1), (2, iv x2)] [] := by
  unfold F_X12_found_0 at hF
  refine mw_aload_n 0 C dX12_found_0 rfl rfl ?_
  refine mw_dup C dX12_found_1 rfl ?_
  refine mw_get (k := 40) (T := TX12) (v := iv (h 141 40)) C dX12_found_2 zn141 zk141 (by decide) rfl inX12 (by decide) wd929 rfl rfl ?_
  refine mw_iconst C dX12_found_5 ?_
  refine mw_iadd C dX12_found_6 ?_
  obtain ⟨h1, eh1, hF⟩ := nx_some hF
  refine mw_put (k := 40) (T := TX12) (ty0 := tyX12) (x := ((h 141 40) + 1)) C dX12_found_7 zn141 zk141 (by decide) rfl inX12 tyX12_ok nmX12 (by decide) wd929 rfl rfl rfl rfl rfl (by decide) (mw_h eh1 ?_)
  refine mw_aload_n 0 C dX12_found_10 rfl rfl ?_
  refine mw_get (k := 40) (T := TX12) (v := iv (h1 141 40)) C dX12_found_11 zn141 zk141 (by decide) rfl inX12 (by decide) wd929 rfl rfl ?_
  refine mw_iconst C dX12_found_14 ?_
  obtain ⟨g2, hF⟩ := ck_some hF
  rcases ite_some hF with ⟨c3, hF⟩ | ⟨c3, hF⟩
  · refine mw_icmp_le_t (tgt := 19) C dX12_found_15 (by decide) g2 (by decide) c3 ?_
    refine mw_aload_n 0 C dX12_found_19 rfl rfl ?_
    refine mw_get (k := 38) (T := TX12) (v := rfv (xd (zX Z)) 159) C dX12_found_20 zn141 zk141 (by decide) rfl inX12 (by decide) wd927 rfl (zfv_r rfl zg_141_38) ?_
    refine mw_iconst C dX12_found_23 ?_
    refine mw_aload_n 0 C dX12_found_24 rfl rfl ?_
    refine mw_get (k := 34) (T := TX12) (v := rfv (xd (zX Z)) 155) C dX12_found_25 zn141 zk141 (by decide) rfl inX12 (by decide) wd923 rfl (zfv_r rfl zg_141_34) ?_
    refine mw_iload_n 1 C dX12_found_28 rfl rfl ?_
    obtain ⟨g4, hF⟩ := ck_some hF
    refine mw_iald C dX12_found_29 zn155 zk155 (by decide) g4 ?_
    obtain ⟨h5, eh5, hF⟩ := nx_some hF
    refine mw_iast C dX12_found_30 zn159 zk159 (by decide) (by decide) (mw_h eh5 ?_)
    refine mw_aload_n 0 C dX12_found_31 rfl rfl ?_
    refine mw_get (k := 38) (T := TX12) (v := rfv (xd (zX Z)) 159) C dX12_found_32 zn141 zk141 (by decide) rfl inX12 (by decide) wd927 rfl (zfv_r rfl zg_141_38) ?_
    refine mw_iconst C dX12_found_35 ?_
    refine mw_aload_n 0 C dX12_found_36 rfl rfl ?_
    refine mw_get (k := 35) (T := TX12) (v := rfv (xd (zX Z)) 156) C dX12_found_37 zn141 zk141 (by decide) rfl inX12 (by decide) wd924 rfl (zfv_r rfl zg_141_35) ?_
    refine mw_iload_n 1 C dX12_found_40 rfl rfl ?_
    refine mw_iald C dX12_found_41 zn156 zk156 (by decide) g4 ?_
    obtain ⟨h6, eh6, hF⟩ := nx_some hF
    refine mw_iast C dX12_found_42 zn159 zk159 (by decide) (by decide) (mw_h eh6 ?_)
    refine mw_aload_n 0 C dX12_found_43 rfl rfl ?_
    refine mw_get (k := 38) (T := TX12) (v := rfv (xd (zX Z)) 159) C dX12_found_44 zn141 zk141 (by decide) rfl inX12 (by decide) wd927 rfl (zfv_r rfl zg_141_38) ?_
    refine mw_iconst C dX12_found_47 ?_
    refine mw_aload_n 0 C dX12_found_48 rfl rfl ?_
    refine mw_get (k := 34) (T := TX12) (v := rfv (xd (zX Z)) 155) C dX12_found_49 zn141 zk141 (by decide) rfl inX12 (by decide) wd923 rfl (zfv_r rfl zg_141_34) ?_
    refine mw_iload_n 2 C dX12_found_52 rfl rfl ?_
    obtain ⟨g7, hF⟩ := ck_some hF
    refine mw_iald C dX12_found_53 zn155 zk155 (by decide) g7 ?_
    obtain ⟨h8, eh8, hF⟩ := nx_some hF
    refine mw_iast C dX12_found_54 zn159 zk159 (by decide) (by decide) (mw_h eh8 ?_)
    refine mw_aload_n 0 C dX12_found_55 rfl rfl ?_
    refine mw_get (k := 38) (T := TX12) (v := rfv (xd (zX Z)) 159) C dX12_found_56 zn141 zk141 (by decide) rfl inX12 (by decide) wd927 rfl (zfv_r rfl zg_141_38) ?_
    refine mw_iconst C dX12_found_59 ?_
    refine mw_aload_n 0 C dX12_found_60 rfl rfl ?_
    refine mw_get (k := 35) (T := TX12) (v := rfv (xd (zX Z)) 156) C dX12_found_61 zn141 zk141 (by decide) rfl inX12 (by decide) wd924 rfl (zfv_r rfl zg_141_35) ?_
    refine mw_iload_n 2 C dX12_found_64 rfl rfl ?_
    refine mw_iald C dX12_found_65 zn156 zk156 (by decide) g7 ?_
    obtain ⟨h9, eh9, hF⟩ := nx_some hF
    refine mw_iast C dX12_found_66 zn159 zk159 (by decide) (by decide) (mw_h eh9 ?_)
    cases hF
    exact mw_vret C dX12_found_67 rfl rfl
  · refine mw_icmp_le_f (tgt := 19) C dX12_found_15 (by decide) g2 (by decide) c3 ?_
    cases hF
    exact mw_vret C dX12_found_18 rfl rfl
def F_X12_found (x1 : Int) (x2 : Int) (h : MH) : Option MH := F_X12_found_0 x1 x2 h
theorem T_X12_found (l : Launch) (X : XT) (x1 : Int) (x2 : Int) (h : MH) (t : MH) (hF : F_X12_found x1 x2 h = some t) : Ct l X yX12_found cX12_found 3 none 1 [rfv (xd X) 141, iv x1, iv x2] zN zG h none zN zG t 0 0 := by
  refine Ct.head (by decide) (Nat.le_of_ble_eq_true rfl) (fun Z hX hl _ _ _ C => ?_)
  subst hX
  subst hl
  exact (T_X12_found_0 C x1 x2 _ _ hF)
/-! BottleLineModel.heads(III)I -/
def F_X12_heads_129 (s1 : Int) (h : MH) : Option (Int × MH) :=
  (F_X12_refuse s1 h).bind fun q1 =>
  some (q1.1, q1.2)
set_option maxRecDepth 100000 in
theorem T_X12_heads_129 {Z : ZT} (C : Cx Z cX12_heads 10 RX12 4 (some .int)) (s1 : Int) (h : MH) (t : (Int × MH)) (hF : F_X12_heads_129 s1 h = some t) : MW Z (Qm Z (some (iv t.1)) zN zG t.2 0 0) 10 zN zG h 0 0 129 [] [iv s1, rfv (xd (zX Z)) 141] := by
  unfold F_X12_heads_129 at hF
  obtain ⟨q1, hq1, hF⟩ := bind_some hF
  refine mw_callV (c := 141) [iv s1] [] C dX12_heads_129 (T_X12_refuse (zl Z) (zX Z) s1 _ _ hq1) rfl zn141 zk141 (by decide) rfl wd997 wd998 wd1360 wd14 wd999 hd_X12_refuse rfl (by decide) (by decide) (Nat.le_of_ble_eq_true rfl) ⟨Nat.zero_le _, Nat.zero_le _⟩ ?_
  cases hF
  exact mw_iret C dX12_heads_132 rfl rfl
def F_X12_heads_117 (x4 : Int) (h : MH) : Option (Int × MH) :=
  ck (in32 x4) <|
  if x4 ≤ 0 then
    F_X12_heads_129 5 h
  else
    F_X12_heads_129 x4 h
set_option maxRecDepth 100000 in
theorem T_X12_heads_117 {Z : ZT} (C : Cx Z cX12_heads 10 RX12 4 (some .int)) (x4 : Int) (h : MH) (t : (Int × MH)) (hF : F_X12_heads_117 x4 h = some t) : MW Z (Qm Z (some (iv t.1)) zN zG t.2 0 0) 10 zN zG h 0 0 117 [(0, rfv (xd (zX Z)) 141), (4, iv x4)] [] := by
  unfold F_X12_heads_117 at hF
  refine mw_aload_n 0 C dX12_heads_117 rfl rfl ?_
  refine mw_iload 1 C dX12_heads_118 rfl ?_
  obtain ⟨g1, hF⟩ := ck_some hF
  rcases ite_some hF with ⟨c2, hF⟩ | ⟨c2, hF⟩
  · refine mw_if_le_t (tgt := 128) C dX12_heads_120 (by decide) g1 c2 ?_
    refine mw_iconst C dX12_heads_128 ?_
    refine mw_sub [] rfl ?_
    exact T_X12_heads_129 C 5 _ _ hF
  · refine mw_if_le_f (tgt := 128) C dX12_heads_120 (by decide) g1 c2 ?_
    refine mw_iload 1 C dX12_heads_123 rfl ?_
    refine mw_goto (tgt := 129) C dX12_heads_125 (by decide) ?_
    refine mw_sub [] rfl ?_
    exact T_X12_heads_129 C x4 _ _ hF
def F_X12_heads_372 (x6 : Int) (x7 : Int) (h : MH) : Option (Int × MH) :=
  ck (in32 (h 141 40)) <|
  if (h 141 40) ≠ 0 then
    nx (hup h 141 41 x7) fun h3 =>
    ck (in32 x7) <|
    (F_X12_gives x7 h3).bind fun q5 =>
    some (q5.1, q5.2)
  else
    nx (hup h 141 40 x6) fun h6 =>
    (F_X12_refuse 6 h6).bind fun q7 =>
    some (q7.1, q7.2)
set_option maxRecDepth 100000 in
theorem T_X12_heads_372 {Z : ZT} (C : Cx Z cX12_heads 10 RX12 4 (some .int)) (x6 : Int) (x7 : Int) (h : MH) (t : (Int × MH)) (hF : F_X12_heads_372 x6 x7 h = some t) : MW Z (Qm Z (some (iv t.1)) zN zG t.2 0 0) 10 zN zG h 0 0 372 [(0, rfv (xd (zX Z)) 141), (6, iv x6), (7, iv x7)] [] := by
  unfold F_X12_heads_372 at hF
  refine mw_aload_n 0 C dX12_heads_372 rfl rfl ?_
  refine mw_get (k := 40) (T := TX12) (v := iv (h 141 40)) C dX12_heads_373 zn141 zk141 (by decide) rfl inX12 (by decide) wd929 rfl rfl ?_
  obtain ⟨g1, hF⟩ := ck_some hF
  rcases ite_some hF with ⟨c2, hF⟩ | ⟨c2, hF⟩
  · refine mw_if_ne_t (tgt := 392) C dX12_heads_376 (by decide) g1 c2 ?_
    refine mw_aload_n 0 C dX12_heads_392 rfl rfl ?_
    refine mw_iload 2 C dX12_heads_393 rfl ?_
    obtain ⟨h3, eh3, hF⟩ := nx_some hF
    refine mw_put (k := 41) (T := TX12) (ty0 := tyX12) (x := x7) C dX12_heads_395 zn141 zk141 (by decide) rfl inX12 tyX12_ok nmX12 (by decide) wd930 rfl rfl rfl rfl rfl (by decide) (mw_h eh3 ?_)
    refine mw_aload_n 0 C dX12_heads_398 rfl rfl ?_
    refine mw_iload 2 C dX12_heads_399 rfl ?_
    obtain ⟨g4, hF⟩ := ck_some hF
    refine mw_i2l C dX12_heads_401 g4 ?_
    obtain ⟨q5, hq5, hF⟩ := bind_some hF
    refine mw_callV (c := 141) [lvv x7] [] C dX12_heads_402 (T_X12_gives (zl Z) (zX Z) x7 _ _ hq5) rfl zn141 zk141 (by decide) rfl wd1069 wd1070 wd1379 wd14 wd1071 hd_X12_gives rfl (by decide) (by decide) (Nat.le_of_ble_eq_true rfl) ⟨Nat.zero_le _, Nat.zero_le _⟩ ?_
    cases hF
    exact mw_iret C dX12_heads_405 rfl rfl
  · refine mw_if_ne_f (tgt := 392) C dX12_heads_376 (by decide) g1 c2 ?_
    refine mw_aload_n 0 C dX12_heads_379 rfl rfl ?_
    refine mw_iload 1 C dX12_heads_380 rfl ?_
    obtain ⟨h6, eh6, hF⟩ := nx_some hF
    refine mw_put (k := 40) (T := TX12) (ty0 := tyX12) (x := x6) C dX12_heads_382 zn141 zk141 (by decide) rfl inX12 tyX12_ok nmX12 (by decide) wd929 rfl rfl rfl rfl rfl (by decide) (mw_h eh6 ?_)
    refine mw_aload_n 0 C dX12_heads_385 rfl rfl ?_
    refine mw_bipush C dX12_heads_386 bp_6 ?_
    obtain ⟨q7, hq7, hF⟩ := bind_some hF
    refine mw_callV (c := 141) [iv 6] [] C dX12_heads_388 (T_X12_refuse (zl Z) (zX Z) 6 _ _ hq7) rfl zn141 zk141 (by decide) rfl wd997 wd998 wd1360 wd14 wd999 hd_X12_refuse rfl (by decide) (by decide) (Nat.le_of_ble_eq_true rfl) ⟨Nat.zero_le _, Nat.zero_le _⟩ ?_
    cases hF
    exact mw_iret C dX12_heads_391 rfl rfl
def F_X12_heads_360 (k299 : Int → Int → Int → Int → MH → Option (Int × MH)) (k314 : Int → Int → Int → Int → Int → MH → Option (Int × MH)) (x3 : Int) (x6 : Int) (x7 : Int) (x8 : Int) (x9 : Int) (h : MH) : Option (Int × MH) :=
  k314 x3 x6 x7 x8 (x9 + 1) h
set_option maxRecDepth 100000 in
theorem T_X12_heads_360 {Z : ZT} (C : Cx Z cX12_heads 10 RX12 4 (some .int)) (k299 : Int → Int → Int → Int → MH → Option (Int × MH)) (hk299 : ∀ (x3 : Int) (x6 : Int) (x7 : Int) (x8 : Int) (h : MH) (t : (Int × MH)), k299 x3 x6 x7 x8 h = some t → MW Z (Qm Z (some (iv t.1)) zN zG t.2 0 0) 10 zN zG h 0 0 299 [(0, rfv (xd (zX Z)) 141), (3, iv x3), (6, iv x6), (7, iv x7), (8, iv x8)] []) (k314 : Int → Int → Int → Int → Int → MH → Option (Int × MH)) (hk314 : ∀ (x3 : Int) (x6 : Int) (x7 : Int) (x8 : Int) (x9 : Int) (h : MH) (t : (Int × MH)), k314 x3 x6 x7 x8 x9 h = some t → MW Z (Qm Z (some (iv t.1)) zN zG t.2 0 0) 10 zN zG h 0 0 314 [(0, rfv (xd (zX Z)) 141), (3, iv x3), (6, iv x6), (7, iv x7), (8, iv x8), (9, iv x9)] []) (x3 : Int) (x6 : Int) (x7 : Int) (x8 : Int) (x9 : Int) (h : MH) (t : (Int × MH)) (hF : F_X12_heads_360 k299 k314 x3 x6 x7 x8 x9 h = some t) : MW Z (Qm Z (some (iv t.1)) zN zG t.2 0 0) 10 zN zG h 0 0 360 [(0, rfv (xd (zX Z)) 141), (3, iv x3), (6, iv x6), (7, iv x7), (8, iv x8), (9, iv x9)] [] := by
  unfold F_X12_heads_360 at hF
  refine mw_iinc 5 [(9, iv (x9 + 1)), (0, rfv (xd (zX Z)) 141), (3, iv x3), (6, iv x6), (7, iv x7), (8, iv x8)] C dX12_heads_360 rfl (by decide) rfl ?_
  refine mw_goto (tgt := 314) C dX12_heads_363 (by decide) ?_
  refine mw_sub [1, 2, 3, 4, 5, 0] rfl ?_
  exact hk314 x3 x6 x7 x8 (x9 + 1) _ _ hF
def F_X12_heads_314 (k299 : Int → Int → Int → Int → MH → Option (Int × MH)) : Nat → Int → Int → Int → Int → Int → MH → Option (Int × MH)
  | 0, _, _, _, _, _, _ => none
  | n + 1, x3, x6, x7, x8, x9, h =>
    ck (in32 x9) <|
    ck (in32 (h 141 39)) <|
    if (h 141 39) ≤ x9 then
      k299 x3 x6 x7 (x8 + 1) h
    else
      ck (0 ≤ x8 ∧ x8 < 144) <|
      ck (0 ≤ x9 ∧ x9 < 144) <|
      (F_X12_bothHave x8 x9 x3 h).bind fun q6 =>
      ck (in32 (((h 157 x8.toNat) + (h 157 x9.toNat)) - q6.1)) <|
      ck (in32 x3) <|
      if (((h 157 x8.toNat) + (h 157 x9.toNat)) - q6.1) ≠ x3 then
        F_X12_heads_360 k299 (F_X12_heads_314 k299 n) x3 x6 x7 x8 x9 q6.2
      else
        (F_X12_found x8 x9 q6.2).bind fun q10 =>
        F_X12_heads_360 k299 (F_X12_heads_314 k299 n) x3 x6 x7 x8 x9 q10
set_option maxRecDepth 100000 in
theorem T_X12_heads_314 {Z : ZT} (C : Cx Z cX12_heads 10 RX12 4 (some .int)) (k299 : Int → Int → Int → Int → MH → Option (Int × MH)) (hk299 : ∀ (x3 : Int) (x6 : Int) (x7 : Int) (x8 : Int) (h : MH) (t : (Int × MH)), k299 x3 x6 x7 x8 h = some t → MW Z (Qm Z (some (iv t.1)) zN zG t.2 0 0) 10 zN zG h 0 0 299 [(0, rfv (xd (zX Z)) 141), (3, iv x3), (6, iv x6), (7, iv x7), (8, iv x8)] []) : ∀ (n : Nat) (x3 : Int) (x6 : Int) (x7 : Int) (x8 : Int) (x9 : Int) (h : MH) (t : (Int × MH)), F_X12_heads_314 k299 n x3 x6 x7 x8 x9 h = some t → MW Z (Qm Z (some (iv t.1)) zN zG t.2 0 0) 10 zN zG h 0 0 314 [(0, rfv (xd (zX Z)) 141), (3, iv x3), (6, iv x6), (7, iv x7), (8, iv x8), (9, iv x9)] [] := by
  intro n
  induction n with
  | zero =>
    intros
    rename_i hF
    exact absurd hF (by intro q; cases q)
  | succ n ih =>
    intro x3 x6 x7 x8 x9 h t hF
    rw [F_X12_heads_314] at hF
    refine mw_iload 5 C dX12_heads_314 rfl ?_
    refine mw_aload_n 0 C dX12_heads_316 rfl rfl ?_
    refine mw_get (k := 39) (T := TX12) (v := iv (h 141 39)) C dX12_heads_317 zn141 zk141 (by decide) rfl inX12 (by decide) wd928 rfl rfl ?_
    obtain ⟨g1, hF⟩ := ck_some hF
    obtain ⟨g2, hF⟩ := ck_some hF
    rcases ite_some hF with ⟨c3, hF⟩ | ⟨c3, hF⟩
    · refine mw_icmp_ge_t (tgt := 366) C dX12_heads_320 (by decide) g1 g2 c3 ?_
      refine mw_iinc 4 [(8, iv (x8 + 1)), (0, rfv (xd (zX Z)) 141), (3, iv x3), (6, iv x6), (7, iv x7), (9, iv x9)] C dX12_heads_366 rfl (by decide) rfl ?_
      refine mw_goto (tgt := 299) C dX12_heads_369 (by decide) ?_
      refine mw_sub [1, 2, 3, 4, 0] rfl ?_
      exact hk299 x3 x6 x7 (x8 + 1) _ _ hF
    · refine mw_icmp_ge_f (tgt := 366) C dX12_heads_320 (by decide) g1 g2 c3 ?_
      refine mw_aload_n 0 C dX12_heads_323 rfl rfl ?_
      refine mw_get (k := 36) (T := TX12) (v := rfv (xd (zX Z)) 157) C dX12_heads_324 zn141 zk141 (by decide) rfl inX12 (by decide) wd925 rfl (zfv_r rfl zg_141_36) ?_
      refine mw_iload 4 C dX12_heads_327 rfl ?_
      obtain ⟨g4, hF⟩ := ck_some hF
      refine mw_iald C dX12_heads_329 zn157 zk157 (by decide) g4 ?_
      refine mw_aload_n 0 C dX12_heads_330 rfl rfl ?_
      refine mw_get (k := 36) (T := TX12) (v := rfv (xd (zX Z)) 157) C dX12_heads_331 zn141 zk141 (by decide) rfl inX12 (by decide) wd925 rfl (zfv_r rfl zg_141_36) ?_
      refine mw_iload 5 C dX12_heads_334 rfl ?_
      obtain ⟨g5, hF⟩ := ck_some hF
      refine mw_iald C dX12_heads_336 zn157 zk157 (by decide) g5 ?_
      refine mw_iadd C dX12_heads_337 ?_
      refine mw_aload_n 0 C dX12_heads_338 rfl rfl ?_
      refine mw_iload 4 C dX12_heads_339 rfl ?_
      refine mw_iload 5 C dX12_heads_341 rfl ?_
      refine mw_iload_n 1 C dX12_heads_343 rfl rfl ?_
      obtain ⟨q6, hq6, hF⟩ := bind_some hF
      refine mw_callV (c := 141) [iv x8, iv x9, iv x3] [iv ((h 157 x8.toNat) + (h 157 x9.toNat))] C dX12_heads_344 (T_X12_bothHave (zl Z) (zX Z) x8 x9 x3 _ _ hq6) rfl zn141 zk141 (by decide) rfl wd1235 wd1236 wd1401 wd14 wd1237 hd_X12_bothHave rfl (by decide) (by decide) (Nat.le_of_ble_eq_true rfl) ⟨Nat.zero_le _, Nat.zero_le _⟩ ?_
      refine mw_isub C dX12_heads_347 ?_
      refine mw_iload_n 1 C dX12_heads_348 rfl rfl ?_
      obtain ⟨g7, hF⟩ := ck_some hF
      obtain ⟨g8, hF⟩ := ck_some hF
      rcases ite_some hF with ⟨c9, hF⟩ | ⟨c9, hF⟩
      · refine mw_icmp_ne_t (tgt := 360) C dX12_heads_349 (by decide) g7 g8 c9 ?_
        exact T_X12_heads_360 C k299 hk299 (F_X12_heads_314 k299 n) ih x3 x6 x7 x8 x9 _ _ hF
      · refine mw_icmp_ne_f (tgt := 360) C dX12_heads_349 (by decide) g7 g8 c9 ?_
        refine mw_aload_n 0 C dX12_heads_352 rfl rfl ?_
        refine mw_iload 4 C dX12_heads_353 rfl ?_
        refine mw_iload 5 C dX12_heads_355 rfl ?_
        obtain ⟨q10, hq10, hF⟩ := bind_some hF
        refine mw_callV (c := 141) [iv x8, iv x9] [] C dX12_heads_357 (T_X12_found (zl Z) (zX Z) x8 x9 _ _ hq10) rfl zn141 zk141 (by decide) rfl wd1232 wd1233 wd1400 wd14 wd1234 hd_X12_found rfl (by decide) (by decide) (Nat.le_of_ble_eq_true rfl) ⟨Nat.zero_le _, Nat.zero_le _⟩ ?_
        exact T_X12_heads_360 C k299 hk299 (F_X12_heads_314 k299 n) ih x3 x6 x7 x8 x9 _ _ hF
def F_X12_heads_299 : Nat → Int → Int → Int → Int → MH → Option (Int × MH)
  | 0, _, _, _, _, _ => none
  | n + 1, x3, x6, x7, x8, h =>
    ck (in32 x8) <|
    ck (in32 (h 141 39)) <|
    if (h 141 39) ≤ x8 then
      F_X12_heads_372 x6 x7 h
    else
      nx (x8 + 1) fun v4 =>
      F_X12_heads_314 (F_X12_heads_299 n) 20000 x3 x6 x7 x8 v4 h
set_option maxRecDepth 100000 in
theorem T_X12_heads_299 {Z : ZT} (C : Cx Z cX12_heads 10 RX12 4 (some .int)) : ∀ (n : Nat) (x3 : Int) (x6 : Int) (x7 : Int) (x8 : Int) (h : MH) (t : (Int × MH)), F_X12_heads_299 n x3 x6 x7 x8 h = some t → MW Z (Qm Z (some (iv t.1)) zN zG t.2 0 0) 10 zN zG h 0 0 299 [(0, rfv (xd (zX Z)) 141), (3, iv x3), (6, iv x6), (7, iv x7), (8, iv x8)] [] := by
  intro n
  induction n with
  | zero =>
    intros
    rename_i hF
    exact absurd hF (by intro q; cases q)
  | succ n ih =>
    intro x3 x6 x7 x8 h t hF
    rw [F_X12_heads_299] at hF
    refine mw_iload 4 C dX12_heads_299 rfl ?_
    refine mw_aload_n 0 C dX12_heads_301 rfl rfl ?_
    refine mw_get (k := 39) (T := TX12) (v := iv (h 141 39)) C dX12_heads_302 zn141 zk141 (by decide) rfl inX12 (by decide) wd928 rfl rfl ?_
    obtain ⟨g1, hF⟩ := ck_some hF
    obtain ⟨g2, hF⟩ := ck_some hF
    rcases ite_some hF with ⟨c3, hF⟩ | ⟨c3, hF⟩
    · refine mw_icmp_ge_t (tgt := 372) C dX12_heads_305 (by decide) g1 g2 c3 ?_
      refine mw_sub [0, 2, 3] rfl ?_
      exact T_X12_heads_372 C x6 x7 _ _ hF
    · refine mw_icmp_ge_f (tgt := 372) C dX12_heads_305 (by decide) g1 g2 c3 ?_
      refine mw_iload 4 C dX12_heads_308 rfl ?_
      refine mw_iconst C dX12_heads_310 ?_
      refine mw_iadd C dX12_heads_311 ?_
      obtain ⟨v4, ev4, hF⟩ := nx_some hF
      refine mw_ti ev4 ?_
      refine mw_istore [(9, iv v4), (0, rfv (xd (zX Z)) 141), (3, iv x3), (6, iv x6), (7, iv x7), (8, iv x8)] C dX12_heads_312 (by decide) rfl ?_
      refine mw_sub [1, 2, 3, 4, 5, 0] rfl ?_
      exact T_X12_heads_314 C (F_X12_heads_299 n) ih 20000 x3 x6 x7 x8 v4 _ _ hF
def F_X12_heads_286 (x3 : Int) (x6 : Int) (x7 : Int) (h : MH) : Option (Int × MH) :=
  ck (in32 (h 141 40)) <|
  if (h 141 40) ≠ 0 then
    F_X12_heads_372 x6 x7 h
  else
    F_X12_heads_299 20000 x3 x6 2 0 h
set_option maxRecDepth 100000 in
theorem T_X12_heads_286 {Z : ZT} (C : Cx Z cX12_heads 10 RX12 4 (some .int)) (x3 : Int) (x6 : Int) (x7 : Int) (h : MH) (t : (Int × MH)) (hF : F_X12_heads_286 x3 x6 x7 h = some t) : MW Z (Qm Z (some (iv t.1)) zN zG t.2 0 0) 10 zN zG h 0 0 286 [(0, rfv (xd (zX Z)) 141), (3, iv x3), (6, iv x6), (7, iv x7)] [] := by
  unfold F_X12_heads_286 at hF
  refine mw_aload_n 0 C dX12_heads_286 rfl rfl ?_
  refine mw_get (k := 40) (T := TX12) (v := iv (h 141 40)) C dX12_heads_287 zn141 zk141 (by decide) rfl inX12 (by decide) wd929 rfl rfl ?_
  obtain ⟨g1, hF⟩ := ck_some hF
  rcases ite_some hF with ⟨c2, hF⟩ | ⟨c2, hF⟩
  · refine mw_if_ne_t (tgt := 372) C dX12_heads_290 (by decide) g1 c2 ?_
    refine mw_sub [0, 2, 3] rfl ?_
    exact T_X12_heads_372 C x6 x7 _ _ hF
  · refine mw_if_ne_f (tgt := 372) C dX12_heads_290 (by decide) g1 c2 ?_
    refine mw_iconst C dX12_heads_293 ?_
    refine mw_istore [(7, iv 2), (0, rfv (xd (zX Z)) 141), (3, iv x3), (6, iv x6)] C dX12_heads_294 (by decide) rfl ?_
    refine mw_iconst C dX12_heads_296 ?_
    refine mw_istore [(8, iv 0), (7, iv 2), (0, rfv (xd (zX Z)) 141), (3, iv x3), (6, iv x6)] C dX12_heads_297 (by decide) rfl ?_
    refine mw_sub [2, 3, 4, 1, 0] rfl ?_
    exact T_X12_heads_299 C 20000 x3 x6 2 0 _ _ hF
def F_X12_heads_272 (x3 : Int) (x6 : Int) (x7 : Int) (h : MH) : Option (Int × MH) :=
  ck (in32 (h 141 40)) <|
  if (h 141 40) ≤ 0 then
    F_X12_heads_286 x3 x6 x7 h
  else
    ck (in32 x3) <|
    if x3 ≤ 0 then
      F_X12_heads_286 x3 x6 x7 h
    else
      F_X12_heads_286 x3 x6 1 h
set_option maxRecDepth 100000 in
theorem T_X12_heads_272 {Z : ZT} (C : Cx Z cX12_heads 10 RX12 4 (some .int)) (x3 : Int) (x6 : Int) (x7 : Int) (h : MH) (t : (Int × MH)) (hF : F_X12_heads_272 x3 x6 x7 h = some t) : MW Z (Qm Z (some (iv t.1)) zN zG t.2 0 0) 10 zN zG h 0 0 272 [(0, rfv (xd (zX Z)) 141), (3, iv x3), (6, iv x6), (7, iv x7)] [] := by
  unfold F_X12_heads_272 at hF
  refine mw_aload_n 0 C dX12_heads_272 rfl rfl ?_
  refine mw_get (k := 40) (T := TX12) (v := iv (h 141 40)) C dX12_heads_273 zn141 zk141 (by decide) rfl inX12 (by decide) wd929 rfl rfl ?_
  obtain ⟨g1, hF⟩ := ck_some hF
  rcases ite_some hF with ⟨c2, hF⟩ | ⟨c2, hF⟩
  · refine mw_if_le_t (tgt := 286) C dX12_heads_276 (by decide) g1 c2 ?_
    exact T_X12_heads_286 C x3 x6 x7 _ _ hF
  · refine mw_if_le_f (tgt := 286) C dX12_heads_276 (by decide) g1 c2 ?_
    refine mw_iload_n 1 C dX12_heads_279 rfl rfl ?_
    obtain ⟨g3, hF⟩ := ck_some hF
    rcases ite_some hF with ⟨c4, hF⟩ | ⟨c4, hF⟩
    · refine mw_if_le_t (tgt := 286) C dX12_heads_280 (by decide) g3 c4 ?_
      exact T_X12_heads_286 C x3 x6 x7 _ _ hF
    · refine mw_if_le_f (tgt := 286) C dX12_heads_280 (by decide) g3 c4 ?_
      refine mw_iconst C dX12_heads_283 ?_
      refine mw_istore [(7, iv 1), (0, rfv (xd (zX Z)) 141), (3, iv x3), (6, iv x6)] C dX12_heads_284 (by decide) rfl ?_
      refine mw_sub [1, 2, 3, 0] rfl ?_
      exact T_X12_heads_286 C x3 x6 1 _ _ hF
def F_X12_heads_266 (k234 : Int → Int → Int → Int → MH → Option (Int × MH)) (x3 : Int) (x6 : Int) (x7 : Int) (x8 : Int) (h : MH) : Option (Int × MH) :=
  k234 x3 x6 x7 (x8 + 1) h
set_option maxRecDepth 100000 in
theorem T_X12_heads_266 {Z : ZT} (C : Cx Z cX12_heads 10 RX12 4 (some .int)) (k234 : Int → Int → Int → Int → MH → Option (Int × MH)) (hk234 : ∀ (x3 : Int) (x6 : Int) (x7 : Int) (x8 : Int) (h : MH) (t : (Int × MH)), k234 x3 x6 x7 x8 h = some t → MW Z (Qm Z (some (iv t.1)) zN zG t.2 0 0) 10 zN zG h 0 0 234 [(0, rfv (xd (zX Z)) 141), (3, iv x3), (6, iv x6), (7, iv x7), (8, iv x8)] []) (x3 : Int) (x6 : Int) (x7 : Int) (x8 : Int) (h : MH) (t : (Int × MH)) (hF : F_X12_heads_266 k234 x3 x6 x7 x8 h = some t) : MW Z (Qm Z (some (iv t.1)) zN zG t.2 0 0) 10 zN zG h 0 0 266 [(0, rfv (xd (zX Z)) 141), (3, iv x3), (6, iv x6), (7, iv x7), (8, iv x8)] [] := by
  unfold F_X12_heads_266 at hF
  refine mw_iinc 4 [(8, iv (x8 + 1)), (0, rfv (xd (zX Z)) 141), (3, iv x3), (6, iv x6), (7, iv x7)] C dX12_heads_266 rfl (by decide) rfl ?_
  refine mw_goto (tgt := 234) C dX12_heads_269 (by decide) ?_
  refine mw_sub [1, 2, 3, 4, 0] rfl ?_
  exact hk234 x3 x6 x7 (x8 + 1) _ _ hF
def F_X12_heads_234 : Nat → Int → Int → Int → Int → MH → Option (Int × MH)
  | 0, _, _, _, _, _ => none
  | n + 1, x3, x6, x7, x8, h =>
    ck (in32 x8) <|
    ck (in32 (h 141 39)) <|
    if (h 141 39) ≤ x8 then
      F_X12_heads_272 x3 x6 x7 h
    else
      ck (in32 x3) <|
      if x3 ≤ 0 then
        F_X12_heads_272 x3 x6 x7 h
      else
        ck (0 ≤ x8 ∧ x8 < 144) <|
        ck (in32 (h 157 x8.toNat)) <|
        if (h 157 x8.toNat) ≠ x3 then
          F_X12_heads_266 (F_X12_heads_234 n) x3 x6 x7 x8 h
        else
          (F_X12_found x8 x8 h).bind fun q9 =>
          F_X12_heads_266 (F_X12_heads_234 n) x3 x6 x7 x8 q9
set_option maxRecDepth 100000 in
theorem T_X12_heads_234 {Z : ZT} (C : Cx Z cX12_heads 10 RX12 4 (some .int)) : ∀ (n : Nat) (x3 : Int) (x6 : Int) (x7 : Int) (x8 : Int) (h : MH) (t : (Int × MH)), F_X12_heads_234 n x3 x6 x7 x8 h = some t → MW Z (Qm Z (some (iv t.1)) zN zG t.2 0 0) 10 zN zG h 0 0 234 [(0, rfv (xd (zX Z)) 141), (3, iv x3), (6, iv x6), (7, iv x7), (8, iv x8)] [] := by
  intro n
  induction n with
  | zero =>
    intros
    rename_i hF
    exact absurd hF (by intro q; cases q)
  | succ n ih =>
    intro x3 x6 x7 x8 h t hF
    rw [F_X12_heads_234] at hF
    refine mw_iload 4 C dX12_heads_234 rfl ?_
    refine mw_aload_n 0 C dX12_heads_236 rfl rfl ?_
    refine mw_get (k := 39) (T := TX12) (v := iv (h 141 39)) C dX12_heads_237 zn141 zk141 (by decide) rfl inX12 (by decide) wd928 rfl rfl ?_
    obtain ⟨g1, hF⟩ := ck_some hF
    obtain ⟨g2, hF⟩ := ck_some hF
    rcases ite_some hF with ⟨c3, hF⟩ | ⟨c3, hF⟩
    · refine mw_icmp_ge_t (tgt := 272) C dX12_heads_240 (by decide) g1 g2 c3 ?_
      refine mw_sub [0, 1, 2, 3] rfl ?_
      exact T_X12_heads_272 C x3 x6 x7 _ _ hF
    · refine mw_icmp_ge_f (tgt := 272) C dX12_heads_240 (by decide) g1 g2 c3 ?_
      refine mw_iload_n 1 C dX12_heads_243 rfl rfl ?_
      obtain ⟨g4, hF⟩ := ck_some hF
      rcases ite_some hF with ⟨c5, hF⟩ | ⟨c5, hF⟩
      · refine mw_if_le_t (tgt := 272) C dX12_heads_244 (by decide) g4 c5 ?_
        refine mw_sub [0, 1, 2, 3] rfl ?_
        exact T_X12_heads_272 C x3 x6 x7 _ _ hF
      · refine mw_if_le_f (tgt := 272) C dX12_heads_244 (by decide) g4 c5 ?_
        refine mw_aload_n 0 C dX12_heads_247 rfl rfl ?_
        refine mw_get (k := 36) (T := TX12) (v := rfv (xd (zX Z)) 157) C dX12_heads_248 zn141 zk141 (by decide) rfl inX12 (by decide) wd925 rfl (zfv_r rfl zg_141_36) ?_
        refine mw_iload 4 C dX12_heads_251 rfl ?_
        obtain ⟨g6, hF⟩ := ck_some hF
        refine mw_iald C dX12_heads_253 zn157 zk157 (by decide) g6 ?_
        refine mw_iload_n 1 C dX12_heads_254 rfl rfl ?_
        obtain ⟨g7, hF⟩ := ck_some hF
        rcases ite_some hF with ⟨c8, hF⟩ | ⟨c8, hF⟩
        · refine mw_icmp_ne_t (tgt := 266) C dX12_heads_255 (by decide) g7 g4 c8 ?_
          exact T_X12_heads_266 C (F_X12_heads_234 n) ih x3 x6 x7 x8 _ _ hF
        · refine mw_icmp_ne_f (tgt := 266) C dX12_heads_255 (by decide) g7 g4 c8 ?_
          refine mw_aload_n 0 C dX12_heads_258 rfl rfl ?_
          refine mw_iload 4 C dX12_heads_259 rfl ?_
          refine mw_iload 4 C dX12_heads_261 rfl ?_
          obtain ⟨q9, hq9, hF⟩ := bind_some hF
          refine mw_callV (c := 141) [iv x8, iv x8] [] C dX12_heads_263 (T_X12_found (zl Z) (zX Z) x8 x8 _ _ hq9) rfl zn141 zk141 (by decide) rfl wd1232 wd1233 wd1400 wd14 wd1234 hd_X12_found rfl (by decide) (by decide) (Nat.le_of_ble_eq_true rfl) ⟨Nat.zero_le _, Nat.zero_le _⟩ ?_
          exact T_X12_heads_266 C (F_X12_heads_234 n) ih x3 x6 x7 x8 _ _ hF
def F_X12_heads_225 (x3 : Int) (x6 : Int) (s1 : Int) (h : MH) : Option (Int × MH) :=
  nx (hup h 141 40 s1) fun h1 =>
  F_X12_heads_234 20000 x3 x6 0 0 h1
set_option maxRecDepth 100000 in
theorem T_X12_heads_225 {Z : ZT} (C : Cx Z cX12_heads 10 RX12 4 (some .int)) (x3 : Int) (x6 : Int) (s1 : Int) (h : MH) (t : (Int × MH)) (hF : F_X12_heads_225 x3 x6 s1 h = some t) : MW Z (Qm Z (some (iv t.1)) zN zG t.2 0 0) 10 zN zG h 0 0 225 [(0, rfv (xd (zX Z)) 141), (3, iv x3), (6, iv x6)] [iv s1, rfv (xd (zX Z)) 141] := by
  unfold F_X12_heads_225 at hF
  obtain ⟨h1, eh1, hF⟩ := nx_some hF
  refine mw_put (k := 40) (T := TX12) (ty0 := tyX12) (x := s1) C dX12_heads_225 zn141 zk141 (by decide) rfl inX12 tyX12_ok nmX12 (by decide) wd929 rfl rfl rfl rfl rfl (by decide) (mw_h eh1 ?_)
  refine mw_iconst C dX12_heads_228 ?_
  refine mw_istore [(7, iv 0), (0, rfv (xd (zX Z)) 141), (3, iv x3), (6, iv x6)] C dX12_heads_229 (by decide) rfl ?_
  refine mw_iconst C dX12_heads_231 ?_
  refine mw_istore [(8, iv 0), (7, iv 0), (0, rfv (xd (zX Z)) 141), (3, iv x3), (6, iv x6)] C dX12_heads_232 (by decide) rfl ?_
  refine mw_sub [2, 3, 4, 1, 0] rfl ?_
  exact T_X12_heads_234 C 20000 x3 x6 0 0 _ _ hF
def F_X12_heads_159 : Nat → Int → Int → Int → Int → MH → Option (Int × MH)
  | 0, _, _, _, _, _ => none
  | n + 1, x1, x2, x3, x6, h =>
    ck (in32 x6) <|
    ck (in32 x3) <|
    if x3 ≤ x6 then
      (F_X12_takesHeads x1 h).bind fun q4 =>
      nx (q4 141 40) fun v5 =>
      if x3 ≠ 0 then
        F_X12_heads_225 x3 v5 0 q4
      else
        F_X12_heads_225 x3 v5 1 q4
    else
      ck (0 ≤ ((60 * x2) + x6) ∧ ((60 * x2) + x6) < 240) <|
      ck (0 ≤ x6 ∧ x6 < 60) <|
      nx (hup h 158 x6.toNat (h 145 ((60 * x2) + x6).toNat)) fun h9 =>
      ck (0 ≤ (h9 158 x6.toNat) ∧ (h9 158 x6.toNat) < 10000) <|
      nx (hup h9 154 (h9 158 x6.toNat).toNat 1) fun h11 =>
      F_X12_heads_159 n x1 x2 x3 (x6 + 1) h11
set_option maxRecDepth 100000 in
theorem T_X12_heads_159 {Z : ZT} (C : Cx Z cX12_heads 10 RX12 4 (some .int)) : ∀ (n : Nat) (x1 : Int) (x2 : Int) (x3 : Int) (x6 : Int) (h : MH) (t : (Int × MH)), F_X12_heads_159 n x1 x2 x3 x6 h = some t → MW Z (Qm Z (some (iv t.1)) zN zG t.2 0 0) 10 zN zG h 0 0 159 [(0, rfv (xd (zX Z)) 141), (1, iv x1), (2, iv x2), (3, iv x3), (6, iv x6)] [] := by
  intro n
  induction n with
  | zero =>
    intros
    rename_i hF
    exact absurd hF (by intro q; cases q)
  | succ n ih =>
    intro x1 x2 x3 x6 h t hF
    rw [F_X12_heads_159] at hF
    refine mw_iload 4 C dX12_heads_159 rfl ?_
    refine mw_iload_n 3 C dX12_heads_161 rfl rfl ?_
    obtain ⟨g1, hF⟩ := ck_some hF
    obtain ⟨g2, hF⟩ := ck_some hF
    rcases ite_some hF with ⟨c3, hF⟩ | ⟨c3, hF⟩
    · refine mw_icmp_ge_t (tgt := 204) C dX12_heads_162 (by decide) g1 g2 c3 ?_
      refine mw_aload_n 0 C dX12_heads_204 rfl rfl ?_
      refine mw_iload_n 1 C dX12_heads_205 rfl rfl ?_
      obtain ⟨q4, hq4, hF⟩ := bind_some hF
      refine mw_callV (c := 141) [iv x1] [] C dX12_heads_206 (T_X12_takesHeads (zl Z) (zX Z) x1 _ _ hq4) rfl zn141 zk141 (by decide) rfl wd1229 wd1230 wd1399 wd14 wd1231 hd_X12_takesHeads rfl (by decide) (by decide) (Nat.le_of_ble_eq_true rfl) ⟨Nat.zero_le _, Nat.zero_le _⟩ ?_
      refine mw_aload_n 0 C dX12_heads_209 rfl rfl ?_
      refine mw_get (k := 40) (T := TX12) (v := iv (q4 141 40)) C dX12_heads_210 zn141 zk141 (by decide) rfl inX12 (by decide) wd929 rfl rfl ?_
      obtain ⟨v5, ev5, hF⟩ := nx_some hF
      refine mw_ti ev5 ?_
      refine mw_istore [(6, iv v5), (0, rfv (xd (zX Z)) 141), (1, iv x1), (2, iv x2), (3, iv x3)] C dX12_heads_213 (by decide) rfl ?_
      refine mw_aload_n 1 C dX12_heads_215 rfl rfl ?_
      refine mw_iload_n 4 C dX12_heads_216 rfl rfl ?_
      rcases ite_some hF with ⟨c6, hF⟩ | ⟨c6, hF⟩
      · refine mw_if_ne_t (tgt := 224) C dX12_heads_217 (by decide) g2 c6 ?_
        refine mw_iconst C dX12_heads_224 ?_
        refine mw_sub [1, 4, 0] rfl ?_
        exact T_X12_heads_225 C x3 v5 0 _ _ hF
      · refine mw_if_ne_f (tgt := 224) C dX12_heads_217 (by decide) g2 c6 ?_
        refine mw_iconst C dX12_heads_220 ?_
        refine mw_goto (tgt := 225) C dX12_heads_221 (by decide) ?_
        refine mw_sub [1, 4, 0] rfl ?_
        exact T_X12_heads_225 C x3 v5 1 _ _ hF
    · refine mw_icmp_ge_f (tgt := 204) C dX12_heads_162 (by decide) g1 g2 c3 ?_
      refine mw_aload_n 0 C dX12_heads_165 rfl rfl ?_
      refine mw_get (k := 37) (T := TX12) (v := rfv (xd (zX Z)) 158) C dX12_heads_166 zn141 zk141 (by decide) rfl inX12 (by decide) wd926 rfl (zfv_r rfl zg_141_37) ?_
      refine mw_iload 4 C dX12_heads_169 rfl ?_
      refine mw_aload_n 0 C dX12_heads_171 rfl rfl ?_
      refine mw_get (k := 6) (T := TX12) (v := rfv (xd (zX Z)) 145) C dX12_heads_172 zn141 zk141 (by decide) rfl inX12 (by decide) wd895 rfl (zfv_r rfl zg_141_6) ?_
      refine mw_bipush C dX12_heads_175 bp_60 ?_
      refine mw_iload_n 2 C dX12_heads_177 rfl rfl ?_
      refine mw_imul C dX12_heads_178 ?_
      refine mw_iload 4 C dX12_heads_179 rfl ?_
      refine mw_iadd C dX12_heads_181 ?_
      obtain ⟨g7, hF⟩ := ck_some hF
      refine mw_lald C dX12_heads_182 zn145 zk145 (by decide) g7 ?_
      refine mw_l2i C dX12_heads_183 ?_
      obtain ⟨g8, hF⟩ := ck_some hF
      obtain ⟨h9, eh9, hF⟩ := nx_some hF
      refine mw_iast C dX12_heads_184 zn158 zk158 (by decide) g8 (mw_h eh9 ?_)
      refine mw_aload_n 0 C dX12_heads_185 rfl rfl ?_
      refine mw_get (k := 33) (T := TX12) (v := rfv (xd (zX Z)) 154) C dX12_heads_186 zn141 zk141 (by decide) rfl inX12 (by decide) wd922 rfl (zfv_r rfl zg_141_33) ?_
      refine mw_aload_n 0 C dX12_heads_189 rfl rfl ?_
      refine mw_get (k := 37) (T := TX12) (v := rfv (xd (zX Z)) 158) C dX12_heads_190 zn141 zk141 (by decide) rfl inX12 (by decide) wd926 rfl (zfv_r rfl zg_141_37) ?_
      refine mw_iload 4 C dX12_heads_193 rfl ?_
      refine mw_iald C dX12_heads_195 zn158 zk158 (by decide) g8 ?_
      refine mw_iconst C dX12_heads_196 ?_
      obtain ⟨g10, hF⟩ := ck_some hF
      obtain ⟨h11, eh11, hF⟩ := nx_some hF
      refine mw_zast C dX12_heads_197 zn154 zk154 (by decide) g10 (Or.inr rfl) (mw_h eh11 ?_)
      refine mw_iinc 4 [(6, iv (x6 + 1)), (0, rfv (xd (zX Z)) 141), (1, iv x1), (2, iv x2), (3, iv x3)] C dX12_heads_198 rfl (by decide) rfl ?_
      refine mw_goto (tgt := 159) C dX12_heads_201 (by decide) ?_
      refine mw_sub [1, 2, 3, 4, 0] rfl ?_
      exact ih x1 x2 x3 (x6 + 1) _ _ hF
def F_X12_heads_136 : Nat → Int → Int → Int → Int → MH → Option (Int × MH)
  | 0, _, _, _, _, _ => none
  | n + 1, x1, x2, x3, x6, h =>
    ck (in32 x6) <|
    ck (in32 x1) <|
    if x1 ≤ x6 then
      F_X12_heads_159 20000 x1 x2 x3 0 h
    else
      ck (0 ≤ x6 ∧ x6 < 10000) <|
      nx (hup h 154 x6.toNat 0) fun h5 =>
      F_X12_heads_136 n x1 x2 x3 (x6 + 1) h5
set_option maxRecDepth 100000 in
theorem T_X12_heads_136 {Z : ZT} (C : Cx Z cX12_heads 10 RX12 4 (some .int)) : ∀ (n : Nat) (x1 : Int) (x2 : Int) (x3 : Int) (x6 : Int) (h : MH) (t : (Int × MH)), F_X12_heads_136 n x1 x2 x3 x6 h = some t → MW Z (Qm Z (some (iv t.1)) zN zG t.2 0 0) 10 zN zG h 0 0 136 [(0, rfv (xd (zX Z)) 141), (1, iv x1), (2, iv x2), (3, iv x3), (6, iv x6)] [] := by
  intro n
  induction n with
  | zero =>
    intros
    rename_i hF
    exact absurd hF (by intro q; cases q)
  | succ n ih =>
    intro x1 x2 x3 x6 h t hF
    rw [F_X12_heads_136] at hF
    refine mw_iload 4 C dX12_heads_136 rfl ?_
    refine mw_iload_n 1 C dX12_heads_138 rfl rfl ?_
    obtain ⟨g1, hF⟩ := ck_some hF
    obtain ⟨g2, hF⟩ := ck_some hF
    rcases ite_some hF with ⟨c3, hF⟩ | ⟨c3, hF⟩
    · refine mw_icmp_ge_t (tgt := 156) C dX12_heads_139 (by decide) g1 g2 c3 ?_
      refine mw_iconst C dX12_heads_156 ?_
      refine mw_istore [(6, iv 0), (0, rfv (xd (zX Z)) 141), (1, iv x1), (2, iv x2), (3, iv x3)] C dX12_heads_157 (by decide) rfl ?_
      refine mw_sub [1, 2, 3, 4, 0] rfl ?_
      exact T_X12_heads_159 C 20000 x1 x2 x3 0 _ _ hF
    · refine mw_icmp_ge_f (tgt := 156) C dX12_heads_139 (by decide) g1 g2 c3 ?_
      refine mw_aload_n 0 C dX12_heads_142 rfl rfl ?_
      refine mw_get (k := 33) (T := TX12) (v := rfv (xd (zX Z)) 154) C dX12_heads_143 zn141 zk141 (by decide) rfl inX12 (by decide) wd922 rfl (zfv_r rfl zg_141_33) ?_
      refine mw_iload 4 C dX12_heads_146 rfl ?_
      refine mw_iconst C dX12_heads_148 ?_
      obtain ⟨g4, hF⟩ := ck_some hF
      obtain ⟨h5, eh5, hF⟩ := nx_some hF
      refine mw_zast C dX12_heads_149 zn154 zk154 (by decide) g4 (Or.inl rfl) (mw_h eh5 ?_)
      refine mw_iinc 4 [(6, iv (x6 + 1)), (0, rfv (xd (zX Z)) 141), (1, iv x1), (2, iv x2), (3, iv x3)] C dX12_heads_150 rfl (by decide) rfl ?_
      refine mw_goto (tgt := 136) C dX12_heads_153 (by decide) ?_
      refine mw_sub [1, 2, 3, 4, 0] rfl ?_
      exact ih x1 x2 x3 (x6 + 1) _ _ hF
def F_X12_heads_107 (x1 : Int) (x2 : Int) (x3 : Int) (x4 : Int) (x5 : Int) (h : MH) : Option (Int × MH) :=
  ck (in32 x4) <|
  if 0 < x4 then
    F_X12_heads_117 x4 h
  else
    ck (in32 x5) <|
    if x5 ≠ 0 then
      F_X12_heads_136 20000 x1 x2 x3 0 h
    else
      F_X12_heads_117 x4 h
set_option maxRecDepth 100000 in
theorem T_X12_heads_107 {Z : ZT} (C : Cx Z cX12_heads 10 RX12 4 (some .int)) (x1 : Int) (x2 : Int) (x3 : Int) (x4 : Int) (x5 : Int) (h : MH) (t : (Int × MH)) (hF : F_X12_heads_107 x1 x2 x3 x4 x5 h = some t) : MW Z (Qm Z (some (iv t.1)) zN zG t.2 0 0) 10 zN zG h 0 0 107 [(0, rfv (xd (zX Z)) 141), (1, iv x1), (2, iv x2), (3, iv x3), (4, iv x4), (5, iv x5)] [] := by
  unfold F_X12_heads_107 at hF
  refine mw_iload 4 C dX12_heads_107 rfl ?_
  obtain ⟨g1, hF⟩ := ck_some hF
  rcases ite_some hF with ⟨c2, hF⟩ | ⟨c2, hF⟩
  · refine mw_if_gt_t (tgt := 117) C dX12_heads_109 (by decide) g1 c2 ?_
    refine mw_sub [0, 4] rfl ?_
    exact T_X12_heads_117 C x4 _ _ hF
  · refine mw_if_gt_f (tgt := 117) C dX12_heads_109 (by decide) g1 c2 ?_
    refine mw_iload 5 C dX12_heads_112 rfl ?_
    obtain ⟨g3, hF⟩ := ck_some hF
    rcases ite_some hF with ⟨c4, hF⟩ | ⟨c4, hF⟩
    · refine mw_if_ne_t (tgt := 133) C dX12_heads_114 (by decide) g3 c4 ?_
      refine mw_iconst C dX12_heads_133 ?_
      refine mw_istore [(6, iv 0), (0, rfv (xd (zX Z)) 141), (1, iv x1), (2, iv x2), (3, iv x3), (4, iv x4), (5, iv x5)] C dX12_heads_134 (by decide) rfl ?_
      refine mw_sub [1, 2, 3, 4, 0] rfl ?_
      exact T_X12_heads_136 C 20000 x1 x2 x3 0 _ _ hF
    · refine mw_if_ne_f (tgt := 133) C dX12_heads_114 (by decide) g3 c4 ?_
      refine mw_sub [0, 4] rfl ?_
      exact T_X12_heads_117 C x4 _ _ hF
def F_X12_heads_99 (k48 : Int → Int → Int → Int → Int → Int → MH → Option (Int × MH)) (x1 : Int) (x2 : Int) (x3 : Int) (x4 : Int) (x6 : Int) (s0 : Int) (h : MH) : Option (Int × MH) :=
  k48 x1 x2 x3 x4 s0 (x6 + 1) h
set_option maxRecDepth 100000 in
theorem T_X12_heads_99 {Z : ZT} (C : Cx Z cX12_heads 10 RX12 4 (some .int)) (k48 : Int → Int → Int → Int → Int → Int → MH → Option (Int × MH)) (hk48 : ∀ (x1 : Int) (x2 : Int) (x3 : Int) (x4 : Int) (x5 : Int) (x6 : Int) (h : MH) (t : (Int × MH)), k48 x1 x2 x3 x4 x5 x6 h = some t → MW Z (Qm Z (some (iv t.1)) zN zG t.2 0 0) 10 zN zG h 0 0 48 [(0, rfv (xd (zX Z)) 141), (1, iv x1), (2, iv x2), (3, iv x3), (4, iv x4), (5, iv x5), (6, iv x6)] []) (x1 : Int) (x2 : Int) (x3 : Int) (x4 : Int) (x6 : Int) (s0 : Int) (h : MH) (t : (Int × MH)) (hF : F_X12_heads_99 k48 x1 x2 x3 x4 x6 s0 h = some t) : MW Z (Qm Z (some (iv t.1)) zN zG t.2 0 0) 10 zN zG h 0 0 99 [(0, rfv (xd (zX Z)) 141), (1, iv x1), (2, iv x2), (3, iv x3), (4, iv x4), (6, iv x6)] [iv s0] := by
  unfold F_X12_heads_99 at hF
  refine mw_istore [(5, iv s0), (0, rfv (xd (zX Z)) 141), (1, iv x1), (2, iv x2), (3, iv x3), (4, iv x4), (6, iv x6)] C dX12_heads_99 (by decide) rfl ?_
  refine mw_iinc 6 [(6, iv (x6 + 1)), (5, iv s0), (0, rfv (xd (zX Z)) 141), (1, iv x1), (2, iv x2), (3, iv x3), (4, iv x4)] C dX12_heads_101 rfl (by decide) rfl ?_
  refine mw_goto (tgt := 48) C dX12_heads_104 (by decide) ?_
  refine mw_sub [2, 3, 4, 5, 6, 1, 0] rfl ?_
  exact hk48 x1 x2 x3 x4 s0 (x6 + 1) _ _ hF
def F_X12_heads_98 (k48 : Int → Int → Int → Int → Int → Int → MH → Option (Int × MH)) (x1 : Int) (x2 : Int) (x3 : Int) (x4 : Int) (x6 : Int) (h : MH) : Option (Int × MH) :=
  F_X12_heads_99 k48 x1 x2 x3 x4 x6 0 h
set_option maxRecDepth 100000 in
theorem T_X12_heads_98 {Z : ZT} (C : Cx Z cX12_heads 10 RX12 4 (some .int)) (k48 : Int → Int → Int → Int → Int → Int → MH → Option (Int × MH)) (hk48 : ∀ (x1 : Int) (x2 : Int) (x3 : Int) (x4 : Int) (x5 : Int) (x6 : Int) (h : MH) (t : (Int × MH)), k48 x1 x2 x3 x4 x5 x6 h = some t → MW Z (Qm Z (some (iv t.1)) zN zG t.2 0 0) 10 zN zG h 0 0 48 [(0, rfv (xd (zX Z)) 141), (1, iv x1), (2, iv x2), (3, iv x3), (4, iv x4), (5, iv x5), (6, iv x6)] []) (x1 : Int) (x2 : Int) (x3 : Int) (x4 : Int) (x6 : Int) (h : MH) (t : (Int × MH)) (hF : F_X12_heads_98 k48 x1 x2 x3 x4 x6 h = some t) : MW Z (Qm Z (some (iv t.1)) zN zG t.2 0 0) 10 zN zG h 0 0 98 [(0, rfv (xd (zX Z)) 141), (1, iv x1), (2, iv x2), (3, iv x3), (4, iv x4), (6, iv x6)] [] := by
  unfold F_X12_heads_98 at hF
  refine mw_iconst C dX12_heads_98 ?_
  exact T_X12_heads_99 C k48 hk48 x1 x2 x3 x4 x6 0 _ _ hF
def F_X12_heads_48 : Nat → Int → Int → Int → Int → Int → Int → MH → Option (Int × MH)
  | 0, _, _, _, _, _, _, _ => none
  | n + 1, x1, x2, x3, x4, x5, x6, h =>
    ck (in32 x6) <|
    ck (in32 x3) <|
    if x3 ≤ x6 then
      F_X12_heads_107 x1 x2 x3 x4 x5 h
    else
      ck (in32 x4) <|
      if x4 ≠ 0 then
        F_X12_heads_107 x1 x2 x3 x4 x5 h
      else
        ck (in32 x5) <|
        if x5 = 0 then
          F_X12_heads_98 (F_X12_heads_48 n) x1 x2 x3 x4 x6 h
        else
          ck (0 ≤ ((60 * x2) + x6) ∧ ((60 * x2) + x6) < 240) <|
          ck (0 ≤ (((60 * x2) + x6) - 1) ∧ (((60 * x2) + x6) - 1) < 240) <|
          ck (in64 (h 145 ((60 * x2) + x6).toNat)) <|
          ck (in64 (h 145 (((60 * x2) + x6) - 1).toNat)) <|
          if (h 145 ((60 * x2) + x6).toNat) ≤ (h 145 (((60 * x2) + x6) - 1).toNat) then
            F_X12_heads_98 (F_X12_heads_48 n) x1 x2 x3 x4 x6 h
          else
            F_X12_heads_99 (F_X12_heads_48 n) x1 x2 x3 x4 x6 1 h
set_option maxRecDepth 100000 in
theorem T_X12_heads_48 {Z : ZT} (C : Cx Z cX12_heads 10 RX12 4 (some .int)) : ∀ (n : Nat) (x1 : Int) (x2 : Int) (x3 : Int) (x4 : Int) (x5 : Int) (x6 : Int) (h : MH) (t : (Int × MH)), F_X12_heads_48 n x1 x2 x3 x4 x5 x6 h = some t → MW Z (Qm Z (some (iv t.1)) zN zG t.2 0 0) 10 zN zG h 0 0 48 [(0, rfv (xd (zX Z)) 141), (1, iv x1), (2, iv x2), (3, iv x3), (4, iv x4), (5, iv x5), (6, iv x6)] [] := by
  intro n
  induction n with
  | zero =>
    intros
    rename_i hF
    exact absurd hF (by intro q; cases q)
  | succ n ih =>
    intro x1 x2 x3 x4 x5 x6 h t hF
    rw [F_X12_heads_48] at hF
    refine mw_iload 6 C dX12_heads_48 rfl ?_
    refine mw_iload_n 3 C dX12_heads_50 rfl rfl ?_
    obtain ⟨g1, hF⟩ := ck_some hF
    obtain ⟨g2, hF⟩ := ck_some hF
    rcases ite_some hF with ⟨c3, hF⟩ | ⟨c3, hF⟩
    · refine mw_icmp_ge_t (tgt := 107) C dX12_heads_51 (by decide) g1 g2 c3 ?_
      refine mw_sub [0, 1, 2, 3, 4, 5] rfl ?_
      exact T_X12_heads_107 C x1 x2 x3 x4 x5 _ _ hF
    · refine mw_icmp_ge_f (tgt := 107) C dX12_heads_51 (by decide) g1 g2 c3 ?_
      refine mw_iload 4 C dX12_heads_54 rfl ?_
      obtain ⟨g4, hF⟩ := ck_some hF
      rcases ite_some hF with ⟨c5, hF⟩ | ⟨c5, hF⟩
      · refine mw_if_ne_t (tgt := 107) C dX12_heads_56 (by decide) g4 c5 ?_
        refine mw_sub [0, 1, 2, 3, 4, 5] rfl ?_
        exact T_X12_heads_107 C x1 x2 x3 x4 x5 _ _ hF
      · refine mw_if_ne_f (tgt := 107) C dX12_heads_56 (by decide) g4 c5 ?_
        refine mw_iload 5 C dX12_heads_59 rfl ?_
        obtain ⟨g6, hF⟩ := ck_some hF
        rcases ite_some hF with ⟨c7, hF⟩ | ⟨c7, hF⟩
        · refine mw_if_eq_t (tgt := 98) C dX12_heads_61 (by decide) g6 c7 ?_
          refine mw_sub [0, 1, 2, 3, 4, 6] rfl ?_
          exact T_X12_heads_98 C (F_X12_heads_48 n) ih x1 x2 x3 x4 x6 _ _ hF
        · refine mw_if_eq_f (tgt := 98) C dX12_heads_61 (by decide) g6 c7 ?_
          refine mw_aload_n 0 C dX12_heads_64 rfl rfl ?_
          refine mw_get (k := 6) (T := TX12) (v := rfv (xd (zX Z)) 145) C dX12_heads_65 zn141 zk141 (by decide) rfl inX12 (by decide) wd895 rfl (zfv_r rfl zg_141_6) ?_
          refine mw_bipush C dX12_heads_68 bp_60 ?_
          refine mw_iload_n 2 C dX12_heads_70 rfl rfl ?_
          refine mw_imul C dX12_heads_71 ?_
          refine mw_iload 6 C dX12_heads_72 rfl ?_
          refine mw_iadd C dX12_heads_74 ?_
          obtain ⟨g8, hF⟩ := ck_some hF
          refine mw_lald C dX12_heads_75 zn145 zk145 (by decide) g8 ?_
          refine mw_aload_n 0 C dX12_heads_76 rfl rfl ?_
          refine mw_get (k := 6) (T := TX12) (v := rfv (xd (zX Z)) 145) C dX12_heads_77 zn141 zk141 (by decide) rfl inX12 (by decide) wd895 rfl (zfv_r rfl zg_141_6) ?_
          refine mw_bipush C dX12_heads_80 bp_60 ?_
          refine mw_iload_n 2 C dX12_heads_82 rfl rfl ?_
          refine mw_imul C dX12_heads_83 ?_
          refine mw_iload 6 C dX12_heads_84 rfl ?_
          refine mw_iadd C dX12_heads_86 ?_
          refine mw_iconst C dX12_heads_87 ?_
          refine mw_isub C dX12_heads_88 ?_
          obtain ⟨g9, hF⟩ := ck_some hF
          refine mw_lald C dX12_heads_89 zn145 zk145 (by decide) g9 ?_
          obtain ⟨g10, hF⟩ := ck_some hF
          obtain ⟨g11, hF⟩ := ck_some hF
          rcases ite_some hF with ⟨c12, hF⟩ | ⟨c12, hF⟩
          · refine mw_lcmp_le_t (tgt := 98) C dX12_heads_90 dX12_heads_91 (by decide) g10 g11 c12 ?_
            refine mw_sub [0, 1, 2, 3, 4, 6] rfl ?_
            exact T_X12_heads_98 C (F_X12_heads_48 n) ih x1 x2 x3 x4 x6 _ _ hF
          · refine mw_lcmp_le_f (tgt := 98) C dX12_heads_90 dX12_heads_91 (by decide) g10 g11 c12 ?_
            refine mw_iconst C dX12_heads_94 ?_
            refine mw_goto (tgt := 99) C dX12_heads_95 (by decide) ?_
            refine mw_sub [0, 1, 2, 3, 4, 6] rfl ?_
            exact T_X12_heads_99 C (F_X12_heads_48 n) ih x1 x2 x3 x4 x6 1 _ _ hF
def F_X12_heads_30 (x1 : Int) (x2 : Int) (x3 : Int) (s1 : Int) (h : MH) : Option (Int × MH) :=
  ck (in32 x1) <|
  (F_X12_wrongRow s1 x2 x3 0 (x1 - 1) h).bind fun q2 =>
  F_X12_heads_48 20000 x1 x2 x3 q2.1 1 1 q2.2
set_option maxRecDepth 100000 in
theorem T_X12_heads_30 {Z : ZT} (C : Cx Z cX12_heads 10 RX12 4 (some .int)) (x1 : Int) (x2 : Int) (x3 : Int) (s1 : Int) (h : MH) (t : (Int × MH)) (hF : F_X12_heads_30 x1 x2 x3 s1 h = some t) : MW Z (Qm Z (some (iv t.1)) zN zG t.2 0 0) 10 zN zG h 0 0 30 [(0, rfv (xd (zX Z)) 141), (1, iv x1), (2, iv x2), (3, iv x3)] [iv s1, rfv (xd (zX Z)) 141] := by
  unfold F_X12_heads_30 at hF
  refine mw_iload_n 2 C dX12_heads_30 rfl rfl ?_
  refine mw_iload_n 3 C dX12_heads_31 rfl rfl ?_
  refine mw_lconst (a := 0) C dX12_heads_32 lc_0 ?_
  refine mw_iload_n 1 C dX12_heads_33 rfl rfl ?_
  obtain ⟨g1, hF⟩ := ck_some hF
  refine mw_i2l C dX12_heads_34 g1 ?_
  refine mw_lconst (a := 1) C dX12_heads_35 lc_1 ?_
  refine mw_lsub C dX12_heads_36 ?_
  obtain ⟨q2, hq2, hF⟩ := bind_some hF
  refine mw_callV (c := 141) [iv s1, iv x2, iv x3, lvv 0, lvv (x1 - 1)] [] C dX12_heads_37 (T_X12_wrongRow (zl Z) (zX Z) s1 x2 x3 0 (x1 - 1) _ _ hq2) rfl zn141 zk141 (by decide) rfl wd1226 wd1227 wd1398 wd14 wd1228 hd_X12_wrongRow rfl (by decide) (by decide) (Nat.le_of_ble_eq_true rfl) ⟨Nat.zero_le _, Nat.zero_le _⟩ ?_
  refine mw_istore [(4, iv q2.1), (0, rfv (xd (zX Z)) 141), (1, iv x1), (2, iv x2), (3, iv x3)] C dX12_heads_40 (by decide) rfl ?_
  refine mw_iconst C dX12_heads_42 ?_
  refine mw_istore [(5, iv 1), (4, iv q2.1), (0, rfv (xd (zX Z)) 141), (1, iv x1), (2, iv x2), (3, iv x3)] C dX12_heads_43 (by decide) rfl ?_
  refine mw_iconst C dX12_heads_45 ?_
  refine mw_istore [(6, iv 1), (5, iv 1), (4, iv q2.1), (0, rfv (xd (zX Z)) 141), (1, iv x1), (2, iv x2), (3, iv x3)] C dX12_heads_46 (by decide) rfl ?_
  refine mw_sub [3, 4, 5, 6, 2, 1, 0] rfl ?_
  exact T_X12_heads_48 C 20000 x1 x2 x3 q2.1 1 1 _ _ hF
def F_X12_heads_29 (x1 : Int) (x2 : Int) (x3 : Int) (h : MH) : Option (Int × MH) :=
  F_X12_heads_30 x1 x2 x3 0 h
set_option maxRecDepth 100000 in
theorem T_X12_heads_29 {Z : ZT} (C : Cx Z cX12_heads 10 RX12 4 (some .int)) (x1 : Int) (x2 : Int) (x3 : Int) (h : MH) (t : (Int × MH)) (hF : F_X12_heads_29 x1 x2 x3 h = some t) : MW Z (Qm Z (some (iv t.1)) zN zG t.2 0 0) 10 zN zG h 0 0 29 [(0, rfv (xd (zX Z)) 141), (1, iv x1), (2, iv x2), (3, iv x3)] [rfv (xd (zX Z)) 141] := by
  unfold F_X12_heads_29 at hF
  refine mw_iconst C dX12_heads_29 ?_
  exact T_X12_heads_30 C x1 x2 x3 0 _ _ hF
def F_X12_heads_0 (x1 : Int) (x2 : Int) (x3 : Int) (h : MH) : Option (Int × MH) :=
  ck (in32 x1) <|
  (F_X12_isFrom x1 1 9999 h).bind fun q2 =>
  ck (in32 q2.1) <|
  if q2.1 = 0 then
    F_X12_heads_29 x1 x2 x3 q2.2
  else
    ck (in32 x3) <|
    (F_X12_isFrom x3 0 60 q2.2).bind fun q6 =>
    ck (in32 q6.1) <|
    if q6.1 = 0 then
      F_X12_heads_29 x1 x2 x3 q6.2
    else
      F_X12_heads_30 x1 x2 x3 1 q6.2
set_option maxRecDepth 100000 in
theorem T_X12_heads_0 {Z : ZT} (C : Cx Z cX12_heads 10 RX12 4 (some .int)) (x1 : Int) (x2 : Int) (x3 : Int) (h : MH) (t : (Int × MH)) (hF : F_X12_heads_0 x1 x2 x3 h = some t) : MW Z (Qm Z (some (iv t.1)) zN zG t.2 0 0) 10 zN zG h 0 0 0 [(0, rfv (xd (zX Z)) 141), (1, iv x1), (2, iv x2), (3, iv x3)] [] := by
  unfold F_X12_heads_0 at hF
  refine mw_aload_n 0 C dX12_heads_0 rfl rfl ?_
  refine mw_iload_n 1 C dX12_heads_1 rfl rfl ?_
  obtain ⟨g1, hF⟩ := ck_some hF
  refine mw_i2l C dX12_heads_2 g1 ?_
  refine mw_lconst (a := 1) C dX12_heads_3 lc_1 ?_
  refine mw_ldc2 (a := 9999) C dX12_heads_4 wd1115 rfl ?_
  obtain ⟨q2, hq2, hF⟩ := bind_some hF
  refine mw_callS [lvv x1, lvv 1, lvv 9999] [rfv (xd (zX Z)) 141] C dX12_heads_7 (T_X12_isFrom (zl Z) (zX Z) x1 1 9999 _ _ hq2) rfl wd1116 wd1117 wd14 wd1118 hd_X12_isFrom rfl (by decide) (by decide) (Nat.le_of_ble_eq_true rfl) ⟨Nat.zero_le _, Nat.zero_le _⟩ ?_
  obtain ⟨g3, hF⟩ := ck_some hF
  rcases ite_some hF with ⟨c4, hF⟩ | ⟨c4, hF⟩
  · refine mw_if_eq_t (tgt := 29) C dX12_heads_10 (by decide) g3 c4 ?_
    exact T_X12_heads_29 C x1 x2 x3 _ _ hF
  · refine mw_if_eq_f (tgt := 29) C dX12_heads_10 (by decide) g3 c4 ?_
    refine mw_iload_n 3 C dX12_heads_13 rfl rfl ?_
    obtain ⟨g5, hF⟩ := ck_some hF
    refine mw_i2l C dX12_heads_14 g5 ?_
    refine mw_lconst (a := 0) C dX12_heads_15 lc_0 ?_
    refine mw_ldc2 (a := 60) C dX12_heads_16 wd1225 rfl ?_
    obtain ⟨q6, hq6, hF⟩ := bind_some hF
    refine mw_callS [lvv x3, lvv 0, lvv 60] [rfv (xd (zX Z)) 141] C dX12_heads_19 (T_X12_isFrom (zl Z) (zX Z) x3 0 60 _ _ hq6) rfl wd1116 wd1117 wd14 wd1118 hd_X12_isFrom rfl (by decide) (by decide) (Nat.le_of_ble_eq_true rfl) ⟨Nat.zero_le _, Nat.zero_le _⟩ ?_
    obtain ⟨g7, hF⟩ := ck_some hF
    rcases ite_some hF with ⟨c8, hF⟩ | ⟨c8, hF⟩
    · refine mw_if_eq_t (tgt := 29) C dX12_heads_22 (by decide) g7 c8 ?_
      exact T_X12_heads_29 C x1 x2 x3 _ _ hF
    · refine mw_if_eq_f (tgt := 29) C dX12_heads_22 (by decide) g7 c8 ?_
      refine mw_iconst C dX12_heads_25 ?_
      refine mw_goto (tgt := 30) C dX12_heads_26 (by decide) ?_
      exact T_X12_heads_30 C x1 x2 x3 1 _ _ hF
def F_X12_heads (x1 : Int) (x2 : Int) (x3 : Int) (h : MH) : Option (Int × MH) := F_X12_heads_0 x1 x2 x3 h
theorem T_X12_heads (l : Launch) (X : XT) (x1 : Int) (x2 : Int) (x3 : Int) (h : MH) (t : (Int × MH)) (hF : F_X12_heads x1 x2 x3 h = some t) : Ct l X yX12_heads cX12_heads 10 (some .int) 4 [rfv (xd X) 141, iv x1, iv x2, iv x3] zN zG h (some (iv t.1)) zN zG t.2 0 0 := by
  refine Ct.head (by decide) (Nat.le_of_ble_eq_true rfl) (fun Z hX hl _ _ _ C => ?_)
  subst hX
  subst hl
  exact (T_X12_heads_0 C x1 x2 x3 _ _ hF)
/-! BottleLineModel.head(I)I -/
def F_X12_head_9 (h : MH) : Option (Int × MH) :=
  (F_X12_refuse 1 h).bind fun q1 =>
  some (q1.1, q1.2)
set_option maxRecDepth 100000 in
theorem T_X12_head_9 {Z : ZT} (C : Cx Z cX12_head 2 RX12 2 (some .int)) (h : MH) (t : (Int × MH)) (hF : F_X12_head_9 h = some t) : MW Z (Qm Z (some (iv t.1)) zN zG t.2 0 0) 2 zN zG h 0 0 9 [(0, rfv (xd (zX Z)) 141)] [] := by
  unfold F_X12_head_9 at hF
  refine mw_aload_n 0 C dX12_head_9 rfl rfl ?_
  refine mw_iconst C dX12_head_10 ?_
  obtain ⟨q1, hq1, hF⟩ := bind_some hF
  refine mw_callV (c := 141) [iv 1] [] C dX12_head_11 (T_X12_refuse (zl Z) (zX Z) 1 _ _ hq1) rfl zn141 zk141 (by decide) rfl wd997 wd998 wd1360 wd14 wd999 hd_X12_refuse rfl (by decide) (by decide) (Nat.le_of_ble_eq_true rfl) ⟨Nat.zero_le _, Nat.zero_le _⟩ ?_
  cases hF
  exact mw_iret C dX12_head_14 rfl rfl
def F_X12_head_33 (h : MH) : Option (Int × MH) :=
  (F_X12_refuse 6 h).bind fun q1 =>
  some (q1.1, q1.2)
set_option maxRecDepth 100000 in
theorem T_X12_head_33 {Z : ZT} (C : Cx Z cX12_head 2 RX12 2 (some .int)) (h : MH) (t : (Int × MH)) (hF : F_X12_head_33 h = some t) : MW Z (Qm Z (some (iv t.1)) zN zG t.2 0 0) 2 zN zG h 0 0 33 [(0, rfv (xd (zX Z)) 141)] [] := by
  unfold F_X12_head_33 at hF
  refine mw_aload_n 0 C dX12_head_33 rfl rfl ?_
  refine mw_bipush C dX12_head_34 bp_6 ?_
  obtain ⟨q1, hq1, hF⟩ := bind_some hF
  refine mw_callV (c := 141) [iv 6] [] C dX12_head_36 (T_X12_refuse (zl Z) (zX Z) 6 _ _ hq1) rfl zn141 zk141 (by decide) rfl wd997 wd998 wd1360 wd14 wd999 hd_X12_refuse rfl (by decide) (by decide) (Nat.le_of_ble_eq_true rfl) ⟨Nat.zero_le _, Nat.zero_le _⟩ ?_
  cases hF
  exact mw_iret C dX12_head_39 rfl rfl
def F_X12_head_62 (s1 : Int) (h : MH) : Option (Int × MH) :=
  (F_X12_gives s1 h).bind fun q1 =>
  some (q1.1, q1.2)
set_option maxRecDepth 100000 in
theorem T_X12_head_62 {Z : ZT} (C : Cx Z cX12_head 2 RX12 2 (some .int)) (s1 : Int) (h : MH) (t : (Int × MH)) (hF : F_X12_head_62 s1 h = some t) : MW Z (Qm Z (some (iv t.1)) zN zG t.2 0 0) 2 zN zG h 0 0 62 [] [lvv s1, rfv (xd (zX Z)) 141] := by
  unfold F_X12_head_62 at hF
  obtain ⟨q1, hq1, hF⟩ := bind_some hF
  refine mw_callV (c := 141) [lvv s1] [] C dX12_head_62 (T_X12_gives (zl Z) (zX Z) s1 _ _ hq1) rfl zn141 zk141 (by decide) rfl wd1069 wd1070 wd1379 wd14 wd1071 hd_X12_gives rfl (by decide) (by decide) (Nat.le_of_ble_eq_true rfl) ⟨Nat.zero_le _, Nat.zero_le _⟩ ?_
  cases hF
  exact mw_iret C dX12_head_65 rfl rfl
def F_X12_head_0 (x1 : Int) (h : MH) : Option (Int × MH) :=
  ck (in32 x1) <|
  if x1 < 0 then
    F_X12_head_9 h
  else
    if x1 ≤ 4 then
      ck (in32 (h 141 41)) <|
      if (h 141 41) = (-1) then
        F_X12_head_33 h
      else
        ck (in32 (2 * (h 141 41))) <|
        if x1 ≤ (2 * (h 141 41)) then
          if x1 ≠ 0 then
            ck (0 ≤ (x1 - 1) ∧ (x1 - 1) < 4) <|
            ck (in32 (h 159 (x1 - 1).toNat)) <|
            F_X12_head_62 (h 159 (x1 - 1).toNat) h
          else
            ck (in32 (h 141 40)) <|
            F_X12_head_62 (h 141 40) h
        else
          F_X12_head_33 h
    else
      F_X12_head_9 h
set_option maxRecDepth 100000 in
theorem T_X12_head_0 {Z : ZT} (C : Cx Z cX12_head 2 RX12 2 (some .int)) (x1 : Int) (h : MH) (t : (Int × MH)) (hF : F_X12_head_0 x1 h = some t) : MW Z (Qm Z (some (iv t.1)) zN zG t.2 0 0) 2 zN zG h 0 0 0 [(0, rfv (xd (zX Z)) 141), (1, iv x1)] [] := by
  unfold F_X12_head_0 at hF
  refine mw_iload_n 1 C dX12_head_0 rfl rfl ?_
  obtain ⟨g1, hF⟩ := ck_some hF
  rcases ite_some hF with ⟨c2, hF⟩ | ⟨c2, hF⟩
  · refine mw_if_lt_t (tgt := 9) C dX12_head_1 (by decide) g1 c2 ?_
    refine mw_sub [0] rfl ?_
    exact T_X12_head_9 C _ _ hF
  · refine mw_if_lt_f (tgt := 9) C dX12_head_1 (by decide) g1 c2 ?_
    refine mw_iload_n 1 C dX12_head_4 rfl rfl ?_
    refine mw_iconst C dX12_head_5 ?_
    rcases ite_some hF with ⟨c3, hF⟩ | ⟨c3, hF⟩
    · refine mw_icmp_le_t (tgt := 15) C dX12_head_6 (by decide) g1 (by decide) c3 ?_
      refine mw_aload_n 0 C dX12_head_15 rfl rfl ?_
      refine mw_get (k := 41) (T := TX12) (v := iv (h 141 41)) C dX12_head_16 zn141 zk141 (by decide) rfl inX12 (by decide) wd930 rfl rfl ?_
      refine mw_iconst C dX12_head_19 ?_
      obtain ⟨g4, hF⟩ := ck_some hF
      rcases ite_some hF with ⟨c5, hF⟩ | ⟨c5, hF⟩
      · refine mw_icmp_eq_t (tgt := 33) C dX12_head_20 (by decide) g4 (by decide) c5 ?_
        refine mw_sub [0] rfl ?_
        exact T_X12_head_33 C _ _ hF
      · refine mw_icmp_eq_f (tgt := 33) C dX12_head_20 (by decide) g4 (by decide) c5 ?_
        refine mw_iload_n 1 C dX12_head_23 rfl rfl ?_
        refine mw_iconst C dX12_head_24 ?_
        refine mw_aload_n 0 C dX12_head_25 rfl rfl ?_
        refine mw_get (k := 41) (T := TX12) (v := iv (h 141 41)) C dX12_head_26 zn141 zk141 (by decide) rfl inX12 (by decide) wd930 rfl rfl ?_
        refine mw_imul C dX12_head_29 ?_
        obtain ⟨g6, hF⟩ := ck_some hF
        rcases ite_some hF with ⟨c7, hF⟩ | ⟨c7, hF⟩
        · refine mw_icmp_le_t (tgt := 40) C dX12_head_30 (by decide) g1 g6 c7 ?_
          refine mw_aload_n 0 C dX12_head_40 rfl rfl ?_
          refine mw_iload_n 1 C dX12_head_41 rfl rfl ?_
          rcases ite_some hF with ⟨c8, hF⟩ | ⟨c8, hF⟩
          · refine mw_if_ne_t (tgt := 53) C dX12_head_42 (by decide) g1 c8 ?_
            refine mw_aload_n 0 C dX12_head_53 rfl rfl ?_
            refine mw_get (k := 38) (T := TX12) (v := rfv (xd (zX Z)) 159) C dX12_head_54 zn141 zk141 (by decide) rfl inX12 (by decide) wd927 rfl (zfv_r rfl zg_141_38) ?_
            refine mw_iload_n 1 C dX12_head_57 rfl rfl ?_
            refine mw_iconst C dX12_head_58 ?_
            refine mw_isub C dX12_head_59 ?_
            obtain ⟨g9, hF⟩ := ck_some hF
            refine mw_iald C dX12_head_60 zn159 zk159 (by decide) g9 ?_
            obtain ⟨g10, hF⟩ := ck_some hF
            refine mw_i2l C dX12_head_61 g10 ?_
            refine mw_sub [] rfl ?_
            exact T_X12_head_62 C (h 159 (x1 - 1).toNat) _ _ hF
          · refine mw_if_ne_f (tgt := 53) C dX12_head_42 (by decide) g1 c8 ?_
            refine mw_aload_n 0 C dX12_head_45 rfl rfl ?_
            refine mw_get (k := 40) (T := TX12) (v := iv (h 141 40)) C dX12_head_46 zn141 zk141 (by decide) rfl inX12 (by decide) wd929 rfl rfl ?_
            obtain ⟨g11, hF⟩ := ck_some hF
            refine mw_i2l C dX12_head_49 g11 ?_
            refine mw_goto (tgt := 62) C dX12_head_50 (by decide) ?_
            refine mw_sub [] rfl ?_
            exact T_X12_head_62 C (h 141 40) _ _ hF
        · refine mw_icmp_le_f (tgt := 40) C dX12_head_30 (by decide) g1 g6 c7 ?_
          refine mw_sub [0] rfl ?_
          exact T_X12_head_33 C _ _ hF
    · refine mw_icmp_le_f (tgt := 15) C dX12_head_6 (by decide) g1 (by decide) c3 ?_
      refine mw_sub [0] rfl ?_
      exact T_X12_head_9 C _ _ hF
def F_X12_head (x1 : Int) (h : MH) : Option (Int × MH) := F_X12_head_0 x1 h
theorem T_X12_head (l : Launch) (X : XT) (x1 : Int) (h : MH) (t : (Int × MH)) (hF : F_X12_head x1 h = some t) : Ct l X yX12_head cX12_head 2 (some .int) 2 [rfv (xd X) 141, iv x1] zN zG h (some (iv t.1)) zN zG t.2 0 0 := by
  refine Ct.head (by decide) (Nat.le_of_ble_eq_true rfl) (fun Z hX hl _ _ _ C => ?_)
  subst hX
  subst hl
  exact (T_X12_head_0 C x1 _ _ hF)
/-! BottleLineModel.thrownMany(I)I -/
def F_X12_thrownMany_24 (k4 : Int → Int → Int → MH → Option (Int × MH)) (x1 : Int) (x3 : Int) (s0 : Int) (s1 : Int) (h : MH) : Option (Int × MH) :=
  nx (s0 + s1) fun v1 =>
  ck (0 ≤ x3 ∧ x3 < 10200) <|
  nx (hup h 160 x3.toNat 0) fun h3 =>
  k4 x1 v1 (x3 + 1) h3
set_option maxRecDepth 100000 in
theorem T_X12_thrownMany_24 {Z : ZT} (C : Cx Z cX12_thrownMany 4 RX12 1 (some .int)) (k4 : Int → Int → Int → MH → Option (Int × MH)) (hk4 : ∀ (x1 : Int) (x2 : Int) (x3 : Int) (h : MH) (t : (Int × MH)), k4 x1 x2 x3 h = some t → MW Z (Qm Z (some (iv t.1)) zN zG t.2 0 0) 4 zN zG h 0 0 4 [(0, rfv (xd (zX Z)) 141), (1, iv x1), (2, iv x2), (3, iv x3)] []) (x1 : Int) (x3 : Int) (s0 : Int) (s1 : Int) (h : MH) (t : (Int × MH)) (hF : F_X12_thrownMany_24 k4 x1 x3 s0 s1 h = some t) : MW Z (Qm Z (some (iv t.1)) zN zG t.2 0 0) 4 zN zG h 0 0 24 [(0, rfv (xd (zX Z)) 141), (1, iv x1), (3, iv x3)] [iv s1, iv s0] := by
  unfold F_X12_thrownMany_24 at hF
  refine mw_iadd C dX12_thrownMany_24 ?_
  obtain ⟨v1, ev1, hF⟩ := nx_some hF
  refine mw_ti ev1 ?_
  refine mw_istore_n [(2, iv v1), (0, rfv (xd (zX Z)) 141), (1, iv x1), (3, iv x3)] C dX12_thrownMany_25 rfl (by decide) rfl ?_
  refine mw_aload_n 1 C dX12_thrownMany_26 rfl rfl ?_
  refine mw_get (k := 42) (T := TX12) (v := rfv (xd (zX Z)) 160) C dX12_thrownMany_27 zn141 zk141 (by decide) rfl inX12 (by decide) wd931 rfl (zfv_r rfl zg_141_42) ?_
  refine mw_iload_n 3 C dX12_thrownMany_30 rfl rfl ?_
  refine mw_iconst C dX12_thrownMany_31 ?_
  obtain ⟨g2, hF⟩ := ck_some hF
  obtain ⟨h3, eh3, hF⟩ := nx_some hF
  refine mw_zast C dX12_thrownMany_32 zn160 zk160 (by decide) g2 (Or.inl rfl) (mw_h eh3 ?_)
  refine mw_iinc 3 [(3, iv (x3 + 1)), (2, iv v1), (0, rfv (xd (zX Z)) 141), (1, iv x1)] C dX12_thrownMany_33 rfl (by decide) rfl ?_
  refine mw_goto (tgt := 4) C dX12_thrownMany_36 (by decide) ?_
  refine mw_sub [2, 3, 1, 0] rfl ?_
  exact hk4 x1 v1 (x3 + 1) _ _ hF
def F_X12_thrownMany_4 : Nat → Int → Int → Int → MH → Option (Int × MH)
  | 0, _, _, _, _ => none
  | n + 1, x1, x2, x3, h =>
    ck (in32 x3) <|
    ck (in32 x1) <|
    if x1 < x3 then
      some (x2, h)
    else
      ck (0 ≤ x3 ∧ x3 < 10200) <|
      ck (in32 (h 160 x3.toNat)) <|
      if (h 160 x3.toNat) = 0 then
        F_X12_thrownMany_24 (F_X12_thrownMany_4 n) x1 x3 x2 0 h
      else
        F_X12_thrownMany_24 (F_X12_thrownMany_4 n) x1 x3 x2 1 h
set_option maxRecDepth 100000 in
theorem T_X12_thrownMany_4 {Z : ZT} (C : Cx Z cX12_thrownMany 4 RX12 1 (some .int)) : ∀ (n : Nat) (x1 : Int) (x2 : Int) (x3 : Int) (h : MH) (t : (Int × MH)), F_X12_thrownMany_4 n x1 x2 x3 h = some t → MW Z (Qm Z (some (iv t.1)) zN zG t.2 0 0) 4 zN zG h 0 0 4 [(0, rfv (xd (zX Z)) 141), (1, iv x1), (2, iv x2), (3, iv x3)] [] := by
  intro n
  induction n with
  | zero =>
    intros
    rename_i hF
    exact absurd hF (by intro q; cases q)
  | succ n ih =>
    intro x1 x2 x3 h t hF
    rw [F_X12_thrownMany_4] at hF
    refine mw_iload_n 3 C dX12_thrownMany_4 rfl rfl ?_
    refine mw_iload_n 1 C dX12_thrownMany_5 rfl rfl ?_
    obtain ⟨g1, hF⟩ := ck_some hF
    obtain ⟨g2, hF⟩ := ck_some hF
    rcases ite_some hF with ⟨c3, hF⟩ | ⟨c3, hF⟩
    · refine mw_icmp_gt_t (tgt := 39) C dX12_thrownMany_6 (by decide) g1 g2 c3 ?_
      refine mw_iload_n 2 C dX12_thrownMany_39 rfl rfl ?_
      cases hF
      exact mw_iret C dX12_thrownMany_40 rfl rfl
    · refine mw_icmp_gt_f (tgt := 39) C dX12_thrownMany_6 (by decide) g1 g2 c3 ?_
      refine mw_iload_n 2 C dX12_thrownMany_9 rfl rfl ?_
      refine mw_aload_n 0 C dX12_thrownMany_10 rfl rfl ?_
      refine mw_get (k := 42) (T := TX12) (v := rfv (xd (zX Z)) 160) C dX12_thrownMany_11 zn141 zk141 (by decide) rfl inX12 (by decide) wd931 rfl (zfv_r rfl zg_141_42) ?_
      refine mw_iload_n 3 C dX12_thrownMany_14 rfl rfl ?_
      obtain ⟨g4, hF⟩ := ck_some hF
      refine mw_zald C dX12_thrownMany_15 zn160 zk160 (by decide) g4 ?_
      obtain ⟨g5, hF⟩ := ck_some hF
      rcases ite_some hF with ⟨c6, hF⟩ | ⟨c6, hF⟩
      · refine mw_if_eq_t (tgt := 23) C dX12_thrownMany_16 (by decide) g5 c6 ?_
        refine mw_iconst C dX12_thrownMany_23 ?_
        refine mw_sub [0, 1, 3] rfl ?_
        exact T_X12_thrownMany_24 C (F_X12_thrownMany_4 n) ih x1 x3 x2 0 _ _ hF
      · refine mw_if_eq_f (tgt := 23) C dX12_thrownMany_16 (by decide) g5 c6 ?_
        refine mw_iconst C dX12_thrownMany_19 ?_
        refine mw_goto (tgt := 24) C dX12_thrownMany_20 (by decide) ?_
        refine mw_sub [0, 1, 3] rfl ?_
        exact T_X12_thrownMany_24 C (F_X12_thrownMany_4 n) ih x1 x3 x2 1 _ _ hF
def F_X12_thrownMany_0 (x1 : Int) (h : MH) : Option (Int × MH) :=
  F_X12_thrownMany_4 20000 x1 0 0 h
set_option maxRecDepth 100000 in
theorem T_X12_thrownMany_0 {Z : ZT} (C : Cx Z cX12_thrownMany 4 RX12 1 (some .int)) (x1 : Int) (h : MH) (t : (Int × MH)) (hF : F_X12_thrownMany_0 x1 h = some t) : MW Z (Qm Z (some (iv t.1)) zN zG t.2 0 0) 4 zN zG h 0 0 0 [(0, rfv (xd (zX Z)) 141), (1, iv x1)] [] := by
  unfold F_X12_thrownMany_0 at hF
  refine mw_iconst C dX12_thrownMany_0 ?_
  refine mw_istore_n [(2, iv 0), (0, rfv (xd (zX Z)) 141), (1, iv x1)] C dX12_thrownMany_1 rfl (by decide) rfl ?_
  refine mw_iconst C dX12_thrownMany_2 ?_
  refine mw_istore_n [(3, iv 0), (2, iv 0), (0, rfv (xd (zX Z)) 141), (1, iv x1)] C dX12_thrownMany_3 rfl (by decide) rfl ?_
  refine mw_sub [2, 3, 1, 0] rfl ?_
  exact T_X12_thrownMany_4 C 20000 x1 0 0 _ _ hF
def F_X12_thrownMany (x1 : Int) (h : MH) : Option (Int × MH) := F_X12_thrownMany_0 x1 h
theorem T_X12_thrownMany (l : Launch) (X : XT) (x1 : Int) (h : MH) (t : (Int × MH)) (hF : F_X12_thrownMany x1 h = some t) : Ct l X yX12_thrownMany cX12_thrownMany 4 (some .int) 1 [rfv (xd X) 141, iv x1] zN zG h (some (iv t.1)) zN zG t.2 0 0 := by
  refine Ct.head (by decide) (Nat.le_of_ble_eq_true rfl) (fun Z hX hl _ _ _ C => ?_)
  subst hX
  subst hl
  exact (T_X12_thrownMany_0 C x1 _ _ hF)
/-! BottleLineModel.brief(IIIII)I -/
def F_X12_brief_245 (k72 : Int → Int → Int → Int → Int → Int → Int → MH → Option (Int × MH)) (x1 : Int) (x2 : Int) (x3 : Int) (x4 : Int) (x5 : Int) (x7 : Int) (x8 : Int) (h : MH) : Option (Int × MH) :=
  k72 x1 x2 x3 x4 x5 x7 (x8 + 1) h
set_option maxRecDepth 100000 in
theorem T_X12_brief_245 {Z : ZT} (C : Cx Z cX12_brief 14 RX12 3 (some .int)) (k72 : Int → Int → Int → Int → Int → Int → Int → MH → Option (Int × MH)) (hk72 : ∀ (x1 : Int) (x2 : Int) (x3 : Int) (x4 : Int) (x5 : Int) (x7 : Int) (x8 : Int) (h : MH) (t : (Int × MH)), k72 x1 x2 x3 x4 x5 x7 x8 h = some t → MW Z (Qm Z (some (iv t.1)) zN zG t.2 0 0) 14 zN zG h 0 0 72 [(0, rfv (xd (zX Z)) 141), (1, iv x1), (2, iv x2), (3, iv x3), (4, iv x4), (5, iv x5), (7, iv x7), (8, iv x8)] []) (x1 : Int) (x2 : Int) (x3 : Int) (x4 : Int) (x5 : Int) (x7 : Int) (x8 : Int) (h : MH) (t : (Int × MH)) (hF : F_X12_brief_245 k72 x1 x2 x3 x4 x5 x7 x8 h = some t) : MW Z (Qm Z (some (iv t.1)) zN zG t.2 0 0) 14 zN zG h 0 0 245 [(0, rfv (xd (zX Z)) 141), (1, iv x1), (2, iv x2), (3, iv x3), (4, iv x4), (5, iv x5), (7, iv x7), (8, iv x8)] [] := by
  unfold F_X12_brief_245 at hF
  refine mw_iinc 7 [(8, iv (x8 + 1)), (0, rfv (xd (zX Z)) 141), (1, iv x1), (2, iv x2), (3, iv x3), (4, iv x4), (5, iv x5), (7, iv x7)] C dX12_brief_245 rfl (by decide) rfl ?_
  refine mw_goto (tgt := 72) C dX12_brief_248 (by decide) ?_
  refine mw_sub [1, 2, 3, 4, 5, 6, 7, 0] rfl ?_
  exact hk72 x1 x2 x3 x4 x5 x7 (x8 + 1) _ _ hF
def F_X12_brief_228 (k72 : Int → Int → Int → Int → Int → Int → Int → MH → Option (Int × MH)) (k209 : Int → Int → Int → Int → Int → Int → Int → Int → Int → MH → Option (Int × MH)) (x1 : Int) (x2 : Int) (x3 : Int) (x4 : Int) (x5 : Int) (x7 : Int) (x8 : Int) (x12 : Int) (x13 : Int) (s0 : Int) (s1 : Int) (h : MH) : Option (Int × MH) :=
  ck (in32 s0) <|
  ck (in32 s1) <|
  if s1 < s0 then
    F_X12_brief_245 k72 x1 x2 x3 x4 x5 x7 x8 h
  else
    ck (0 ≤ x13 ∧ x13 < 10200) <|
    nx (hup h 160 x13.toNat 1) fun h5 =>
    k209 x1 x2 x3 x4 x5 x7 x8 x12 (x13 + 1) h5
set_option maxRecDepth 100000 in
theorem T_X12_brief_228 {Z : ZT} (C : Cx Z cX12_brief 14 RX12 3 (some .int)) (k72 : Int → Int → Int → Int → Int → Int → Int → MH → Option (Int × MH)) (hk72 : ∀ (x1 : Int) (x2 : Int) (x3 : Int) (x4 : Int) (x5 : Int) (x7 : Int) (x8 : Int) (h : MH) (t : (Int × MH)), k72 x1 x2 x3 x4 x5 x7 x8 h = some t → MW Z (Qm Z (some (iv t.1)) zN zG t.2 0 0) 14 zN zG h 0 0 72 [(0, rfv (xd (zX Z)) 141), (1, iv x1), (2, iv x2), (3, iv x3), (4, iv x4), (5, iv x5), (7, iv x7), (8, iv x8)] []) (k209 : Int → Int → Int → Int → Int → Int → Int → Int → Int → MH → Option (Int × MH)) (hk209 : ∀ (x1 : Int) (x2 : Int) (x3 : Int) (x4 : Int) (x5 : Int) (x7 : Int) (x8 : Int) (x12 : Int) (x13 : Int) (h : MH) (t : (Int × MH)), k209 x1 x2 x3 x4 x5 x7 x8 x12 x13 h = some t → MW Z (Qm Z (some (iv t.1)) zN zG t.2 0 0) 14 zN zG h 0 0 209 [(0, rfv (xd (zX Z)) 141), (1, iv x1), (2, iv x2), (3, iv x3), (4, iv x4), (5, iv x5), (7, iv x7), (8, iv x8), (12, iv x12), (13, iv x13)] []) (x1 : Int) (x2 : Int) (x3 : Int) (x4 : Int) (x5 : Int) (x7 : Int) (x8 : Int) (x12 : Int) (x13 : Int) (s0 : Int) (s1 : Int) (h : MH) (t : (Int × MH)) (hF : F_X12_brief_228 k72 k209 x1 x2 x3 x4 x5 x7 x8 x12 x13 s0 s1 h = some t) : MW Z (Qm Z (some (iv t.1)) zN zG t.2 0 0) 14 zN zG h 0 0 228 [(0, rfv (xd (zX Z)) 141), (1, iv x1), (2, iv x2), (3, iv x3), (4, iv x4), (5, iv x5), (7, iv x7), (8, iv x8), (12, iv x12), (13, iv x13)] [iv s1, iv s0] := by
  unfold F_X12_brief_228 at hF
  obtain ⟨g1, hF⟩ := ck_some hF
  obtain ⟨g2, hF⟩ := ck_some hF
  rcases ite_some hF with ⟨c3, hF⟩ | ⟨c3, hF⟩
  · refine mw_icmp_gt_t (tgt := 245) C dX12_brief_228 (by decide) g1 g2 c3 ?_
    refine mw_sub [0, 1, 2, 3, 4, 5, 6, 7] rfl ?_
    exact T_X12_brief_245 C k72 hk72 x1 x2 x3 x4 x5 x7 x8 _ _ hF
  · refine mw_icmp_gt_f (tgt := 245) C dX12_brief_228 (by decide) g1 g2 c3 ?_
    refine mw_aload_n 0 C dX12_brief_231 rfl rfl ?_
    refine mw_get (k := 42) (T := TX12) (v := rfv (xd (zX Z)) 160) C dX12_brief_232 zn141 zk141 (by decide) rfl inX12 (by decide) wd931 rfl (zfv_r rfl zg_141_42) ?_
    refine mw_iload 9 C dX12_brief_235 rfl ?_
    refine mw_iconst C dX12_brief_237 ?_
    obtain ⟨g4, hF⟩ := ck_some hF
    obtain ⟨h5, eh5, hF⟩ := nx_some hF
    refine mw_zast C dX12_brief_238 zn160 zk160 (by decide) g4 (Or.inr rfl) (mw_h eh5 ?_)
    refine mw_iinc 9 [(13, iv (x13 + 1)), (0, rfv (xd (zX Z)) 141), (1, iv x1), (2, iv x2), (3, iv x3), (4, iv x4), (5, iv x5), (7, iv x7), (8, iv x8), (12, iv x12)] C dX12_brief_239 rfl (by decide) rfl ?_
    refine mw_goto (tgt := 209) C dX12_brief_242 (by decide) ?_
    refine mw_sub [1, 2, 3, 4, 5, 6, 7, 8, 9, 0] rfl ?_
    exact hk209 x1 x2 x3 x4 x5 x7 x8 x12 (x13 + 1) _ _ hF
def F_X12_brief_209 (k72 : Int → Int → Int → Int → Int → Int → Int → MH → Option (Int × MH)) : Nat → Int → Int → Int → Int → Int → Int → Int → Int → Int → MH → Option (Int × MH)
  | 0, _, _, _, _, _, _, _, _, _, _ => none
  | n + 1, x1, x2, x3, x4, x5, x7, x8, x12, x13, h =>
    ck (in32 x12) <|
    ck (in32 x2) <|
    if x12 ≠ x2 then
      F_X12_brief_228 k72 (F_X12_brief_209 k72 n) x1 x2 x3 x4 x5 x7 x8 x12 x13 x13 ((x12 * x3) - 1) h
    else
      F_X12_brief_228 k72 (F_X12_brief_209 k72 n) x1 x2 x3 x4 x5 x7 x8 x12 x13 x13 x7 h
set_option maxRecDepth 100000 in
theorem T_X12_brief_209 {Z : ZT} (C : Cx Z cX12_brief 14 RX12 3 (some .int)) (k72 : Int → Int → Int → Int → Int → Int → Int → MH → Option (Int × MH)) (hk72 : ∀ (x1 : Int) (x2 : Int) (x3 : Int) (x4 : Int) (x5 : Int) (x7 : Int) (x8 : Int) (h : MH) (t : (Int × MH)), k72 x1 x2 x3 x4 x5 x7 x8 h = some t → MW Z (Qm Z (some (iv t.1)) zN zG t.2 0 0) 14 zN zG h 0 0 72 [(0, rfv (xd (zX Z)) 141), (1, iv x1), (2, iv x2), (3, iv x3), (4, iv x4), (5, iv x5), (7, iv x7), (8, iv x8)] []) : ∀ (n : Nat) (x1 : Int) (x2 : Int) (x3 : Int) (x4 : Int) (x5 : Int) (x7 : Int) (x8 : Int) (x12 : Int) (x13 : Int) (h : MH) (t : (Int × MH)), F_X12_brief_209 k72 n x1 x2 x3 x4 x5 x7 x8 x12 x13 h = some t → MW Z (Qm Z (some (iv t.1)) zN zG t.2 0 0) 14 zN zG h 0 0 209 [(0, rfv (xd (zX Z)) 141), (1, iv x1), (2, iv x2), (3, iv x3), (4, iv x4), (5, iv x5), (7, iv x7), (8, iv x8), (12, iv x12), (13, iv x13)] [] := by
  intro n
  induction n with
  | zero =>
    intros
    rename_i hF
    exact absurd hF (by intro q; cases q)
  | succ n ih =>
    intro x1 x2 x3 x4 x5 x7 x8 x12 x13 h t hF
    rw [F_X12_brief_209] at hF
    refine mw_iload 9 C dX12_brief_209 rfl ?_
    refine mw_iload 8 C dX12_brief_211 rfl ?_
    refine mw_iload_n 2 C dX12_brief_213 rfl rfl ?_
    obtain ⟨g1, hF⟩ := ck_some hF
    obtain ⟨g2, hF⟩ := ck_some hF
    rcases ite_some hF with ⟨c3, hF⟩ | ⟨c3, hF⟩
    · refine mw_icmp_ne_t (tgt := 222) C dX12_brief_214 (by decide) g1 g2 c3 ?_
      refine mw_iload 8 C dX12_brief_222 rfl ?_
      refine mw_iload_n 3 C dX12_brief_224 rfl rfl ?_
      refine mw_imul C dX12_brief_225 ?_
      refine mw_iconst C dX12_brief_226 ?_
      refine mw_isub C dX12_brief_227 ?_
      exact T_X12_brief_228 C k72 hk72 (F_X12_brief_209 k72 n) ih x1 x2 x3 x4 x5 x7 x8 x12 x13 x13 ((x12 * x3) - 1) _ _ hF
    · refine mw_icmp_ne_f (tgt := 222) C dX12_brief_214 (by decide) g1 g2 c3 ?_
      refine mw_iload 6 C dX12_brief_217 rfl ?_
      refine mw_goto (tgt := 228) C dX12_brief_219 (by decide) ?_
      exact T_X12_brief_228 C k72 hk72 (F_X12_brief_209 k72 n) ih x1 x2 x3 x4 x5 x7 x8 x12 x13 x13 x7 _ _ hF
def F_X12_brief_207 (k72 : Int → Int → Int → Int → Int → Int → Int → MH → Option (Int × MH)) (x1 : Int) (x2 : Int) (x3 : Int) (x4 : Int) (x5 : Int) (x7 : Int) (x8 : Int) (x12 : Int) (s0 : Int) (h : MH) : Option (Int × MH) :=
  F_X12_brief_209 k72 20000 x1 x2 x3 x4 x5 x7 x8 x12 s0 h
set_option maxRecDepth 100000 in
theorem T_X12_brief_207 {Z : ZT} (C : Cx Z cX12_brief 14 RX12 3 (some .int)) (k72 : Int → Int → Int → Int → Int → Int → Int → MH → Option (Int × MH)) (hk72 : ∀ (x1 : Int) (x2 : Int) (x3 : Int) (x4 : Int) (x5 : Int) (x7 : Int) (x8 : Int) (h : MH) (t : (Int × MH)), k72 x1 x2 x3 x4 x5 x7 x8 h = some t → MW Z (Qm Z (some (iv t.1)) zN zG t.2 0 0) 14 zN zG h 0 0 72 [(0, rfv (xd (zX Z)) 141), (1, iv x1), (2, iv x2), (3, iv x3), (4, iv x4), (5, iv x5), (7, iv x7), (8, iv x8)] []) (x1 : Int) (x2 : Int) (x3 : Int) (x4 : Int) (x5 : Int) (x7 : Int) (x8 : Int) (x12 : Int) (s0 : Int) (h : MH) (t : (Int × MH)) (hF : F_X12_brief_207 k72 x1 x2 x3 x4 x5 x7 x8 x12 s0 h = some t) : MW Z (Qm Z (some (iv t.1)) zN zG t.2 0 0) 14 zN zG h 0 0 207 [(0, rfv (xd (zX Z)) 141), (1, iv x1), (2, iv x2), (3, iv x3), (4, iv x4), (5, iv x5), (7, iv x7), (8, iv x8), (12, iv x12)] [iv s0] := by
  unfold F_X12_brief_207 at hF
  refine mw_istore [(13, iv s0), (0, rfv (xd (zX Z)) 141), (1, iv x1), (2, iv x2), (3, iv x3), (4, iv x4), (5, iv x5), (7, iv x7), (8, iv x8), (12, iv x12)] C dX12_brief_207 (by decide) rfl ?_
  refine mw_sub [1, 2, 3, 4, 5, 6, 7, 8, 9, 0] rfl ?_
  exact T_X12_brief_209 C k72 hk72 20000 x1 x2 x3 x4 x5 x7 x8 x12 s0 _ _ hF
def F_X12_brief_192 (k72 : Int → Int → Int → Int → Int → Int → Int → MH → Option (Int × MH)) (x1 : Int) (x2 : Int) (x3 : Int) (x4 : Int) (x5 : Int) (x7 : Int) (x8 : Int) (x11 : Int) (x12 : Int) (h : MH) : Option (Int × MH) :=
  ck (in32 x11) <|
  if 0 ≤ x11 then
    F_X12_brief_207 k72 x1 x2 x3 x4 x5 x7 x8 x12 ((x11 * x3) + 1) h
  else
    F_X12_brief_207 k72 x1 x2 x3 x4 x5 x7 x8 x12 0 h
set_option maxRecDepth 100000 in
theorem T_X12_brief_192 {Z : ZT} (C : Cx Z cX12_brief 14 RX12 3 (some .int)) (k72 : Int → Int → Int → Int → Int → Int → Int → MH → Option (Int × MH)) (hk72 : ∀ (x1 : Int) (x2 : Int) (x3 : Int) (x4 : Int) (x5 : Int) (x7 : Int) (x8 : Int) (h : MH) (t : (Int × MH)), k72 x1 x2 x3 x4 x5 x7 x8 h = some t → MW Z (Qm Z (some (iv t.1)) zN zG t.2 0 0) 14 zN zG h 0 0 72 [(0, rfv (xd (zX Z)) 141), (1, iv x1), (2, iv x2), (3, iv x3), (4, iv x4), (5, iv x5), (7, iv x7), (8, iv x8)] []) (x1 : Int) (x2 : Int) (x3 : Int) (x4 : Int) (x5 : Int) (x7 : Int) (x8 : Int) (x11 : Int) (x12 : Int) (h : MH) (t : (Int × MH)) (hF : F_X12_brief_192 k72 x1 x2 x3 x4 x5 x7 x8 x11 x12 h = some t) : MW Z (Qm Z (some (iv t.1)) zN zG t.2 0 0) 14 zN zG h 0 0 192 [(0, rfv (xd (zX Z)) 141), (1, iv x1), (2, iv x2), (3, iv x3), (4, iv x4), (5, iv x5), (7, iv x7), (8, iv x8), (11, iv x11), (12, iv x12)] [] := by
  unfold F_X12_brief_192 at hF
  refine mw_iload 8 C dX12_brief_192 rfl ?_
  obtain ⟨g1, hF⟩ := ck_some hF
  rcases ite_some hF with ⟨c2, hF⟩ | ⟨c2, hF⟩
  · refine mw_if_ge_t (tgt := 201) C dX12_brief_194 (by decide) g1 c2 ?_
    refine mw_iload 8 C dX12_brief_201 rfl ?_
    refine mw_iload_n 3 C dX12_brief_203 rfl rfl ?_
    refine mw_imul C dX12_brief_204 ?_
    refine mw_iconst C dX12_brief_205 ?_
    refine mw_iadd C dX12_brief_206 ?_
    refine mw_sub [0, 1, 2, 3, 4, 5, 6, 7, 9] rfl ?_
    exact T_X12_brief_207 C k72 hk72 x1 x2 x3 x4 x5 x7 x8 x12 ((x11 * x3) + 1) _ _ hF
  · refine mw_if_ge_f (tgt := 201) C dX12_brief_194 (by decide) g1 c2 ?_
    refine mw_iconst C dX12_brief_197 ?_
    refine mw_goto (tgt := 207) C dX12_brief_198 (by decide) ?_
    refine mw_sub [0, 1, 2, 3, 4, 5, 6, 7, 9] rfl ?_
    exact T_X12_brief_207 C k72 hk72 x1 x2 x3 x4 x5 x7 x8 x12 0 _ _ hF
def F_X12_brief_156 (k72 : Int → Int → Int → Int → Int → Int → Int → MH → Option (Int × MH)) : Nat → Int → Int → Int → Int → Int → Int → Int → Int → Int → MH → Option (Int × MH)
  | 0, _, _, _, _, _, _, _, _, _, _ => none
  | n + 1, x1, x2, x3, x4, x5, x7, x8, x11, x12, h =>
    ck (in32 x12) <|
    ck (in32 x2) <|
    if x2 ≤ x12 then
      F_X12_brief_192 k72 x1 x2 x3 x4 x5 x7 x8 x11 x12 h
    else
      ck (0 ≤ ((60 * x1) + x12) ∧ ((60 * x1) + x12) < 240) <|
      ck (in32 x4) <|
      ck (in32 x5) <|
      (F_X12_isFrom (h 145 ((60 * x1) + x12).toNat) x4 x5 h).bind fun q7 =>
      ck (in32 q7.1) <|
      if q7.1 ≠ 0 then
        F_X12_brief_192 k72 x1 x2 x3 x4 x5 x7 x8 x11 x12 q7.2
      else
        F_X12_brief_156 k72 n x1 x2 x3 x4 x5 x7 x8 x11 (x12 + 1) q7.2
set_option maxRecDepth 100000 in
theorem T_X12_brief_156 {Z : ZT} (C : Cx Z cX12_brief 14 RX12 3 (some .int)) (k72 : Int → Int → Int → Int → Int → Int → Int → MH → Option (Int × MH)) (hk72 : ∀ (x1 : Int) (x2 : Int) (x3 : Int) (x4 : Int) (x5 : Int) (x7 : Int) (x8 : Int) (h : MH) (t : (Int × MH)), k72 x1 x2 x3 x4 x5 x7 x8 h = some t → MW Z (Qm Z (some (iv t.1)) zN zG t.2 0 0) 14 zN zG h 0 0 72 [(0, rfv (xd (zX Z)) 141), (1, iv x1), (2, iv x2), (3, iv x3), (4, iv x4), (5, iv x5), (7, iv x7), (8, iv x8)] []) : ∀ (n : Nat) (x1 : Int) (x2 : Int) (x3 : Int) (x4 : Int) (x5 : Int) (x7 : Int) (x8 : Int) (x11 : Int) (x12 : Int) (h : MH) (t : (Int × MH)), F_X12_brief_156 k72 n x1 x2 x3 x4 x5 x7 x8 x11 x12 h = some t → MW Z (Qm Z (some (iv t.1)) zN zG t.2 0 0) 14 zN zG h 0 0 156 [(0, rfv (xd (zX Z)) 141), (1, iv x1), (2, iv x2), (3, iv x3), (4, iv x4), (5, iv x5), (7, iv x7), (8, iv x8), (11, iv x11), (12, iv x12)] [] := by
  intro n
  induction n with
  | zero =>
    intros
    rename_i hF
    exact absurd hF (by intro q; cases q)
  | succ n ih =>
    intro x1 x2 x3 x4 x5 x7 x8 x11 x12 h t hF
    rw [F_X12_brief_156] at hF
    refine mw_iload 9 C dX12_brief_156 rfl ?_
    refine mw_iload_n 2 C dX12_brief_158 rfl rfl ?_
    obtain ⟨g1, hF⟩ := ck_some hF
    obtain ⟨g2, hF⟩ := ck_some hF
    rcases ite_some hF with ⟨c3, hF⟩ | ⟨c3, hF⟩
    · refine mw_icmp_ge_t (tgt := 192) C dX12_brief_159 (by decide) g1 g2 c3 ?_
      exact T_X12_brief_192 C k72 hk72 x1 x2 x3 x4 x5 x7 x8 x11 x12 _ _ hF
    · refine mw_icmp_ge_f (tgt := 192) C dX12_brief_159 (by decide) g1 g2 c3 ?_
      refine mw_aload_n 0 C dX12_brief_162 rfl rfl ?_
      refine mw_get (k := 6) (T := TX12) (v := rfv (xd (zX Z)) 145) C dX12_brief_163 zn141 zk141 (by decide) rfl inX12 (by decide) wd895 rfl (zfv_r rfl zg_141_6) ?_
      refine mw_bipush C dX12_brief_166 bp_60 ?_
      refine mw_iload_n 1 C dX12_brief_168 rfl rfl ?_
      refine mw_imul C dX12_brief_169 ?_
      refine mw_iload 9 C dX12_brief_170 rfl ?_
      refine mw_iadd C dX12_brief_172 ?_
      obtain ⟨g4, hF⟩ := ck_some hF
      refine mw_lald C dX12_brief_173 zn145 zk145 (by decide) g4 ?_
      refine mw_iload 4 C dX12_brief_174 rfl ?_
      obtain ⟨g5, hF⟩ := ck_some hF
      refine mw_i2l C dX12_brief_176 g5 ?_
      refine mw_iload 5 C dX12_brief_177 rfl ?_
      obtain ⟨g6, hF⟩ := ck_some hF
      refine mw_i2l C dX12_brief_179 g6 ?_
      obtain ⟨q7, hq7, hF⟩ := bind_some hF
      refine mw_callS [lvv (h 145 ((60 * x1) + x12).toNat), lvv x4, lvv x5] [] C dX12_brief_180 (T_X12_isFrom (zl Z) (zX Z) (h 145 ((60 * x1) + x12).toNat) x4 x5 _ _ hq7) rfl wd1116 wd1117 wd14 wd1118 hd_X12_isFrom rfl (by decide) (by decide) (Nat.le_of_ble_eq_true rfl) ⟨Nat.zero_le _, Nat.zero_le _⟩ ?_
      obtain ⟨g8, hF⟩ := ck_some hF
      rcases ite_some hF with ⟨c9, hF⟩ | ⟨c9, hF⟩
      · refine mw_if_ne_t (tgt := 192) C dX12_brief_183 (by decide) g8 c9 ?_
        exact T_X12_brief_192 C k72 hk72 x1 x2 x3 x4 x5 x7 x8 x11 x12 _ _ hF
      · refine mw_if_ne_f (tgt := 192) C dX12_brief_183 (by decide) g8 c9 ?_
        refine mw_iinc 9 [(12, iv (x12 + 1)), (0, rfv (xd (zX Z)) 141), (1, iv x1), (2, iv x2), (3, iv x3), (4, iv x4), (5, iv x5), (7, iv x7), (8, iv x8), (11, iv x11)] C dX12_brief_186 rfl (by decide) rfl ?_
        refine mw_goto (tgt := 156) C dX12_brief_189 (by decide) ?_
        refine mw_sub [1, 2, 3, 4, 5, 6, 7, 8, 9, 0] rfl ?_
        exact ih x1 x2 x3 x4 x5 x7 x8 x11 (x12 + 1) _ _ hF
def F_X12_brief_152 (k72 : Int → Int → Int → Int → Int → Int → Int → MH → Option (Int × MH)) (x1 : Int) (x2 : Int) (x3 : Int) (x4 : Int) (x5 : Int) (x7 : Int) (x8 : Int) (x11 : Int) (h : MH) : Option (Int × MH) :=
  F_X12_brief_156 k72 20000 x1 x2 x3 x4 x5 x7 x8 x11 x8 h
set_option maxRecDepth 100000 in
theorem T_X12_brief_152 {Z : ZT} (C : Cx Z cX12_brief 14 RX12 3 (some .int)) (k72 : Int → Int → Int → Int → Int → Int → Int → MH → Option (Int × MH)) (hk72 : ∀ (x1 : Int) (x2 : Int) (x3 : Int) (x4 : Int) (x5 : Int) (x7 : Int) (x8 : Int) (h : MH) (t : (Int × MH)), k72 x1 x2 x3 x4 x5 x7 x8 h = some t → MW Z (Qm Z (some (iv t.1)) zN zG t.2 0 0) 14 zN zG h 0 0 72 [(0, rfv (xd (zX Z)) 141), (1, iv x1), (2, iv x2), (3, iv x3), (4, iv x4), (5, iv x5), (7, iv x7), (8, iv x8)] []) (x1 : Int) (x2 : Int) (x3 : Int) (x4 : Int) (x5 : Int) (x7 : Int) (x8 : Int) (x11 : Int) (h : MH) (t : (Int × MH)) (hF : F_X12_brief_152 k72 x1 x2 x3 x4 x5 x7 x8 x11 h = some t) : MW Z (Qm Z (some (iv t.1)) zN zG t.2 0 0) 14 zN zG h 0 0 152 [(0, rfv (xd (zX Z)) 141), (1, iv x1), (2, iv x2), (3, iv x3), (4, iv x4), (5, iv x5), (7, iv x7), (8, iv x8), (11, iv x11)] [] := by
  unfold F_X12_brief_152 at hF
  refine mw_iload 7 C dX12_brief_152 rfl ?_
  refine mw_istore [(12, iv x8), (0, rfv (xd (zX Z)) 141), (1, iv x1), (2, iv x2), (3, iv x3), (4, iv x4), (5, iv x5), (7, iv x7), (8, iv x8), (11, iv x11)] C dX12_brief_154 (by decide) rfl ?_
  refine mw_sub [1, 2, 3, 4, 5, 6, 7, 8, 9, 0] rfl ?_
  exact T_X12_brief_156 C k72 hk72 20000 x1 x2 x3 x4 x5 x7 x8 x11 x8 _ _ hF
def F_X12_brief_117 (k72 : Int → Int → Int → Int → Int → Int → Int → MH → Option (Int × MH)) : Nat → Int → Int → Int → Int → Int → Int → Int → Int → MH → Option (Int × MH)
  | 0, _, _, _, _, _, _, _, _, _ => none
  | n + 1, x1, x2, x3, x4, x5, x7, x8, x11, h =>
    ck (in32 x11) <|
    if x11 < 0 then
      F_X12_brief_152 k72 x1 x2 x3 x4 x5 x7 x8 x11 h
    else
      ck (0 ≤ ((60 * x1) + x11) ∧ ((60 * x1) + x11) < 240) <|
      ck (in32 x4) <|
      ck (in32 x5) <|
      (F_X12_isFrom (h 145 ((60 * x1) + x11).toNat) x4 x5 h).bind fun q6 =>
      ck (in32 q6.1) <|
      if q6.1 ≠ 0 then
        F_X12_brief_152 k72 x1 x2 x3 x4 x5 x7 x8 x11 q6.2
      else
        F_X12_brief_117 k72 n x1 x2 x3 x4 x5 x7 x8 (x11 + (-1)) q6.2
set_option maxRecDepth 100000 in
theorem T_X12_brief_117 {Z : ZT} (C : Cx Z cX12_brief 14 RX12 3 (some .int)) (k72 : Int → Int → Int → Int → Int → Int → Int → MH → Option (Int × MH)) (hk72 : ∀ (x1 : Int) (x2 : Int) (x3 : Int) (x4 : Int) (x5 : Int) (x7 : Int) (x8 : Int) (h : MH) (t : (Int × MH)), k72 x1 x2 x3 x4 x5 x7 x8 h = some t → MW Z (Qm Z (some (iv t.1)) zN zG t.2 0 0) 14 zN zG h 0 0 72 [(0, rfv (xd (zX Z)) 141), (1, iv x1), (2, iv x2), (3, iv x3), (4, iv x4), (5, iv x5), (7, iv x7), (8, iv x8)] []) : ∀ (n : Nat) (x1 : Int) (x2 : Int) (x3 : Int) (x4 : Int) (x5 : Int) (x7 : Int) (x8 : Int) (x11 : Int) (h : MH) (t : (Int × MH)), F_X12_brief_117 k72 n x1 x2 x3 x4 x5 x7 x8 x11 h = some t → MW Z (Qm Z (some (iv t.1)) zN zG t.2 0 0) 14 zN zG h 0 0 117 [(0, rfv (xd (zX Z)) 141), (1, iv x1), (2, iv x2), (3, iv x3), (4, iv x4), (5, iv x5), (7, iv x7), (8, iv x8), (11, iv x11)] [] := by
  intro n
  induction n with
  | zero =>
    intros
    rename_i hF
    exact absurd hF (by intro q; cases q)
  | succ n ih =>
    intro x1 x2 x3 x4 x5 x7 x8 x11 h t hF
    rw [F_X12_brief_117] at hF
    refine mw_iload 8 C dX12_brief_117 rfl ?_
    obtain ⟨g1, hF⟩ := ck_some hF
    rcases ite_some hF with ⟨c2, hF⟩ | ⟨c2, hF⟩
    · refine mw_if_lt_t (tgt := 152) C dX12_brief_119 (by decide) g1 c2 ?_
      exact T_X12_brief_152 C k72 hk72 x1 x2 x3 x4 x5 x7 x8 x11 _ _ hF
    · refine mw_if_lt_f (tgt := 152) C dX12_brief_119 (by decide) g1 c2 ?_
      refine mw_aload_n 0 C dX12_brief_122 rfl rfl ?_
      refine mw_get (k := 6) (T := TX12) (v := rfv (xd (zX Z)) 145) C dX12_brief_123 zn141 zk141 (by decide) rfl inX12 (by decide) wd895 rfl (zfv_r rfl zg_141_6) ?_
      refine mw_bipush C dX12_brief_126 bp_60 ?_
      refine mw_iload_n 1 C dX12_brief_128 rfl rfl ?_
      refine mw_imul C dX12_brief_129 ?_
      refine mw_iload 8 C dX12_brief_130 rfl ?_
      refine mw_iadd C dX12_brief_132 ?_
      obtain ⟨g3, hF⟩ := ck_some hF
      refine mw_lald C dX12_brief_133 zn145 zk145 (by decide) g3 ?_
      refine mw_iload 4 C dX12_brief_134 rfl ?_
      obtain ⟨g4, hF⟩ := ck_some hF
      refine mw_i2l C dX12_brief_136 g4 ?_
      refine mw_iload 5 C dX12_brief_137 rfl ?_
      obtain ⟨g5, hF⟩ := ck_some hF
      refine mw_i2l C dX12_brief_139 g5 ?_
      obtain ⟨q6, hq6, hF⟩ := bind_some hF
      refine mw_callS [lvv (h 145 ((60 * x1) + x11).toNat), lvv x4, lvv x5] [] C dX12_brief_140 (T_X12_isFrom (zl Z) (zX Z) (h 145 ((60 * x1) + x11).toNat) x4 x5 _ _ hq6) rfl wd1116 wd1117 wd14 wd1118 hd_X12_isFrom rfl (by decide) (by decide) (Nat.le_of_ble_eq_true rfl) ⟨Nat.zero_le _, Nat.zero_le _⟩ ?_
      obtain ⟨g7, hF⟩ := ck_some hF
      rcases ite_some hF with ⟨c8, hF⟩ | ⟨c8, hF⟩
      · refine mw_if_ne_t (tgt := 152) C dX12_brief_143 (by decide) g7 c8 ?_
        exact T_X12_brief_152 C k72 hk72 x1 x2 x3 x4 x5 x7 x8 x11 _ _ hF
      · refine mw_if_ne_f (tgt := 152) C dX12_brief_143 (by decide) g7 c8 ?_
        refine mw_iinc 8 [(11, iv (x11 + (-1))), (0, rfv (xd (zX Z)) 141), (1, iv x1), (2, iv x2), (3, iv x3), (4, iv x4), (5, iv x5), (7, iv x7), (8, iv x8)] C dX12_brief_146 rfl (by decide) rfl ?_
        refine mw_goto (tgt := 117) C dX12_brief_149 (by decide) ?_
        refine mw_sub [1, 2, 3, 4, 5, 6, 7, 8, 0] rfl ?_
        exact ih x1 x2 x3 x4 x5 x7 x8 (x11 + (-1)) _ _ hF
def F_X12_brief_113 (k72 : Int → Int → Int → Int → Int → Int → Int → MH → Option (Int × MH)) (x1 : Int) (x2 : Int) (x3 : Int) (x4 : Int) (x5 : Int) (x7 : Int) (x8 : Int) (h : MH) : Option (Int × MH) :=
  F_X12_brief_117 k72 20000 x1 x2 x3 x4 x5 x7 x8 x8 h
set_option maxRecDepth 100000 in
theorem T_X12_brief_113 {Z : ZT} (C : Cx Z cX12_brief 14 RX12 3 (some .int)) (k72 : Int → Int → Int → Int → Int → Int → Int → MH → Option (Int × MH)) (hk72 : ∀ (x1 : Int) (x2 : Int) (x3 : Int) (x4 : Int) (x5 : Int) (x7 : Int) (x8 : Int) (h : MH) (t : (Int × MH)), k72 x1 x2 x3 x4 x5 x7 x8 h = some t → MW Z (Qm Z (some (iv t.1)) zN zG t.2 0 0) 14 zN zG h 0 0 72 [(0, rfv (xd (zX Z)) 141), (1, iv x1), (2, iv x2), (3, iv x3), (4, iv x4), (5, iv x5), (7, iv x7), (8, iv x8)] []) (x1 : Int) (x2 : Int) (x3 : Int) (x4 : Int) (x5 : Int) (x7 : Int) (x8 : Int) (h : MH) (t : (Int × MH)) (hF : F_X12_brief_113 k72 x1 x2 x3 x4 x5 x7 x8 h = some t) : MW Z (Qm Z (some (iv t.1)) zN zG t.2 0 0) 14 zN zG h 0 0 113 [(0, rfv (xd (zX Z)) 141), (1, iv x1), (2, iv x2), (3, iv x3), (4, iv x4), (5, iv x5), (7, iv x7), (8, iv x8)] [] := by
  unfold F_X12_brief_113 at hF
  refine mw_iload 7 C dX12_brief_113 rfl ?_
  refine mw_istore [(11, iv x8), (0, rfv (xd (zX Z)) 141), (1, iv x1), (2, iv x2), (3, iv x3), (4, iv x4), (5, iv x5), (7, iv x7), (8, iv x8)] C dX12_brief_115 (by decide) rfl ?_
  refine mw_sub [1, 2, 3, 4, 5, 6, 7, 8, 0] rfl ?_
  exact T_X12_brief_117 C k72 hk72 20000 x1 x2 x3 x4 x5 x7 x8 x8 _ _ hF
def F_X12_brief_72 : Nat → Int → Int → Int → Int → Int → Int → Int → MH → Option (Int × MH)
  | 0, _, _, _, _, _, _, _, _ => none
  | n + 1, x1, x2, x3, x4, x5, x7, x8, h =>
    ck (in32 x8) <|
    ck (in32 x2) <|
    if x2 ≤ x8 then
      (F_X12_thrownMany x7 h).bind fun q4 =>
      ck (in32 q4.1) <|
      (F_X12_gives q4.1 q4.2).bind fun q6 =>
      some (q6.1, q6.2)
    else
      ck (0 ≤ ((60 * x1) + x8) ∧ ((60 * x1) + x8) < 240) <|
      nx (h 145 ((60 * x1) + x8).toNat) fun v8 =>
      ck (in32 x4) <|
      ck (in64 v8) <|
      if v8 < x4 then
        F_X12_brief_113 (F_X12_brief_72 n) x1 x2 x3 x4 x5 x7 x8 h
      else
        ck (in32 x5) <|
        if x5 < v8 then
          F_X12_brief_113 (F_X12_brief_72 n) x1 x2 x3 x4 x5 x7 x8 h
        else
          F_X12_brief_245 (F_X12_brief_72 n) x1 x2 x3 x4 x5 x7 x8 h
set_option maxRecDepth 100000 in
theorem T_X12_brief_72 {Z : ZT} (C : Cx Z cX12_brief 14 RX12 3 (some .int)) : ∀ (n : Nat) (x1 : Int) (x2 : Int) (x3 : Int) (x4 : Int) (x5 : Int) (x7 : Int) (x8 : Int) (h : MH) (t : (Int × MH)), F_X12_brief_72 n x1 x2 x3 x4 x5 x7 x8 h = some t → MW Z (Qm Z (some (iv t.1)) zN zG t.2 0 0) 14 zN zG h 0 0 72 [(0, rfv (xd (zX Z)) 141), (1, iv x1), (2, iv x2), (3, iv x3), (4, iv x4), (5, iv x5), (7, iv x7), (8, iv x8)] [] := by
  intro n
  induction n with
  | zero =>
    intros
    rename_i hF
    exact absurd hF (by intro q; cases q)
  | succ n ih =>
    intro x1 x2 x3 x4 x5 x7 x8 h t hF
    rw [F_X12_brief_72] at hF
    refine mw_iload 7 C dX12_brief_72 rfl ?_
    refine mw_iload_n 2 C dX12_brief_74 rfl rfl ?_
    obtain ⟨g1, hF⟩ := ck_some hF
    obtain ⟨g2, hF⟩ := ck_some hF
    rcases ite_some hF with ⟨c3, hF⟩ | ⟨c3, hF⟩
    · refine mw_icmp_ge_t (tgt := 251) C dX12_brief_75 (by decide) g1 g2 c3 ?_
      refine mw_aload_n 0 C dX12_brief_251 rfl rfl ?_
      refine mw_aload_n 0 C dX12_brief_252 rfl rfl ?_
      refine mw_iload 6 C dX12_brief_253 rfl ?_
      obtain ⟨q4, hq4, hF⟩ := bind_some hF
      refine mw_callV (c := 141) [iv x7] [rfv (xd (zX Z)) 141] C dX12_brief_255 (T_X12_thrownMany (zl Z) (zX Z) x7 _ _ hq4) rfl zn141 zk141 (by decide) rfl wd1247 wd1248 wd1402 wd14 wd1249 hd_X12_thrownMany rfl (by decide) (by decide) (Nat.le_of_ble_eq_true rfl) ⟨Nat.zero_le _, Nat.zero_le _⟩ ?_
      obtain ⟨g5, hF⟩ := ck_some hF
      refine mw_i2l C dX12_brief_258 g5 ?_
      obtain ⟨q6, hq6, hF⟩ := bind_some hF
      refine mw_callV (c := 141) [lvv q4.1] [] C dX12_brief_259 (T_X12_gives (zl Z) (zX Z) q4.1 _ _ hq6) rfl zn141 zk141 (by decide) rfl wd1069 wd1070 wd1379 wd14 wd1071 hd_X12_gives rfl (by decide) (by decide) (Nat.le_of_ble_eq_true rfl) ⟨Nat.zero_le _, Nat.zero_le _⟩ ?_
      cases hF
      exact mw_iret C dX12_brief_262 rfl rfl
    · refine mw_icmp_ge_f (tgt := 251) C dX12_brief_75 (by decide) g1 g2 c3 ?_
      refine mw_aload_n 0 C dX12_brief_78 rfl rfl ?_
      refine mw_get (k := 6) (T := TX12) (v := rfv (xd (zX Z)) 145) C dX12_brief_79 zn141 zk141 (by decide) rfl inX12 (by decide) wd895 rfl (zfv_r rfl zg_141_6) ?_
      refine mw_bipush C dX12_brief_82 bp_60 ?_
      refine mw_iload_n 1 C dX12_brief_84 rfl rfl ?_
      refine mw_imul C dX12_brief_85 ?_
      refine mw_iload 7 C dX12_brief_86 rfl ?_
      refine mw_iadd C dX12_brief_88 ?_
      obtain ⟨g7, hF⟩ := ck_some hF
      refine mw_lald C dX12_brief_89 zn145 zk145 (by decide) g7 ?_
      obtain ⟨v8, ev8, hF⟩ := nx_some hF
      refine mw_tl ev8 ?_
      refine mw_lstore [(9, lvv v8), (0, rfv (xd (zX Z)) 141), (1, iv x1), (2, iv x2), (3, iv x3), (4, iv x4), (5, iv x5), (7, iv x7), (8, iv x8)] C dX12_brief_90 (by decide) rfl ?_
      refine mw_lload 0 C dX12_brief_92 rfl ?_
      refine mw_iload 5 C dX12_brief_94 rfl ?_
      obtain ⟨g9, hF⟩ := ck_some hF
      refine mw_i2l C dX12_brief_96 g9 ?_
      obtain ⟨g10, hF⟩ := ck_some hF
      rcases ite_some hF with ⟨c11, hF⟩ | ⟨c11, hF⟩
      · refine mw_lcmp_lt_t (tgt := 113) C dX12_brief_97 dX12_brief_98 (by decide) g10 (in64_of g9) c11 ?_
        refine mw_sub [1, 2, 3, 4, 5, 6, 7, 8] rfl ?_
        exact T_X12_brief_113 C (F_X12_brief_72 n) ih x1 x2 x3 x4 x5 x7 x8 _ _ hF
      · refine mw_lcmp_lt_f (tgt := 113) C dX12_brief_97 dX12_brief_98 (by decide) g10 (in64_of g9) c11 ?_
        refine mw_lload 0 C dX12_brief_101 rfl ?_
        refine mw_iload 6 C dX12_brief_103 rfl ?_
        obtain ⟨g12, hF⟩ := ck_some hF
        refine mw_i2l C dX12_brief_105 g12 ?_
        rcases ite_some hF with ⟨c13, hF⟩ | ⟨c13, hF⟩
        · refine mw_lcmp_gt_t (tgt := 113) C dX12_brief_106 dX12_brief_107 (by decide) g10 (in64_of g12) c13 ?_
          refine mw_sub [1, 2, 3, 4, 5, 6, 7, 8] rfl ?_
          exact T_X12_brief_113 C (F_X12_brief_72 n) ih x1 x2 x3 x4 x5 x7 x8 _ _ hF
        · refine mw_lcmp_gt_f (tgt := 113) C dX12_brief_106 dX12_brief_107 (by decide) g10 (in64_of g12) c13 ?_
          refine mw_goto (tgt := 245) C dX12_brief_110 (by decide) ?_
          refine mw_sub [1, 2, 3, 4, 5, 6, 7, 8] rfl ?_
          exact T_X12_brief_245 C (F_X12_brief_72 n) ih x1 x2 x3 x4 x5 x7 x8 _ _ hF
def F_X12_brief_37 (x1 : Int) (x2 : Int) (x3 : Int) (x4 : Int) (x5 : Int) (s1 : Int) (h : MH) : Option (Int × MH) :=
  (F_X12_wrongRow s1 x1 x2 (-999) 9999 h).bind fun q1 =>
  ck (in32 q1.1) <|
  if q1.1 ≤ 0 then
    nx ((x2 - 1) * x3) fun v4 =>
    F_X12_brief_72 20000 x1 x2 x3 x4 x5 v4 0 q1.2
  else
    (F_X12_refuse q1.1 q1.2).bind fun q5 =>
    some (q5.1, q5.2)
set_option maxRecDepth 100000 in
theorem T_X12_brief_37 {Z : ZT} (C : Cx Z cX12_brief 14 RX12 3 (some .int)) (x1 : Int) (x2 : Int) (x3 : Int) (x4 : Int) (x5 : Int) (s1 : Int) (h : MH) (t : (Int × MH)) (hF : F_X12_brief_37 x1 x2 x3 x4 x5 s1 h = some t) : MW Z (Qm Z (some (iv t.1)) zN zG t.2 0 0) 14 zN zG h 0 0 37 [(0, rfv (xd (zX Z)) 141), (1, iv x1), (2, iv x2), (3, iv x3), (4, iv x4), (5, iv x5)] [iv s1, rfv (xd (zX Z)) 141] := by
  unfold F_X12_brief_37 at hF
  refine mw_iload_n 1 C dX12_brief_37 rfl rfl ?_
  refine mw_iload_n 2 C dX12_brief_38 rfl rfl ?_
  refine mw_ldc2 (a := (-999)) C dX12_brief_39 wd1246 rfl ?_
  refine mw_ldc2 (a := 9999) C dX12_brief_42 wd1115 rfl ?_
  obtain ⟨q1, hq1, hF⟩ := bind_some hF
  refine mw_callV (c := 141) [iv s1, iv x1, iv x2, lvv (-999), lvv 9999] [] C dX12_brief_45 (T_X12_wrongRow (zl Z) (zX Z) s1 x1 x2 (-999) 9999 _ _ hq1) rfl zn141 zk141 (by decide) rfl wd1226 wd1227 wd1398 wd14 wd1228 hd_X12_wrongRow rfl (by decide) (by decide) (Nat.le_of_ble_eq_true rfl) ⟨Nat.zero_le _, Nat.zero_le _⟩ ?_
  refine mw_istore [(6, iv q1.1), (0, rfv (xd (zX Z)) 141), (1, iv x1), (2, iv x2), (3, iv x3), (4, iv x4), (5, iv x5)] C dX12_brief_48 (by decide) rfl ?_
  refine mw_iload 0 C dX12_brief_50 rfl ?_
  obtain ⟨g2, hF⟩ := ck_some hF
  rcases ite_some hF with ⟨c3, hF⟩ | ⟨c3, hF⟩
  · refine mw_if_le_t (tgt := 62) C dX12_brief_52 (by decide) g2 c3 ?_
    refine mw_iload_n 3 C dX12_brief_62 rfl rfl ?_
    refine mw_iconst C dX12_brief_63 ?_
    refine mw_isub C dX12_brief_64 ?_
    refine mw_iload_n 4 C dX12_brief_65 rfl rfl ?_
    refine mw_imul C dX12_brief_66 ?_
    obtain ⟨v4, ev4, hF⟩ := nx_some hF
    refine mw_ti ev4 ?_
    refine mw_istore [(7, iv v4), (6, iv q1.1), (0, rfv (xd (zX Z)) 141), (1, iv x1), (2, iv x2), (3, iv x3), (4, iv x4), (5, iv x5)] C dX12_brief_67 (by decide) rfl ?_
    refine mw_iconst C dX12_brief_69 ?_
    refine mw_istore [(8, iv 0), (7, iv v4), (6, iv q1.1), (0, rfv (xd (zX Z)) 141), (1, iv x1), (2, iv x2), (3, iv x3), (4, iv x4), (5, iv x5)] C dX12_brief_70 (by decide) rfl ?_
    refine mw_sub [3, 4, 5, 6, 7, 8, 1, 0] rfl ?_
    exact T_X12_brief_72 C 20000 x1 x2 x3 x4 x5 v4 0 _ _ hF
  · refine mw_if_le_f (tgt := 62) C dX12_brief_52 (by decide) g2 c3 ?_
    refine mw_aload_n 1 C dX12_brief_55 rfl rfl ?_
    refine mw_iload 0 C dX12_brief_56 rfl ?_
    obtain ⟨q5, hq5, hF⟩ := bind_some hF
    refine mw_callV (c := 141) [iv q1.1] [] C dX12_brief_58 (T_X12_refuse (zl Z) (zX Z) q1.1 _ _ hq5) rfl zn141 zk141 (by decide) rfl wd997 wd998 wd1360 wd14 wd999 hd_X12_refuse rfl (by decide) (by decide) (Nat.le_of_ble_eq_true rfl) ⟨Nat.zero_le _, Nat.zero_le _⟩ ?_
    cases hF
    exact mw_iret C dX12_brief_61 rfl rfl
def F_X12_brief_36 (x1 : Int) (x2 : Int) (x3 : Int) (x4 : Int) (x5 : Int) (h : MH) : Option (Int × MH) :=
  F_X12_brief_37 x1 x2 x3 x4 x5 0 h
set_option maxRecDepth 100000 in
theorem T_X12_brief_36 {Z : ZT} (C : Cx Z cX12_brief 14 RX12 3 (some .int)) (x1 : Int) (x2 : Int) (x3 : Int) (x4 : Int) (x5 : Int) (h : MH) (t : (Int × MH)) (hF : F_X12_brief_36 x1 x2 x3 x4 x5 h = some t) : MW Z (Qm Z (some (iv t.1)) zN zG t.2 0 0) 14 zN zG h 0 0 36 [(0, rfv (xd (zX Z)) 141), (1, iv x1), (2, iv x2), (3, iv x3), (4, iv x4), (5, iv x5)] [rfv (xd (zX Z)) 141] := by
  unfold F_X12_brief_36 at hF
  refine mw_iconst C dX12_brief_36 ?_
  exact T_X12_brief_37 C x1 x2 x3 x4 x5 0 _ _ hF
def F_X12_brief_0 (x1 : Int) (x2 : Int) (x3 : Int) (x4 : Int) (x5 : Int) (h : MH) : Option (Int × MH) :=
  ck (in32 x2) <|
  (F_X12_isFrom x2 1 60 h).bind fun q2 =>
  ck (in32 q2.1) <|
  if q2.1 = 0 then
    F_X12_brief_36 x1 x2 x3 x4 x5 q2.2
  else
    ck (in32 x3) <|
    (F_X12_isFrom x3 1 99 q2.2).bind fun q6 =>
    ck (in32 q6.1) <|
    if q6.1 = 0 then
      F_X12_brief_36 x1 x2 x3 x4 x5 q6.2
    else
      ck (in32 x4) <|
      ck (in32 x5) <|
      if x5 < x4 then
        F_X12_brief_36 x1 x2 x3 x4 x5 q6.2
      else
        F_X12_brief_37 x1 x2 x3 x4 x5 1 q6.2
set_option maxRecDepth 100000 in
theorem T_X12_brief_0 {Z : ZT} (C : Cx Z cX12_brief 14 RX12 3 (some .int)) (x1 : Int) (x2 : Int) (x3 : Int) (x4 : Int) (x5 : Int) (h : MH) (t : (Int × MH)) (hF : F_X12_brief_0 x1 x2 x3 x4 x5 h = some t) : MW Z (Qm Z (some (iv t.1)) zN zG t.2 0 0) 14 zN zG h 0 0 0 [(0, rfv (xd (zX Z)) 141), (1, iv x1), (2, iv x2), (3, iv x3), (4, iv x4), (5, iv x5)] [] := by
  unfold F_X12_brief_0 at hF
  refine mw_aload_n 0 C dX12_brief_0 rfl rfl ?_
  refine mw_iload_n 2 C dX12_brief_1 rfl rfl ?_
  obtain ⟨g1, hF⟩ := ck_some hF
  refine mw_i2l C dX12_brief_2 g1 ?_
  refine mw_lconst (a := 1) C dX12_brief_3 lc_1 ?_
  refine mw_ldc2 (a := 60) C dX12_brief_4 wd1225 rfl ?_
  obtain ⟨q2, hq2, hF⟩ := bind_some hF
  refine mw_callS [lvv x2, lvv 1, lvv 60] [rfv (xd (zX Z)) 141] C dX12_brief_7 (T_X12_isFrom (zl Z) (zX Z) x2 1 60 _ _ hq2) rfl wd1116 wd1117 wd14 wd1118 hd_X12_isFrom rfl (by decide) (by decide) (Nat.le_of_ble_eq_true rfl) ⟨Nat.zero_le _, Nat.zero_le _⟩ ?_
  obtain ⟨g3, hF⟩ := ck_some hF
  rcases ite_some hF with ⟨c4, hF⟩ | ⟨c4, hF⟩
  · refine mw_if_eq_t (tgt := 36) C dX12_brief_10 (by decide) g3 c4 ?_
    exact T_X12_brief_36 C x1 x2 x3 x4 x5 _ _ hF
  · refine mw_if_eq_f (tgt := 36) C dX12_brief_10 (by decide) g3 c4 ?_
    refine mw_iload_n 3 C dX12_brief_13 rfl rfl ?_
    obtain ⟨g5, hF⟩ := ck_some hF
    refine mw_i2l C dX12_brief_14 g5 ?_
    refine mw_lconst (a := 1) C dX12_brief_15 lc_1 ?_
    refine mw_ldc2 (a := 99) C dX12_brief_16 wd1167 rfl ?_
    obtain ⟨q6, hq6, hF⟩ := bind_some hF
    refine mw_callS [lvv x3, lvv 1, lvv 99] [rfv (xd (zX Z)) 141] C dX12_brief_19 (T_X12_isFrom (zl Z) (zX Z) x3 1 99 _ _ hq6) rfl wd1116 wd1117 wd14 wd1118 hd_X12_isFrom rfl (by decide) (by decide) (Nat.le_of_ble_eq_true rfl) ⟨Nat.zero_le _, Nat.zero_le _⟩ ?_
    obtain ⟨g7, hF⟩ := ck_some hF
    rcases ite_some hF with ⟨c8, hF⟩ | ⟨c8, hF⟩
    · refine mw_if_eq_t (tgt := 36) C dX12_brief_22 (by decide) g7 c8 ?_
      exact T_X12_brief_36 C x1 x2 x3 x4 x5 _ _ hF
    · refine mw_if_eq_f (tgt := 36) C dX12_brief_22 (by decide) g7 c8 ?_
      refine mw_iload 4 C dX12_brief_25 rfl ?_
      refine mw_iload 5 C dX12_brief_27 rfl ?_
      obtain ⟨g9, hF⟩ := ck_some hF
      obtain ⟨g10, hF⟩ := ck_some hF
      rcases ite_some hF with ⟨c11, hF⟩ | ⟨c11, hF⟩
      · refine mw_icmp_gt_t (tgt := 36) C dX12_brief_29 (by decide) g9 g10 c11 ?_
        exact T_X12_brief_36 C x1 x2 x3 x4 x5 _ _ hF
      · refine mw_icmp_gt_f (tgt := 36) C dX12_brief_29 (by decide) g9 g10 c11 ?_
        refine mw_iconst C dX12_brief_32 ?_
        refine mw_goto (tgt := 37) C dX12_brief_33 (by decide) ?_
        exact T_X12_brief_37 C x1 x2 x3 x4 x5 1 _ _ hF
def F_X12_brief (x1 : Int) (x2 : Int) (x3 : Int) (x4 : Int) (x5 : Int) (h : MH) : Option (Int × MH) := F_X12_brief_0 x1 x2 x3 x4 x5 h
theorem T_X12_brief (l : Launch) (X : XT) (x1 : Int) (x2 : Int) (x3 : Int) (x4 : Int) (x5 : Int) (h : MH) (t : (Int × MH)) (hF : F_X12_brief x1 x2 x3 x4 x5 h = some t) : Ct l X yX12_brief cX12_brief 14 (some .int) 3 [rfv (xd X) 141, iv x1, iv x2, iv x3, iv x4, iv x5] zN zG h (some (iv t.1)) zN zG t.2 0 0 := by
  refine Ct.head (by decide) (Nat.le_of_ble_eq_true rfl) (fun Z hX hl _ _ _ C => ?_)
  subst hX
  subst hl
  exact (T_X12_brief_0 C x1 x2 x3 x4 x5 _ _ hF)
/-! BottleLineModel.glass(II)I -/
def F_X12_glass_96 (s1 : Int) (h : MH) : Option (Int × MH) :=
  (F_X12_refuse s1 h).bind fun q1 =>
  some (q1.1, q1.2)
set_option maxRecDepth 100000 in
theorem T_X12_glass_96 {Z : ZT} (C : Cx Z cX12_glass 9 RX12 3 (some .int)) (s1 : Int) (h : MH) (t : (Int × MH)) (hF : F_X12_glass_96 s1 h = some t) : MW Z (Qm Z (some (iv t.1)) zN zG t.2 0 0) 9 zN zG h 0 0 96 [] [iv s1, rfv (xd (zX Z)) 141] := by
  unfold F_X12_glass_96 at hF
  obtain ⟨q1, hq1, hF⟩ := bind_some hF
  refine mw_callV (c := 141) [iv s1] [] C dX12_glass_96 (T_X12_refuse (zl Z) (zX Z) s1 _ _ hq1) rfl zn141 zk141 (by decide) rfl wd997 wd998 wd1360 wd14 wd999 hd_X12_refuse rfl (by decide) (by decide) (Nat.le_of_ble_eq_true rfl) ⟨Nat.zero_le _, Nat.zero_le _⟩ ?_
  cases hF
  exact mw_iret C dX12_glass_99 rfl rfl
def F_X12_glass_86 (x3 : Int) (h : MH) : Option (Int × MH) :=
  ck (in32 x3) <|
  if x3 ≤ 0 then
    F_X12_glass_96 5 h
  else
    F_X12_glass_96 x3 h
set_option maxRecDepth 100000 in
theorem T_X12_glass_86 {Z : ZT} (C : Cx Z cX12_glass 9 RX12 3 (some .int)) (x3 : Int) (h : MH) (t : (Int × MH)) (hF : F_X12_glass_86 x3 h = some t) : MW Z (Qm Z (some (iv t.1)) zN zG t.2 0 0) 9 zN zG h 0 0 86 [(0, rfv (xd (zX Z)) 141), (3, iv x3)] [] := by
  unfold F_X12_glass_86 at hF
  refine mw_aload_n 0 C dX12_glass_86 rfl rfl ?_
  refine mw_iload_n 1 C dX12_glass_87 rfl rfl ?_
  obtain ⟨g1, hF⟩ := ck_some hF
  rcases ite_some hF with ⟨c2, hF⟩ | ⟨c2, hF⟩
  · refine mw_if_le_t (tgt := 95) C dX12_glass_88 (by decide) g1 c2 ?_
    refine mw_iconst C dX12_glass_95 ?_
    refine mw_sub [] rfl ?_
    exact T_X12_glass_96 C 5 _ _ hF
  · refine mw_if_le_f (tgt := 95) C dX12_glass_88 (by decide) g1 c2 ?_
    refine mw_iload_n 1 C dX12_glass_91 rfl rfl ?_
    refine mw_goto (tgt := 96) C dX12_glass_92 (by decide) ?_
    refine mw_sub [] rfl ?_
    exact T_X12_glass_96 C x3 _ _ hF
def F_X12_glass_162 (k103 : Int → Int → Int → MH → Option (Int × MH)) : Nat → Int → Int → Int → Int → Int → Int → MH → Option (Int × MH)
  | 0, _, _, _, _, _, _, _ => none
  | n + 1, x1, x2, x5, x6, x7, x8, h =>
    ck (in32 x8) <|
    ck (in32 (x7 + x6)) <|
    if (x7 + x6) < x8 then
      k103 x1 x2 (x5 + 1) h
    else
      ck (0 ≤ x8 ∧ x8 < 10200) <|
      nx (hup h 160 x8.toNat 1) fun h5 =>
      F_X12_glass_162 k103 n x1 x2 x5 x6 x7 (x8 + 1) h5
set_option maxRecDepth 100000 in
theorem T_X12_glass_162 {Z : ZT} (C : Cx Z cX12_glass 9 RX12 3 (some .int)) (k103 : Int → Int → Int → MH → Option (Int × MH)) (hk103 : ∀ (x1 : Int) (x2 : Int) (x5 : Int) (h : MH) (t : (Int × MH)), k103 x1 x2 x5 h = some t → MW Z (Qm Z (some (iv t.1)) zN zG t.2 0 0) 9 zN zG h 0 0 103 [(0, rfv (xd (zX Z)) 141), (1, iv x1), (2, iv x2), (5, iv x5)] []) : ∀ (n : Nat) (x1 : Int) (x2 : Int) (x5 : Int) (x6 : Int) (x7 : Int) (x8 : Int) (h : MH) (t : (Int × MH)), F_X12_glass_162 k103 n x1 x2 x5 x6 x7 x8 h = some t → MW Z (Qm Z (some (iv t.1)) zN zG t.2 0 0) 9 zN zG h 0 0 162 [(0, rfv (xd (zX Z)) 141), (1, iv x1), (2, iv x2), (5, iv x5), (6, iv x6), (7, iv x7), (8, iv x8)] [] := by
  intro n
  induction n with
  | zero =>
    intros
    rename_i hF
    exact absurd hF (by intro q; cases q)
  | succ n ih =>
    intro x1 x2 x5 x6 x7 x8 h t hF
    rw [F_X12_glass_162] at hF
    refine mw_iload 6 C dX12_glass_162 rfl ?_
    refine mw_iload 5 C dX12_glass_164 rfl ?_
    refine mw_iload 4 C dX12_glass_166 rfl ?_
    refine mw_iadd C dX12_glass_168 ?_
    obtain ⟨g1, hF⟩ := ck_some hF
    obtain ⟨g2, hF⟩ := ck_some hF
    rcases ite_some hF with ⟨c3, hF⟩ | ⟨c3, hF⟩
    · refine mw_icmp_gt_t (tgt := 186) C dX12_glass_169 (by decide) g1 g2 c3 ?_
      refine mw_iinc 3 [(5, iv (x5 + 1)), (0, rfv (xd (zX Z)) 141), (1, iv x1), (2, iv x2), (6, iv x6), (7, iv x7), (8, iv x8)] C dX12_glass_186 rfl (by decide) rfl ?_
      refine mw_goto (tgt := 103) C dX12_glass_189 (by decide) ?_
      refine mw_sub [1, 2, 3, 0] rfl ?_
      exact hk103 x1 x2 (x5 + 1) _ _ hF
    · refine mw_icmp_gt_f (tgt := 186) C dX12_glass_169 (by decide) g1 g2 c3 ?_
      refine mw_aload_n 0 C dX12_glass_172 rfl rfl ?_
      refine mw_get (k := 42) (T := TX12) (v := rfv (xd (zX Z)) 160) C dX12_glass_173 zn141 zk141 (by decide) rfl inX12 (by decide) wd931 rfl (zfv_r rfl zg_141_42) ?_
      refine mw_iload 6 C dX12_glass_176 rfl ?_
      refine mw_iconst C dX12_glass_178 ?_
      obtain ⟨g4, hF⟩ := ck_some hF
      obtain ⟨h5, eh5, hF⟩ := nx_some hF
      refine mw_zast C dX12_glass_179 zn160 zk160 (by decide) g4 (Or.inr rfl) (mw_h eh5 ?_)
      refine mw_iinc 6 [(8, iv (x8 + 1)), (0, rfv (xd (zX Z)) 141), (1, iv x1), (2, iv x2), (5, iv x5), (6, iv x6), (7, iv x7)] C dX12_glass_180 rfl (by decide) rfl ?_
      refine mw_goto (tgt := 162) C dX12_glass_183 (by decide) ?_
      refine mw_sub [1, 2, 3, 4, 5, 6, 0] rfl ?_
      exact ih x1 x2 x5 x6 x7 (x8 + 1) _ _ hF
def F_X12_glass_103 : Nat → Int → Int → Int → MH → Option (Int × MH)
  | 0, _, _, _, _ => none
  | n + 1, x1, x2, x5, h =>
    ck (in32 x5) <|
    ck (in32 x2) <|
    if x2 ≤ x5 then
      (F_X12_thrownMany 10199 h).bind fun q4 =>
      ck (in32 q4.1) <|
      (F_X12_gives q4.1 q4.2).bind fun q6 =>
      some (q6.1, q6.2)
    else
      ck (0 ≤ ((60 * x1) + (2 * x5)) ∧ ((60 * x1) + (2 * x5)) < 240) <|
      (F_X12_ofMachine (h 145 ((60 * x1) + (2 * x5)).toNat) 1 h).bind fun q8 =>
      ck (0 ≤ (((60 * x1) + (2 * x5)) + 1) ∧ (((60 * x1) + (2 * x5)) + 1) < 240) <|
      nx (q8.2 145 (((60 * x1) + (2 * x5)) + 1).toNat) fun v10 =>
      ck (in32 (v10 - q8.1)) <|
      nx (max 0 (v10 - q8.1)) fun v12 =>
      F_X12_glass_162 (F_X12_glass_103 n) 20000 x1 x2 x5 q8.1 v10 v12 q8.2
set_option maxRecDepth 100000 in
theorem T_X12_glass_103 {Z : ZT} (C : Cx Z cX12_glass 9 RX12 3 (some .int)) : ∀ (n : Nat) (x1 : Int) (x2 : Int) (x5 : Int) (h : MH) (t : (Int × MH)), F_X12_glass_103 n x1 x2 x5 h = some t → MW Z (Qm Z (some (iv t.1)) zN zG t.2 0 0) 9 zN zG h 0 0 103 [(0, rfv (xd (zX Z)) 141), (1, iv x1), (2, iv x2), (5, iv x5)] [] := by
  intro n
  induction n with
  | zero =>
    intros
    rename_i hF
    exact absurd hF (by intro q; cases q)
  | succ n ih =>
    intro x1 x2 x5 h t hF
    rw [F_X12_glass_103] at hF
    refine mw_iload 3 C dX12_glass_103 rfl ?_
    refine mw_iload_n 2 C dX12_glass_105 rfl rfl ?_
    obtain ⟨g1, hF⟩ := ck_some hF
    obtain ⟨g2, hF⟩ := ck_some hF
    rcases ite_some hF with ⟨c3, hF⟩ | ⟨c3, hF⟩
    · refine mw_icmp_ge_t (tgt := 192) C dX12_glass_106 (by decide) g1 g2 c3 ?_
      refine mw_aload_n 0 C dX12_glass_192 rfl rfl ?_
      refine mw_aload_n 0 C dX12_glass_193 rfl rfl ?_
      refine mw_sipush C dX12_glass_194 sp_10199 ?_
      obtain ⟨q4, hq4, hF⟩ := bind_some hF
      refine mw_callV (c := 141) [iv 10199] [rfv (xd (zX Z)) 141] C dX12_glass_197 (T_X12_thrownMany (zl Z) (zX Z) 10199 _ _ hq4) rfl zn141 zk141 (by decide) rfl wd1247 wd1248 wd1402 wd14 wd1249 hd_X12_thrownMany rfl (by decide) (by decide) (Nat.le_of_ble_eq_true rfl) ⟨Nat.zero_le _, Nat.zero_le _⟩ ?_
      obtain ⟨g5, hF⟩ := ck_some hF
      refine mw_i2l C dX12_glass_200 g5 ?_
      obtain ⟨q6, hq6, hF⟩ := bind_some hF
      refine mw_callV (c := 141) [lvv q4.1] [] C dX12_glass_201 (T_X12_gives (zl Z) (zX Z) q4.1 _ _ hq6) rfl zn141 zk141 (by decide) rfl wd1069 wd1070 wd1379 wd14 wd1071 hd_X12_gives rfl (by decide) (by decide) (Nat.le_of_ble_eq_true rfl) ⟨Nat.zero_le _, Nat.zero_le _⟩ ?_
      cases hF
      exact mw_iret C dX12_glass_204 rfl rfl
    · refine mw_icmp_ge_f (tgt := 192) C dX12_glass_106 (by decide) g1 g2 c3 ?_
      refine mw_aload_n 0 C dX12_glass_109 rfl rfl ?_
      refine mw_aload_n 0 C dX12_glass_110 rfl rfl ?_
      refine mw_get (k := 6) (T := TX12) (v := rfv (xd (zX Z)) 145) C dX12_glass_111 zn141 zk141 (by decide) rfl inX12 (by decide) wd895 rfl (zfv_r rfl zg_141_6) ?_
      refine mw_bipush C dX12_glass_114 bp_60 ?_
      refine mw_iload_n 1 C dX12_glass_116 rfl rfl ?_
      refine mw_imul C dX12_glass_117 ?_
      refine mw_iconst C dX12_glass_118 ?_
      refine mw_iload 3 C dX12_glass_119 rfl ?_
      refine mw_imul C dX12_glass_121 ?_
      refine mw_iadd C dX12_glass_122 ?_
      obtain ⟨g7, hF⟩ := ck_some hF
      refine mw_lald C dX12_glass_123 zn145 zk145 (by decide) g7 ?_
      refine mw_l2i C dX12_glass_124 ?_
      refine mw_iconst C dX12_glass_125 ?_
      obtain ⟨q8, hq8, hF⟩ := bind_some hF
      refine mw_callV (c := 141) [iv (h 145 ((60 * x1) + (2 * x5)).toNat), iv 1] [] C dX12_glass_126 (T_X12_ofMachine (zl Z) (zX Z) (h 145 ((60 * x1) + (2 * x5)).toNat) 1 _ _ hq8) rfl zn141 zk141 (by decide) rfl wd1086 wd1087 wd1382 wd14 wd1088 hd_X12_ofMachine rfl (by decide) (by decide) (Nat.le_of_ble_eq_true rfl) ⟨Nat.zero_le _, Nat.zero_le _⟩ ?_
      refine mw_l2i C dX12_glass_129 ?_
      refine mw_istore [(6, iv q8.1), (0, rfv (xd (zX Z)) 141), (1, iv x1), (2, iv x2), (5, iv x5)] C dX12_glass_130 (by decide) rfl ?_
      refine mw_aload_n 1 C dX12_glass_132 rfl rfl ?_
      refine mw_get (k := 6) (T := TX12) (v := rfv (xd (zX Z)) 145) C dX12_glass_133 zn141 zk141 (by decide) rfl inX12 (by decide) wd895 rfl (zfv_r rfl zg_141_6) ?_
      refine mw_bipush C dX12_glass_136 bp_60 ?_
      refine mw_iload_n 2 C dX12_glass_138 rfl rfl ?_
      refine mw_imul C dX12_glass_139 ?_
      refine mw_iconst C dX12_glass_140 ?_
      refine mw_iload 4 C dX12_glass_141 rfl ?_
      refine mw_imul C dX12_glass_143 ?_
      refine mw_iadd C dX12_glass_144 ?_
      refine mw_iconst C dX12_glass_145 ?_
      refine mw_iadd C dX12_glass_146 ?_
      obtain ⟨g9, hF⟩ := ck_some hF
      refine mw_lald C dX12_glass_147 zn145 zk145 (by decide) g9 ?_
      refine mw_l2i C dX12_glass_148 ?_
      obtain ⟨v10, ev10, hF⟩ := nx_some hF
      refine mw_ti ev10 ?_
      refine mw_istore [(7, iv v10), (6, iv q8.1), (0, rfv (xd (zX Z)) 141), (1, iv x1), (2, iv x2), (5, iv x5)] C dX12_glass_149 (by decide) rfl ?_
      refine mw_iconst C dX12_glass_151 ?_
      refine mw_iload 0 C dX12_glass_152 rfl ?_
      refine mw_iload 1 C dX12_glass_154 rfl ?_
      refine mw_isub C dX12_glass_156 ?_
      obtain ⟨g11, hF⟩ := ck_some hF
      refine mw_mmax C dX12_glass_157 wd1254 wd571 wd16 wd572 (by decide) (Nat.le_of_ble_eq_true rfl) ⟨Nat.zero_le _, Nat.zero_le _⟩ (by decide) g11 ?_
      obtain ⟨v12, ev12, hF⟩ := nx_some hF
      refine mw_ti ev12 ?_
      refine mw_istore [(8, iv v12), (7, iv v10), (6, iv q8.1), (0, rfv (xd (zX Z)) 141), (1, iv x1), (2, iv x2), (5, iv x5)] C dX12_glass_160 (by decide) rfl ?_
      refine mw_sub [3, 4, 5, 6, 2, 1, 0] rfl ?_
      exact T_X12_glass_162 C (F_X12_glass_103 n) ih 20000 x1 x2 x5 q8.1 v10 v12 _ _ hF
def F_X12_glass_77 (x1 : Int) (x2 : Int) (x3 : Int) (x4 : Int) (h : MH) : Option (Int × MH) :=
  ck (in32 x3) <|
  if 0 < x3 then
    F_X12_glass_86 x3 h
  else
    ck (in32 x4) <|
    if x4 ≠ 0 then
      F_X12_glass_103 20000 x1 x2 0 h
    else
      F_X12_glass_86 x3 h
set_option maxRecDepth 100000 in
theorem T_X12_glass_77 {Z : ZT} (C : Cx Z cX12_glass 9 RX12 3 (some .int)) (x1 : Int) (x2 : Int) (x3 : Int) (x4 : Int) (h : MH) (t : (Int × MH)) (hF : F_X12_glass_77 x1 x2 x3 x4 h = some t) : MW Z (Qm Z (some (iv t.1)) zN zG t.2 0 0) 9 zN zG h 0 0 77 [(0, rfv (xd (zX Z)) 141), (1, iv x1), (2, iv x2), (3, iv x3), (4, iv x4)] [] := by
  unfold F_X12_glass_77 at hF
  refine mw_iload_n 3 C dX12_glass_77 rfl rfl ?_
  obtain ⟨g1, hF⟩ := ck_some hF
  rcases ite_some hF with ⟨c2, hF⟩ | ⟨c2, hF⟩
  · refine mw_if_gt_t (tgt := 86) C dX12_glass_78 (by decide) g1 c2 ?_
    refine mw_sub [0, 3] rfl ?_
    exact T_X12_glass_86 C x3 _ _ hF
  · refine mw_if_gt_f (tgt := 86) C dX12_glass_78 (by decide) g1 c2 ?_
    refine mw_iload 4 C dX12_glass_81 rfl ?_
    obtain ⟨g3, hF⟩ := ck_some hF
    rcases ite_some hF with ⟨c4, hF⟩ | ⟨c4, hF⟩
    · refine mw_if_ne_t (tgt := 100) C dX12_glass_83 (by decide) g3 c4 ?_
      refine mw_iconst C dX12_glass_100 ?_
      refine mw_istore [(5, iv 0), (0, rfv (xd (zX Z)) 141), (1, iv x1), (2, iv x2), (3, iv x3), (4, iv x4)] C dX12_glass_101 (by decide) rfl ?_
      refine mw_sub [1, 2, 3, 0] rfl ?_
      exact T_X12_glass_103 C 20000 x1 x2 0 _ _ hF
    · refine mw_if_ne_f (tgt := 100) C dX12_glass_83 (by decide) g3 c4 ?_
      refine mw_sub [0, 3] rfl ?_
      exact T_X12_glass_86 C x3 _ _ hF
def F_X12_glass_69 (k28 : Int → Int → Int → Int → Int → MH → Option (Int × MH)) (x1 : Int) (x2 : Int) (x3 : Int) (x5 : Int) (s0 : Int) (h : MH) : Option (Int × MH) :=
  k28 x1 x2 x3 s0 (x5 + 1) h
set_option maxRecDepth 100000 in
theorem T_X12_glass_69 {Z : ZT} (C : Cx Z cX12_glass 9 RX12 3 (some .int)) (k28 : Int → Int → Int → Int → Int → MH → Option (Int × MH)) (hk28 : ∀ (x1 : Int) (x2 : Int) (x3 : Int) (x4 : Int) (x5 : Int) (h : MH) (t : (Int × MH)), k28 x1 x2 x3 x4 x5 h = some t → MW Z (Qm Z (some (iv t.1)) zN zG t.2 0 0) 9 zN zG h 0 0 28 [(0, rfv (xd (zX Z)) 141), (1, iv x1), (2, iv x2), (3, iv x3), (4, iv x4), (5, iv x5)] []) (x1 : Int) (x2 : Int) (x3 : Int) (x5 : Int) (s0 : Int) (h : MH) (t : (Int × MH)) (hF : F_X12_glass_69 k28 x1 x2 x3 x5 s0 h = some t) : MW Z (Qm Z (some (iv t.1)) zN zG t.2 0 0) 9 zN zG h 0 0 69 [(0, rfv (xd (zX Z)) 141), (1, iv x1), (2, iv x2), (3, iv x3), (5, iv x5)] [iv s0] := by
  unfold F_X12_glass_69 at hF
  refine mw_istore [(4, iv s0), (0, rfv (xd (zX Z)) 141), (1, iv x1), (2, iv x2), (3, iv x3), (5, iv x5)] C dX12_glass_69 (by decide) rfl ?_
  refine mw_iinc 5 [(5, iv (x5 + 1)), (4, iv s0), (0, rfv (xd (zX Z)) 141), (1, iv x1), (2, iv x2), (3, iv x3)] C dX12_glass_71 rfl (by decide) rfl ?_
  refine mw_goto (tgt := 28) C dX12_glass_74 (by decide) ?_
  refine mw_sub [2, 3, 4, 5, 1, 0] rfl ?_
  exact hk28 x1 x2 x3 s0 (x5 + 1) _ _ hF
def F_X12_glass_68 (k28 : Int → Int → Int → Int → Int → MH → Option (Int × MH)) (x1 : Int) (x2 : Int) (x3 : Int) (x5 : Int) (h : MH) : Option (Int × MH) :=
  F_X12_glass_69 k28 x1 x2 x3 x5 0 h
set_option maxRecDepth 100000 in
theorem T_X12_glass_68 {Z : ZT} (C : Cx Z cX12_glass 9 RX12 3 (some .int)) (k28 : Int → Int → Int → Int → Int → MH → Option (Int × MH)) (hk28 : ∀ (x1 : Int) (x2 : Int) (x3 : Int) (x4 : Int) (x5 : Int) (h : MH) (t : (Int × MH)), k28 x1 x2 x3 x4 x5 h = some t → MW Z (Qm Z (some (iv t.1)) zN zG t.2 0 0) 9 zN zG h 0 0 28 [(0, rfv (xd (zX Z)) 141), (1, iv x1), (2, iv x2), (3, iv x3), (4, iv x4), (5, iv x5)] []) (x1 : Int) (x2 : Int) (x3 : Int) (x5 : Int) (h : MH) (t : (Int × MH)) (hF : F_X12_glass_68 k28 x1 x2 x3 x5 h = some t) : MW Z (Qm Z (some (iv t.1)) zN zG t.2 0 0) 9 zN zG h 0 0 68 [(0, rfv (xd (zX Z)) 141), (1, iv x1), (2, iv x2), (3, iv x3), (5, iv x5)] [] := by
  unfold F_X12_glass_68 at hF
  refine mw_iconst C dX12_glass_68 ?_
  exact T_X12_glass_69 C k28 hk28 x1 x2 x3 x5 0 _ _ hF
def F_X12_glass_28 : Nat → Int → Int → Int → Int → Int → MH → Option (Int × MH)
  | 0, _, _, _, _, _, _ => none
  | n + 1, x1, x2, x3, x4, x5, h =>
    ck (in32 x5) <|
    ck (in32 x2) <|
    if x2 ≤ x5 then
      F_X12_glass_77 x1 x2 x3 x4 h
    else
      ck (in32 x3) <|
      if x3 ≠ 0 then
        F_X12_glass_77 x1 x2 x3 x4 h
      else
        ck (in32 x4) <|
        if x4 = 0 then
          F_X12_glass_68 (F_X12_glass_28 n) x1 x2 x3 x5 h
        else
          ck (0 ≤ ((60 * x1) + (2 * x5)) ∧ ((60 * x1) + (2 * x5)) < 240) <|
          (F_X12_isMachine (h 145 ((60 * x1) + (2 * x5)).toNat) h).bind fun q9 =>
          ck (in32 q9.1) <|
          if q9.1 = 0 then
            F_X12_glass_68 (F_X12_glass_28 n) x1 x2 x3 x5 q9.2
          else
            F_X12_glass_69 (F_X12_glass_28 n) x1 x2 x3 x5 1 q9.2
set_option maxRecDepth 100000 in
theorem T_X12_glass_28 {Z : ZT} (C : Cx Z cX12_glass 9 RX12 3 (some .int)) : ∀ (n : Nat) (x1 : Int) (x2 : Int) (x3 : Int) (x4 : Int) (x5 : Int) (h : MH) (t : (Int × MH)), F_X12_glass_28 n x1 x2 x3 x4 x5 h = some t → MW Z (Qm Z (some (iv t.1)) zN zG t.2 0 0) 9 zN zG h 0 0 28 [(0, rfv (xd (zX Z)) 141), (1, iv x1), (2, iv x2), (3, iv x3), (4, iv x4), (5, iv x5)] [] := by
  intro n
  induction n with
  | zero =>
    intros
    rename_i hF
    exact absurd hF (by intro q; cases q)
  | succ n ih =>
    intro x1 x2 x3 x4 x5 h t hF
    rw [F_X12_glass_28] at hF
    refine mw_iload 5 C dX12_glass_28 rfl ?_
    refine mw_iload_n 2 C dX12_glass_30 rfl rfl ?_
    obtain ⟨g1, hF⟩ := ck_some hF
    obtain ⟨g2, hF⟩ := ck_some hF
    rcases ite_some hF with ⟨c3, hF⟩ | ⟨c3, hF⟩
    · refine mw_icmp_ge_t (tgt := 77) C dX12_glass_31 (by decide) g1 g2 c3 ?_
      refine mw_sub [0, 1, 2, 3, 4] rfl ?_
      exact T_X12_glass_77 C x1 x2 x3 x4 _ _ hF
    · refine mw_icmp_ge_f (tgt := 77) C dX12_glass_31 (by decide) g1 g2 c3 ?_
      refine mw_iload_n 3 C dX12_glass_34 rfl rfl ?_
      obtain ⟨g4, hF⟩ := ck_some hF
      rcases ite_some hF with ⟨c5, hF⟩ | ⟨c5, hF⟩
      · refine mw_if_ne_t (tgt := 77) C dX12_glass_35 (by decide) g4 c5 ?_
        refine mw_sub [0, 1, 2, 3, 4] rfl ?_
        exact T_X12_glass_77 C x1 x2 x3 x4 _ _ hF
      · refine mw_if_ne_f (tgt := 77) C dX12_glass_35 (by decide) g4 c5 ?_
        refine mw_iload 4 C dX12_glass_38 rfl ?_
        obtain ⟨g6, hF⟩ := ck_some hF
        rcases ite_some hF with ⟨c7, hF⟩ | ⟨c7, hF⟩
        · refine mw_if_eq_t (tgt := 68) C dX12_glass_40 (by decide) g6 c7 ?_
          refine mw_sub [0, 1, 2, 3, 5] rfl ?_
          exact T_X12_glass_68 C (F_X12_glass_28 n) ih x1 x2 x3 x5 _ _ hF
        · refine mw_if_eq_f (tgt := 68) C dX12_glass_40 (by decide) g6 c7 ?_
          refine mw_aload_n 0 C dX12_glass_43 rfl rfl ?_
          refine mw_aload_n 0 C dX12_glass_44 rfl rfl ?_
          refine mw_get (k := 6) (T := TX12) (v := rfv (xd (zX Z)) 145) C dX12_glass_45 zn141 zk141 (by decide) rfl inX12 (by decide) wd895 rfl (zfv_r rfl zg_141_6) ?_
          refine mw_bipush C dX12_glass_48 bp_60 ?_
          refine mw_iload_n 1 C dX12_glass_50 rfl rfl ?_
          refine mw_imul C dX12_glass_51 ?_
          refine mw_iconst C dX12_glass_52 ?_
          refine mw_iload 5 C dX12_glass_53 rfl ?_
          refine mw_imul C dX12_glass_55 ?_
          refine mw_iadd C dX12_glass_56 ?_
          obtain ⟨g8, hF⟩ := ck_some hF
          refine mw_lald C dX12_glass_57 zn145 zk145 (by decide) g8 ?_
          obtain ⟨q9, hq9, hF⟩ := bind_some hF
          refine mw_callV (c := 141) [lvv (h 145 ((60 * x1) + (2 * x5)).toNat)] [] C dX12_glass_58 (T_X12_isMachine (zl Z) (zX Z) (h 145 ((60 * x1) + (2 * x5)).toNat) _ _ hq9) rfl zn141 zk141 (by decide) rfl wd1093 wd1094 wd1383 wd14 wd1095 hd_X12_isMachine rfl (by decide) (by decide) (Nat.le_of_ble_eq_true rfl) ⟨Nat.zero_le _, Nat.zero_le _⟩ ?_
          obtain ⟨g10, hF⟩ := ck_some hF
          rcases ite_some hF with ⟨c11, hF⟩ | ⟨c11, hF⟩
          · refine mw_if_eq_t (tgt := 68) C dX12_glass_61 (by decide) g10 c11 ?_
            refine mw_sub [0, 1, 2, 3, 5] rfl ?_
            exact T_X12_glass_68 C (F_X12_glass_28 n) ih x1 x2 x3 x5 _ _ hF
          · refine mw_if_eq_f (tgt := 68) C dX12_glass_61 (by decide) g10 c11 ?_
            refine mw_iconst C dX12_glass_64 ?_
            refine mw_goto (tgt := 69) C dX12_glass_65 (by decide) ?_
            refine mw_sub [0, 1, 2, 3, 5] rfl ?_
            exact T_X12_glass_69 C (F_X12_glass_28 n) ih x1 x2 x3 x5 1 _ _ hF
def F_X12_glass_0 (x1 : Int) (x2 : Int) (h : MH) : Option (Int × MH) :=
  ck (in32 x2) <|
  (F_X12_isFrom x2 1 20 h).bind fun q2 =>
  (F_X12_wrongRow q2.1 x1 (2 * x2) 0 9999 q2.2).bind fun q3 =>
  F_X12_glass_28 20000 x1 x2 q3.1 1 0 q3.2
set_option maxRecDepth 100000 in
theorem T_X12_glass_0 {Z : ZT} (C : Cx Z cX12_glass 9 RX12 3 (some .int)) (x1 : Int) (x2 : Int) (h : MH) (t : (Int × MH)) (hF : F_X12_glass_0 x1 x2 h = some t) : MW Z (Qm Z (some (iv t.1)) zN zG t.2 0 0) 9 zN zG h 0 0 0 [(0, rfv (xd (zX Z)) 141), (1, iv x1), (2, iv x2)] [] := by
  unfold F_X12_glass_0 at hF
  refine mw_aload_n 0 C dX12_glass_0 rfl rfl ?_
  refine mw_iload_n 2 C dX12_glass_1 rfl rfl ?_
  obtain ⟨g1, hF⟩ := ck_some hF
  refine mw_i2l C dX12_glass_2 g1 ?_
  refine mw_lconst (a := 1) C dX12_glass_3 lc_1 ?_
  refine mw_ldc2 (a := 20) C dX12_glass_4 wd1044 rfl ?_
  obtain ⟨q2, hq2, hF⟩ := bind_some hF
  refine mw_callS [lvv x2, lvv 1, lvv 20] [rfv (xd (zX Z)) 141] C dX12_glass_7 (T_X12_isFrom (zl Z) (zX Z) x2 1 20 _ _ hq2) rfl wd1116 wd1117 wd14 wd1118 hd_X12_isFrom rfl (by decide) (by decide) (Nat.le_of_ble_eq_true rfl) ⟨Nat.zero_le _, Nat.zero_le _⟩ ?_
  refine mw_iload_n 1 C dX12_glass_10 rfl rfl ?_
  refine mw_iconst C dX12_glass_11 ?_
  refine mw_iload_n 2 C dX12_glass_12 rfl rfl ?_
  refine mw_imul C dX12_glass_13 ?_
  refine mw_lconst (a := 0) C dX12_glass_14 lc_0 ?_
  refine mw_ldc2 (a := 9999) C dX12_glass_15 wd1115 rfl ?_
  obtain ⟨q3, hq3, hF⟩ := bind_some hF
  refine mw_callV (c := 141) [iv q2.1, iv x1, iv (2 * x2), lvv 0, lvv 9999] [] C dX12_glass_18 (T_X12_wrongRow (zl Z) (zX Z) q2.1 x1 (2 * x2) 0 9999 _ _ hq3) rfl zn141 zk141 (by decide) rfl wd1226 wd1227 wd1398 wd14 wd1228 hd_X12_wrongRow rfl (by decide) (by decide) (Nat.le_of_ble_eq_true rfl) ⟨Nat.zero_le _, Nat.zero_le _⟩ ?_
  refine mw_istore_n [(3, iv q3.1), (0, rfv (xd (zX Z)) 141), (1, iv x1), (2, iv x2)] C dX12_glass_21 rfl (by decide) rfl ?_
  refine mw_iconst C dX12_glass_22 ?_
  refine mw_istore [(4, iv 1), (3, iv q3.1), (0, rfv (xd (zX Z)) 141), (1, iv x1), (2, iv x2)] C dX12_glass_23 (by decide) rfl ?_
  refine mw_iconst C dX12_glass_25 ?_
  refine mw_istore [(5, iv 0), (4, iv 1), (3, iv q3.1), (0, rfv (xd (zX Z)) 141), (1, iv x1), (2, iv x2)] C dX12_glass_26 (by decide) rfl ?_
  refine mw_sub [3, 4, 5, 2, 1, 0] rfl ?_
  exact T_X12_glass_28 C 20000 x1 x2 q3.1 1 0 _ _ hF
def F_X12_glass (x1 : Int) (x2 : Int) (h : MH) : Option (Int × MH) := F_X12_glass_0 x1 x2 h
theorem T_X12_glass (l : Launch) (X : XT) (x1 : Int) (x2 : Int) (h : MH) (t : (Int × MH)) (hF : F_X12_glass x1 x2 h = some t) : Ct l X yX12_glass cX12_glass 9 (some .int) 3 [rfv (xd X) 141, iv x1, iv x2] zN zG h (some (iv t.1)) zN zG t.2 0 0 := by
  refine Ct.head (by decide) (Nat.le_of_ble_eq_true rfl) (fun Z hX hl _ _ _ C => ?_)
  subst hX
  subst hl
  exact (T_X12_glass_0 C x1 x2 _ _ hF)
/-! BottleLineModel.bits(I)I -/
def F_X12_bits_4 : Nat → Int → Int → MH → Option (Int × MH)
  | 0, _, _, _ => none
  | n + 1, x1, x2, h =>
    ck (in32 x2) <|
    if x2 = 0 then
      some (x1, h)
    else
      nx (land32 x2 (x2 - 1)) fun v3 =>
      F_X12_bits_4 n (x1 + 1) v3 h
set_option maxRecDepth 100000 in
theorem T_X12_bits_4 {Z : ZT} (C : Cx Z cX12_bits 3 RX12 1 (some .int)) : ∀ (n : Nat) (x1 : Int) (x2 : Int) (h : MH) (t : (Int × MH)), F_X12_bits_4 n x1 x2 h = some t → MW Z (Qm Z (some (iv t.1)) zN zG t.2 0 0) 3 zN zG h 0 0 4 [(1, iv x1), (2, iv x2)] [] := by
  intro n
  induction n with
  | zero =>
    intros
    rename_i hF
    exact absurd hF (by intro q; cases q)
  | succ n ih =>
    intro x1 x2 h t hF
    rw [F_X12_bits_4] at hF
    refine mw_iload_n 1 C dX12_bits_4 rfl rfl ?_
    obtain ⟨g1, hF⟩ := ck_some hF
    rcases ite_some hF with ⟨c2, hF⟩ | ⟨c2, hF⟩
    · refine mw_if_eq_t (tgt := 20) C dX12_bits_5 (by decide) g1 c2 ?_
      refine mw_iload_n 0 C dX12_bits_20 rfl rfl ?_
      cases hF
      exact mw_iret C dX12_bits_21 rfl rfl
    · refine mw_if_eq_f (tgt := 20) C dX12_bits_5 (by decide) g1 c2 ?_
      refine mw_iinc 0 [(1, iv (x1 + 1)), (2, iv x2)] C dX12_bits_8 rfl (by decide) rfl ?_
      refine mw_iload_n 1 C dX12_bits_11 rfl rfl ?_
      refine mw_iload_n 1 C dX12_bits_12 rfl rfl ?_
      refine mw_iconst C dX12_bits_13 ?_
      refine mw_isub C dX12_bits_14 ?_
      refine mw_iand C dX12_bits_15 ?_
      obtain ⟨v3, ev3, hF⟩ := nx_some hF
      refine mw_ti ev3 ?_
      refine mw_istore_n [(2, iv v3), (1, iv (x1 + 1))] C dX12_bits_16 rfl (by decide) rfl ?_
      refine mw_goto (tgt := 4) C dX12_bits_17 (by decide) ?_
      refine mw_sub [1, 0] rfl ?_
      exact ih (x1 + 1) v3 _ _ hF
def F_X12_bits_0 (x0 : Int) (h : MH) : Option (Int × MH) :=
  F_X12_bits_4 20000 0 x0 h
set_option maxRecDepth 100000 in
theorem T_X12_bits_0 {Z : ZT} (C : Cx Z cX12_bits 3 RX12 1 (some .int)) (x0 : Int) (h : MH) (t : (Int × MH)) (hF : F_X12_bits_0 x0 h = some t) : MW Z (Qm Z (some (iv t.1)) zN zG t.2 0 0) 3 zN zG h 0 0 0 [(0, iv x0)] [] := by
  unfold F_X12_bits_0 at hF
  refine mw_iconst C dX12_bits_0 ?_
  refine mw_istore_n [(1, iv 0), (0, iv x0)] C dX12_bits_1 rfl (by decide) rfl ?_
  refine mw_iload_n 1 C dX12_bits_2 rfl rfl ?_
  refine mw_istore_n [(2, iv x0), (1, iv 0), (0, iv x0)] C dX12_bits_3 rfl (by decide) rfl ?_
  refine mw_sub [1, 0] rfl ?_
  exact T_X12_bits_4 C 20000 0 x0 _ _ hF
def F_X12_bits (x0 : Int) (h : MH) : Option (Int × MH) := F_X12_bits_0 x0 h
theorem T_X12_bits (l : Launch) (X : XT) (x0 : Int) (h : MH) (t : (Int × MH)) (hF : F_X12_bits x0 h = some t) : Ct l X yX12_bits cX12_bits 3 (some .int) 1 [iv x0] zN zG h (some (iv t.1)) zN zG t.2 0 0 := by
  refine Ct.head (by decide) (Nat.le_of_ble_eq_true rfl) (fun Z hX hl _ _ _ C => ?_)
  subst hX
  subst hl
  exact (T_X12_bits_0 C x0 _ _ hF)
/-! BottleLineModel.order(II)I -/
def F_X12_order_33 (h : MH) : Option (Int × MH) :=
  (F_X12_refuse 1 h).bind fun q1 =>
  some (q1.1, q1.2)
set_option maxRecDepth 100000 in
theorem T_X12_order_33 {Z : ZT} (C : Cx Z cX12_order 8 RX12 2 (some .int)) (h : MH) (t : (Int × MH)) (hF : F_X12_order_33 h = some t) : MW Z (Qm Z (some (iv t.1)) zN zG t.2 0 0) 8 zN zG h 0 0 33 [(0, rfv (xd (zX Z)) 141)] [] := by
  unfold F_X12_order_33 at hF
  refine mw_aload_n 0 C dX12_order_33 rfl rfl ?_
  refine mw_iconst C dX12_order_34 ?_
  obtain ⟨q1, hq1, hF⟩ := bind_some hF
  refine mw_callV (c := 141) [iv 1] [] C dX12_order_35 (T_X12_refuse (zl Z) (zX Z) 1 _ _ hq1) rfl zn141 zk141 (by decide) rfl wd997 wd998 wd1360 wd14 wd999 hd_X12_refuse rfl (by decide) (by decide) (Nat.le_of_ble_eq_true rfl) ⟨Nat.zero_le _, Nat.zero_le _⟩ ?_
  cases hF
  exact mw_iret C dX12_order_38 rfl rfl
def F_X12_order_335 (k248 : Int → Int → Int → MH → Option (Int × MH)) (k271 : Int → Int → Int → Int → Int → MH → Option (Int × MH)) (x3 : Int) (x4 : Int) (x5 : Int) (x6 : Int) (x7 : Int) (h : MH) : Option (Int × MH) :=
  k271 x3 x4 x5 x6 (x7 + 1) h
set_option maxRecDepth 100000 in
theorem T_X12_order_335 {Z : ZT} (C : Cx Z cX12_order 8 RX12 2 (some .int)) (k248 : Int → Int → Int → MH → Option (Int × MH)) (hk248 : ∀ (x3 : Int) (x4 : Int) (x5 : Int) (h : MH) (t : (Int × MH)), k248 x3 x4 x5 h = some t → MW Z (Qm Z (some (iv t.1)) zN zG t.2 0 0) 8 zN zG h 0 0 248 [(0, rfv (xd (zX Z)) 141), (3, iv x3), (4, iv x4), (5, iv x5)] []) (k271 : Int → Int → Int → Int → Int → MH → Option (Int × MH)) (hk271 : ∀ (x3 : Int) (x4 : Int) (x5 : Int) (x6 : Int) (x7 : Int) (h : MH) (t : (Int × MH)), k271 x3 x4 x5 x6 x7 h = some t → MW Z (Qm Z (some (iv t.1)) zN zG t.2 0 0) 8 zN zG h 0 0 271 [(0, rfv (xd (zX Z)) 141), (3, iv x3), (4, iv x4), (5, iv x5), (6, iv x6), (7, iv x7)] []) (x3 : Int) (x4 : Int) (x5 : Int) (x6 : Int) (x7 : Int) (h : MH) (t : (Int × MH)) (hF : F_X12_order_335 k248 k271 x3 x4 x5 x6 x7 h = some t) : MW Z (Qm Z (some (iv t.1)) zN zG t.2 0 0) 8 zN zG h 0 0 335 [(0, rfv (xd (zX Z)) 141), (3, iv x3), (4, iv x4), (5, iv x5), (6, iv x6), (7, iv x7)] [] := by
  unfold F_X12_order_335 at hF
  refine mw_iinc 5 [(7, iv (x7 + 1)), (0, rfv (xd (zX Z)) 141), (3, iv x3), (4, iv x4), (5, iv x5), (6, iv x6)] C dX12_order_335 rfl (by decide) rfl ?_
  refine mw_goto (tgt := 271) C dX12_order_338 (by decide) ?_
  refine mw_sub [1, 2, 3, 4, 5, 0] rfl ?_
  exact hk271 x3 x4 x5 x6 (x7 + 1) _ _ hF
def F_X12_order_271 (k248 : Int → Int → Int → MH → Option (Int × MH)) : Nat → Int → Int → Int → Int → Int → MH → Option (Int × MH)
  | 0, _, _, _, _, _, _ => none
  | n + 1, x3, x4, x5, x6, x7, h =>
    ck (in32 (land32 (shr32 x3 x7) 1)) <|
    if (land32 (shr32 x3 x7) 1) = 0 then
      F_X12_order_335 k248 (F_X12_order_271 k248 n) x3 x4 x5 x6 x7 h
    else
      ck (0 ≤ ((140 + (7 * x6)) + x7) ∧ ((140 + (7 * x6)) + x7) < 2640) <|
      ck (0 ≤ ((7 * (land32 x3 (lxor32 (shl32 1 x7) (-1)))) + x7) ∧ ((7 * (land32 x3 (lxor32 (shl32 1 x7) (-1)))) + x7) < 896) <|
      ck (in32 (h 161 ((7 * (land32 x3 (lxor32 (shl32 1 x7) (-1)))) + x7).toNat)) <|
      ck (0 ≤ ((7 * x3) + x6) ∧ ((7 * x3) + x6) < 896) <|
      ck (in32 (h 161 ((7 * x3) + x6).toNat)) <|
      ck (in64 ((h 142 ((140 + (7 * x6)) + x7).toNat) + (h 161 ((7 * (land32 x3 (lxor32 (shl32 1 x7) (-1)))) + x7).toNat))) <|
      if ((h 142 ((140 + (7 * x6)) + x7).toNat) + (h 161 ((7 * (land32 x3 (lxor32 (shl32 1 x7) (-1)))) + x7).toNat)) = (h 161 ((7 * x3) + x6).toNat) then
        ck (0 ≤ x5 ∧ x5 < 7) <|
        nx (hup h 162 x5.toNat x7) fun h11 =>
        nx (land32 x3 (lxor32 (shl32 1 x7) (-1))) fun v12 =>
        k248 v12 x4 (x5 + 1) h11
      else
        F_X12_order_335 k248 (F_X12_order_271 k248 n) x3 x4 x5 x6 x7 h
set_option maxRecDepth 100000 in
theorem T_X12_order_271 {Z : ZT} (C : Cx Z cX12_order 8 RX12 2 (some .int)) (k248 : Int → Int → Int → MH → Option (Int × MH)) (hk248 : ∀ (x3 : Int) (x4 : Int) (x5 : Int) (h : MH) (t : (Int × MH)), k248 x3 x4 x5 h = some t → MW Z (Qm Z (some (iv t.1)) zN zG t.2 0 0) 8 zN zG h 0 0 248 [(0, rfv (xd (zX Z)) 141), (3, iv x3), (4, iv x4), (5, iv x5)] []) : ∀ (n : Nat) (x3 : Int) (x4 : Int) (x5 : Int) (x6 : Int) (x7 : Int) (h : MH) (t : (Int × MH)), F_X12_order_271 k248 n x3 x4 x5 x6 x7 h = some t → MW Z (Qm Z (some (iv t.1)) zN zG t.2 0 0) 8 zN zG h 0 0 271 [(0, rfv (xd (zX Z)) 141), (3, iv x3), (4, iv x4), (5, iv x5), (6, iv x6), (7, iv x7)] [] := by
  intro n
  induction n with
  | zero =>
    intros
    rename_i hF
    exact absurd hF (by intro q; cases q)
  | succ n ih =>
    intro x3 x4 x5 x6 x7 h t hF
    rw [F_X12_order_271] at hF
    refine mw_iload_n 1 C dX12_order_271 rfl rfl ?_
    refine mw_iload 5 C dX12_order_272 rfl ?_
    refine mw_ishr C dX12_order_274 ?_
    refine mw_iconst C dX12_order_275 ?_
    refine mw_iand C dX12_order_276 ?_
    obtain ⟨g1, hF⟩ := ck_some hF
    rcases ite_some hF with ⟨c2, hF⟩ | ⟨c2, hF⟩
    · refine mw_if_eq_t (tgt := 335) C dX12_order_277 (by decide) g1 c2 ?_
      exact T_X12_order_335 C k248 hk248 (F_X12_order_271 k248 n) ih x3 x4 x5 x6 x7 _ _ hF
    · refine mw_if_eq_f (tgt := 335) C dX12_order_277 (by decide) g1 c2 ?_
      refine mw_aload_n 0 C dX12_order_280 rfl rfl ?_
      refine mw_get (k := 0) (T := TX12) (v := rfv (xd (zX Z)) 142) C dX12_order_281 zn141 zk141 (by decide) rfl inX12 (by decide) wd889 rfl (zfv_r rfl zg_141_0) ?_
      refine mw_sipush C dX12_order_284 sp_140 ?_
      refine mw_bipush C dX12_order_287 bp_7 ?_
      refine mw_iload 4 C dX12_order_289 rfl ?_
      refine mw_imul C dX12_order_291 ?_
      refine mw_iadd C dX12_order_292 ?_
      refine mw_iload 5 C dX12_order_293 rfl ?_
      refine mw_iadd C dX12_order_295 ?_
      obtain ⟨g3, hF⟩ := ck_some hF
      refine mw_lald C dX12_order_296 zn142 zk142 (by decide) g3 ?_
      refine mw_aload_n 0 C dX12_order_297 rfl rfl ?_
      refine mw_get (k := 43) (T := TX12) (v := rfv (xd (zX Z)) 161) C dX12_order_298 zn141 zk141 (by decide) rfl inX12 (by decide) wd932 rfl (zfv_r rfl zg_141_43) ?_
      refine mw_bipush C dX12_order_301 bp_7 ?_
      refine mw_iload_n 1 C dX12_order_303 rfl rfl ?_
      refine mw_iconst C dX12_order_304 ?_
      refine mw_iload 5 C dX12_order_305 rfl ?_
      refine mw_ishl C dX12_order_307 ?_
      refine mw_iconst C dX12_order_308 ?_
      refine mw_ixor C dX12_order_309 ?_
      refine mw_iand C dX12_order_310 ?_
      refine mw_imul C dX12_order_311 ?_
      refine mw_iload 5 C dX12_order_312 rfl ?_
      refine mw_iadd C dX12_order_314 ?_
      obtain ⟨g4, hF⟩ := ck_some hF
      refine mw_iald C dX12_order_315 zn161 zk161 (by decide) g4 ?_
      obtain ⟨g5, hF⟩ := ck_some hF
      refine mw_i2l C dX12_order_316 g5 ?_
      refine mw_ladd C dX12_order_317 ?_
      refine mw_aload_n 0 C dX12_order_318 rfl rfl ?_
      refine mw_get (k := 43) (T := TX12) (v := rfv (xd (zX Z)) 161) C dX12_order_319 zn141 zk141 (by decide) rfl inX12 (by decide) wd932 rfl (zfv_r rfl zg_141_43) ?_
      refine mw_bipush C dX12_order_322 bp_7 ?_
      refine mw_iload_n 1 C dX12_order_324 rfl rfl ?_
      refine mw_imul C dX12_order_325 ?_
      refine mw_iload 4 C dX12_order_326 rfl ?_
      refine mw_iadd C dX12_order_328 ?_
      obtain ⟨g6, hF⟩ := ck_some hF
      refine mw_iald C dX12_order_329 zn161 zk161 (by decide) g6 ?_
      obtain ⟨g7, hF⟩ := ck_some hF
      refine mw_i2l C dX12_order_330 g7 ?_
      obtain ⟨g8, hF⟩ := ck_some hF
      rcases ite_some hF with ⟨c9, hF⟩ | ⟨c9, hF⟩
      · refine mw_lcmp_eq_t (tgt := 341) C dX12_order_331 dX12_order_332 (by decide) g8 (in64_of g7) c9 ?_
        refine mw_aload_n 0 C dX12_order_341 rfl rfl ?_
        refine mw_get (k := 44) (T := TX12) (v := rfv (xd (zX Z)) 162) C dX12_order_342 zn141 zk141 (by decide) rfl inX12 (by decide) wd933 rfl (zfv_r rfl zg_141_44) ?_
        refine mw_iload 3 C dX12_order_345 rfl ?_
        refine mw_iload 5 C dX12_order_347 rfl ?_
        obtain ⟨g10, hF⟩ := ck_some hF
        obtain ⟨h11, eh11, hF⟩ := nx_some hF
        refine mw_iast C dX12_order_349 zn162 zk162 (by decide) g10 (mw_h eh11 ?_)
        refine mw_iload_n 1 C dX12_order_350 rfl rfl ?_
        refine mw_iconst C dX12_order_351 ?_
        refine mw_iload 5 C dX12_order_352 rfl ?_
        refine mw_ishl C dX12_order_354 ?_
        refine mw_iconst C dX12_order_355 ?_
        refine mw_ixor C dX12_order_356 ?_
        refine mw_iand C dX12_order_357 ?_
        obtain ⟨v12, ev12, hF⟩ := nx_some hF
        refine mw_ti ev12 ?_
        refine mw_istore_n [(3, iv v12), (0, rfv (xd (zX Z)) 141), (4, iv x4), (5, iv x5), (6, iv x6), (7, iv x7)] C dX12_order_358 rfl (by decide) rfl ?_
        refine mw_iinc 3 [(5, iv (x5 + 1)), (3, iv v12), (0, rfv (xd (zX Z)) 141), (4, iv x4), (6, iv x6), (7, iv x7)] C dX12_order_359 rfl (by decide) rfl ?_
        refine mw_goto (tgt := 248) C dX12_order_362 (by decide) ?_
        refine mw_sub [2, 1, 3, 0] rfl ?_
        exact hk248 v12 x4 (x5 + 1) _ _ hF
      · refine mw_lcmp_eq_f (tgt := 341) C dX12_order_331 dX12_order_332 (by decide) g8 (in64_of g7) c9 ?_
        exact T_X12_order_335 C k248 hk248 (F_X12_order_271 k248 n) ih x3 x4 x5 x6 x7 _ _ hF
def F_X12_order_248 : Nat → Int → Int → Int → MH → Option (Int × MH)
  | 0, _, _, _, _ => none
  | n + 1, x3, x4, x5, h =>
    ck (in32 x5) <|
    ck (in32 (h 141 45)) <|
    if (h 141 45) ≤ x5 then
      ck (in32 x4) <|
      (F_X12_gives x4 h).bind fun q5 =>
      some (q5.1, q5.2)
    else
      ck (0 ≤ (x5 - 1) ∧ (x5 - 1) < 7) <|
      nx (h 162 (x5 - 1).toNat) fun v7 =>
      F_X12_order_271 (F_X12_order_248 n) 20000 x3 x4 x5 v7 0 h
set_option maxRecDepth 100000 in
theorem T_X12_order_248 {Z : ZT} (C : Cx Z cX12_order 8 RX12 2 (some .int)) : ∀ (n : Nat) (x3 : Int) (x4 : Int) (x5 : Int) (h : MH) (t : (Int × MH)), F_X12_order_248 n x3 x4 x5 h = some t → MW Z (Qm Z (some (iv t.1)) zN zG t.2 0 0) 8 zN zG h 0 0 248 [(0, rfv (xd (zX Z)) 141), (3, iv x3), (4, iv x4), (5, iv x5)] [] := by
  intro n
  induction n with
  | zero =>
    intros
    rename_i hF
    exact absurd hF (by intro q; cases q)
  | succ n ih =>
    intro x3 x4 x5 h t hF
    rw [F_X12_order_248] at hF
    refine mw_iload 3 C dX12_order_248 rfl ?_
    refine mw_aload_n 0 C dX12_order_250 rfl rfl ?_
    refine mw_get (k := 45) (T := TX12) (v := iv (h 141 45)) C dX12_order_251 zn141 zk141 (by decide) rfl inX12 (by decide) wd934 rfl rfl ?_
    obtain ⟨g1, hF⟩ := ck_some hF
    obtain ⟨g2, hF⟩ := ck_some hF
    rcases ite_some hF with ⟨c3, hF⟩ | ⟨c3, hF⟩
    · refine mw_icmp_ge_t (tgt := 365) C dX12_order_254 (by decide) g1 g2 c3 ?_
      refine mw_aload_n 0 C dX12_order_365 rfl rfl ?_
      refine mw_iload 2 C dX12_order_366 rfl ?_
      obtain ⟨g4, hF⟩ := ck_some hF
      refine mw_i2l C dX12_order_368 g4 ?_
      obtain ⟨q5, hq5, hF⟩ := bind_some hF
      refine mw_callV (c := 141) [lvv x4] [] C dX12_order_369 (T_X12_gives (zl Z) (zX Z) x4 _ _ hq5) rfl zn141 zk141 (by decide) rfl wd1069 wd1070 wd1379 wd14 wd1071 hd_X12_gives rfl (by decide) (by decide) (Nat.le_of_ble_eq_true rfl) ⟨Nat.zero_le _, Nat.zero_le _⟩ ?_
      cases hF
      exact mw_iret C dX12_order_372 rfl rfl
    · refine mw_icmp_ge_f (tgt := 365) C dX12_order_254 (by decide) g1 g2 c3 ?_
      refine mw_aload_n 0 C dX12_order_257 rfl rfl ?_
      refine mw_get (k := 44) (T := TX12) (v := rfv (xd (zX Z)) 162) C dX12_order_258 zn141 zk141 (by decide) rfl inX12 (by decide) wd933 rfl (zfv_r rfl zg_141_44) ?_
      refine mw_iload 3 C dX12_order_261 rfl ?_
      refine mw_iconst C dX12_order_263 ?_
      refine mw_isub C dX12_order_264 ?_
      obtain ⟨g6, hF⟩ := ck_some hF
      refine mw_iald C dX12_order_265 zn162 zk162 (by decide) g6 ?_
      obtain ⟨v7, ev7, hF⟩ := nx_some hF
      refine mw_ti ev7 ?_
      refine mw_istore [(6, iv v7), (0, rfv (xd (zX Z)) 141), (3, iv x3), (4, iv x4), (5, iv x5)] C dX12_order_266 (by decide) rfl ?_
      refine mw_iconst C dX12_order_268 ?_
      refine mw_istore [(7, iv 0), (6, iv v7), (0, rfv (xd (zX Z)) 141), (3, iv x3), (4, iv x4), (5, iv x5)] C dX12_order_269 (by decide) rfl ?_
      refine mw_sub [2, 3, 4, 5, 1, 0] rfl ?_
      exact T_X12_order_271 C (F_X12_order_248 n) ih 20000 x3 x4 x5 v7 0 _ _ hF
def F_X12_order_191 (k41 : Int → Int → Int → MH → Option (Int × MH)) (k57 : Int → Int → Int → Int → MH → Option (Int × MH)) (k96 : Int → Int → Int → Int → Int → MH → Option (Int × MH)) (x1 : Int) (x2 : Int) (x3 : Int) (x4 : Int) (x5 : Int) (h : MH) : Option (Int × MH) :=
  k96 x1 x2 x3 x4 (x5 + 1) h
set_option maxRecDepth 100000 in
theorem T_X12_order_191 {Z : ZT} (C : Cx Z cX12_order 8 RX12 2 (some .int)) (k41 : Int → Int → Int → MH → Option (Int × MH)) (hk41 : ∀ (x1 : Int) (x2 : Int) (x3 : Int) (h : MH) (t : (Int × MH)), k41 x1 x2 x3 h = some t → MW Z (Qm Z (some (iv t.1)) zN zG t.2 0 0) 8 zN zG h 0 0 41 [(0, rfv (xd (zX Z)) 141), (1, iv x1), (2, iv x2), (3, iv x3)] []) (k57 : Int → Int → Int → Int → MH → Option (Int × MH)) (hk57 : ∀ (x1 : Int) (x2 : Int) (x3 : Int) (x4 : Int) (h : MH) (t : (Int × MH)), k57 x1 x2 x3 x4 h = some t → MW Z (Qm Z (some (iv t.1)) zN zG t.2 0 0) 8 zN zG h 0 0 57 [(0, rfv (xd (zX Z)) 141), (1, iv x1), (2, iv x2), (3, iv x3), (4, iv x4)] []) (k96 : Int → Int → Int → Int → Int → MH → Option (Int × MH)) (hk96 : ∀ (x1 : Int) (x2 : Int) (x3 : Int) (x4 : Int) (x5 : Int) (h : MH) (t : (Int × MH)), k96 x1 x2 x3 x4 x5 h = some t → MW Z (Qm Z (some (iv t.1)) zN zG t.2 0 0) 8 zN zG h 0 0 96 [(0, rfv (xd (zX Z)) 141), (1, iv x1), (2, iv x2), (3, iv x3), (4, iv x4), (5, iv x5)] []) (x1 : Int) (x2 : Int) (x3 : Int) (x4 : Int) (x5 : Int) (h : MH) (t : (Int × MH)) (hF : F_X12_order_191 k41 k57 k96 x1 x2 x3 x4 x5 h = some t) : MW Z (Qm Z (some (iv t.1)) zN zG t.2 0 0) 8 zN zG h 0 0 191 [(0, rfv (xd (zX Z)) 141), (1, iv x1), (2, iv x2), (3, iv x3), (4, iv x4), (5, iv x5)] [] := by
  unfold F_X12_order_191 at hF
  refine mw_iinc 5 [(5, iv (x5 + 1)), (0, rfv (xd (zX Z)) 141), (1, iv x1), (2, iv x2), (3, iv x3), (4, iv x4)] C dX12_order_191 rfl (by decide) rfl ?_
  refine mw_goto (tgt := 96) C dX12_order_194 (by decide) ?_
  refine mw_sub [1, 2, 3, 4, 5, 0] rfl ?_
  exact hk96 x1 x2 x3 x4 (x5 + 1) _ _ hF
def F_X12_order_96 (k41 : Int → Int → Int → MH → Option (Int × MH)) (k57 : Int → Int → Int → Int → MH → Option (Int × MH)) : Nat → Int → Int → Int → Int → Int → MH → Option (Int × MH)
  | 0, _, _, _, _, _, _ => none
  | n + 1, x1, x2, x3, x4, x5, h =>
    ck (in32 x5) <|
    ck (in64 (h 142 1)) <|
    if (h 142 1) ≤ x5 then
      k57 x1 x2 x3 (x4 + 1) h
    else
      ck (in32 (land32 (shr32 x3 x5) 1)) <|
      if (land32 (shr32 x3 x5) 1) ≠ 1 then
        F_X12_order_191 k41 k57 (F_X12_order_96 k41 k57 n) x1 x2 x3 x4 x5 h
      else
        ck (in32 x4) <|
        if x5 = x4 then
          F_X12_order_191 k41 k57 (F_X12_order_96 k41 k57 n) x1 x2 x3 x4 x5 h
        else
          ck (0 ≤ ((7 * x3) + x4) ∧ ((7 * x3) + x4) < 896) <|
          ck (0 ≤ ((140 + (7 * x4)) + x5) ∧ ((140 + (7 * x4)) + x5) < 2640) <|
          ck (0 ≤ ((7 * (land32 x3 (lxor32 (shl32 1 x5) (-1)))) + x5) ∧ ((7 * (land32 x3 (lxor32 (shl32 1 x5) (-1)))) + x5) < 896) <|
          ck (in32 (h 161 ((7 * x3) + x4).toNat)) <|
          ck (in32 ((h 142 ((140 + (7 * x4)) + x5).toNat) + (h 161 ((7 * (land32 x3 (lxor32 (shl32 1 x5) (-1)))) + x5).toNat))) <|
          nx (hup h 161 ((7 * x3) + x4).toNat (min (h 161 ((7 * x3) + x4).toNat) ((h 142 ((140 + (7 * x4)) + x5).toNat) + (h 161 ((7 * (land32 x3 (lxor32 (shl32 1 x5) (-1)))) + x5).toNat)))) fun h13 =>
          F_X12_order_191 k41 k57 (F_X12_order_96 k41 k57 n) x1 x2 x3 x4 x5 h13
set_option maxRecDepth 100000 in
theorem T_X12_order_96 {Z : ZT} (C : Cx Z cX12_order 8 RX12 2 (some .int)) (k41 : Int → Int → Int → MH → Option (Int × MH)) (hk41 : ∀ (x1 : Int) (x2 : Int) (x3 : Int) (h : MH) (t : (Int × MH)), k41 x1 x2 x3 h = some t → MW Z (Qm Z (some (iv t.1)) zN zG t.2 0 0) 8 zN zG h 0 0 41 [(0, rfv (xd (zX Z)) 141), (1, iv x1), (2, iv x2), (3, iv x3)] []) (k57 : Int → Int → Int → Int → MH → Option (Int × MH)) (hk57 : ∀ (x1 : Int) (x2 : Int) (x3 : Int) (x4 : Int) (h : MH) (t : (Int × MH)), k57 x1 x2 x3 x4 h = some t → MW Z (Qm Z (some (iv t.1)) zN zG t.2 0 0) 8 zN zG h 0 0 57 [(0, rfv (xd (zX Z)) 141), (1, iv x1), (2, iv x2), (3, iv x3), (4, iv x4)] []) : ∀ (n : Nat) (x1 : Int) (x2 : Int) (x3 : Int) (x4 : Int) (x5 : Int) (h : MH) (t : (Int × MH)), F_X12_order_96 k41 k57 n x1 x2 x3 x4 x5 h = some t → MW Z (Qm Z (some (iv t.1)) zN zG t.2 0 0) 8 zN zG h 0 0 96 [(0, rfv (xd (zX Z)) 141), (1, iv x1), (2, iv x2), (3, iv x3), (4, iv x4), (5, iv x5)] [] := by
  intro n
  induction n with
  | zero =>
    intros
    rename_i hF
    exact absurd hF (by intro q; cases q)
  | succ n ih =>
    intro x1 x2 x3 x4 x5 h t hF
    rw [F_X12_order_96] at hF
    refine mw_iload 5 C dX12_order_96 rfl ?_
    obtain ⟨g1, hF⟩ := ck_some hF
    refine mw_i2l C dX12_order_98 g1 ?_
    refine mw_aload_n 0 C dX12_order_99 rfl rfl ?_
    refine mw_get (k := 0) (T := TX12) (v := rfv (xd (zX Z)) 142) C dX12_order_100 zn141 zk141 (by decide) rfl inX12 (by decide) wd889 rfl (zfv_r rfl zg_141_0) ?_
    refine mw_iconst C dX12_order_103 ?_
    refine mw_lald C dX12_order_104 zn142 zk142 (by decide) (by decide) ?_
    obtain ⟨g2, hF⟩ := ck_some hF
    rcases ite_some hF with ⟨c3, hF⟩ | ⟨c3, hF⟩
    · refine mw_lcmp_ge_t (tgt := 197) C dX12_order_105 dX12_order_106 (by decide) (in64_of g1) g2 c3 ?_
      refine mw_iinc 4 [(4, iv (x4 + 1)), (0, rfv (xd (zX Z)) 141), (1, iv x1), (2, iv x2), (3, iv x3), (5, iv x5)] C dX12_order_197 rfl (by decide) rfl ?_
      refine mw_goto (tgt := 57) C dX12_order_200 (by decide) ?_
      refine mw_sub [1, 2, 3, 4, 0] rfl ?_
      exact hk57 x1 x2 x3 (x4 + 1) _ _ hF
    · refine mw_lcmp_ge_f (tgt := 197) C dX12_order_105 dX12_order_106 (by decide) (in64_of g1) g2 c3 ?_
      refine mw_iload_n 3 C dX12_order_109 rfl rfl ?_
      refine mw_iload 5 C dX12_order_110 rfl ?_
      refine mw_ishr C dX12_order_112 ?_
      refine mw_iconst C dX12_order_113 ?_
      refine mw_iand C dX12_order_114 ?_
      refine mw_iconst C dX12_order_115 ?_
      obtain ⟨g4, hF⟩ := ck_some hF
      rcases ite_some hF with ⟨c5, hF⟩ | ⟨c5, hF⟩
      · refine mw_icmp_ne_t (tgt := 191) C dX12_order_116 (by decide) g4 (by decide) c5 ?_
        exact T_X12_order_191 C k41 hk41 k57 hk57 (F_X12_order_96 k41 k57 n) ih x1 x2 x3 x4 x5 _ _ hF
      · refine mw_icmp_ne_f (tgt := 191) C dX12_order_116 (by decide) g4 (by decide) c5 ?_
        refine mw_iload 5 C dX12_order_119 rfl ?_
        refine mw_iload 4 C dX12_order_121 rfl ?_
        obtain ⟨g6, hF⟩ := ck_some hF
        rcases ite_some hF with ⟨c7, hF⟩ | ⟨c7, hF⟩
        · refine mw_icmp_eq_t (tgt := 191) C dX12_order_123 (by decide) g1 g6 c7 ?_
          exact T_X12_order_191 C k41 hk41 k57 hk57 (F_X12_order_96 k41 k57 n) ih x1 x2 x3 x4 x5 _ _ hF
        · refine mw_icmp_eq_f (tgt := 191) C dX12_order_123 (by decide) g1 g6 c7 ?_
          refine mw_aload_n 0 C dX12_order_126 rfl rfl ?_
          refine mw_get (k := 43) (T := TX12) (v := rfv (xd (zX Z)) 161) C dX12_order_127 zn141 zk141 (by decide) rfl inX12 (by decide) wd932 rfl (zfv_r rfl zg_141_43) ?_
          refine mw_bipush C dX12_order_130 bp_7 ?_
          refine mw_iload_n 3 C dX12_order_132 rfl rfl ?_
          refine mw_imul C dX12_order_133 ?_
          refine mw_iload 4 C dX12_order_134 rfl ?_
          refine mw_iadd C dX12_order_136 ?_
          refine mw_aload_n 0 C dX12_order_137 rfl rfl ?_
          refine mw_get (k := 43) (T := TX12) (v := rfv (xd (zX Z)) 161) C dX12_order_138 zn141 zk141 (by decide) rfl inX12 (by decide) wd932 rfl (zfv_r rfl zg_141_43) ?_
          refine mw_bipush C dX12_order_141 bp_7 ?_
          refine mw_iload_n 3 C dX12_order_143 rfl rfl ?_
          refine mw_imul C dX12_order_144 ?_
          refine mw_iload 4 C dX12_order_145 rfl ?_
          refine mw_iadd C dX12_order_147 ?_
          obtain ⟨g8, hF⟩ := ck_some hF
          refine mw_iald C dX12_order_148 zn161 zk161 (by decide) g8 ?_
          refine mw_aload_n 0 C dX12_order_149 rfl rfl ?_
          refine mw_get (k := 0) (T := TX12) (v := rfv (xd (zX Z)) 142) C dX12_order_150 zn141 zk141 (by decide) rfl inX12 (by decide) wd889 rfl (zfv_r rfl zg_141_0) ?_
          refine mw_sipush C dX12_order_153 sp_140 ?_
          refine mw_bipush C dX12_order_156 bp_7 ?_
          refine mw_iload 4 C dX12_order_158 rfl ?_
          refine mw_imul C dX12_order_160 ?_
          refine mw_iadd C dX12_order_161 ?_
          refine mw_iload 5 C dX12_order_162 rfl ?_
          refine mw_iadd C dX12_order_164 ?_
          obtain ⟨g9, hF⟩ := ck_some hF
          refine mw_lald C dX12_order_165 zn142 zk142 (by decide) g9 ?_
          refine mw_l2i C dX12_order_166 ?_
          refine mw_aload_n 0 C dX12_order_167 rfl rfl ?_
          refine mw_get (k := 43) (T := TX12) (v := rfv (xd (zX Z)) 161) C dX12_order_168 zn141 zk141 (by decide) rfl inX12 (by decide) wd932 rfl (zfv_r rfl zg_141_43) ?_
          refine mw_bipush C dX12_order_171 bp_7 ?_
          refine mw_iload_n 3 C dX12_order_173 rfl rfl ?_
          refine mw_iconst C dX12_order_174 ?_
          refine mw_iload 5 C dX12_order_175 rfl ?_
          refine mw_ishl C dX12_order_177 ?_
          refine mw_iconst C dX12_order_178 ?_
          refine mw_ixor C dX12_order_179 ?_
          refine mw_iand C dX12_order_180 ?_
          refine mw_imul C dX12_order_181 ?_
          refine mw_iload 5 C dX12_order_182 rfl ?_
          refine mw_iadd C dX12_order_184 ?_
          obtain ⟨g10, hF⟩ := ck_some hF
          refine mw_iald C dX12_order_185 zn161 zk161 (by decide) g10 ?_
          refine mw_iadd C dX12_order_186 ?_
          obtain ⟨g11, hF⟩ := ck_some hF
          obtain ⟨g12, hF⟩ := ck_some hF
          refine mw_mmin C dX12_order_187 wd1016 wd356 wd16 wd357 (by decide) (Nat.le_of_ble_eq_true rfl) ⟨Nat.zero_le _, Nat.zero_le _⟩ g11 g12 ?_
          obtain ⟨h13, eh13, hF⟩ := nx_some hF
          refine mw_iast C dX12_order_190 zn161 zk161 (by decide) g8 (mw_h eh13 ?_)
          exact T_X12_order_191 C k41 hk41 k57 hk57 (F_X12_order_96 k41 k57 n) ih x1 x2 x3 x4 x5 _ _ hF
def F_X12_order_92 (k41 : Int → Int → Int → MH → Option (Int × MH)) (k57 : Int → Int → Int → Int → MH → Option (Int × MH)) (x1 : Int) (x2 : Int) (x3 : Int) (x4 : Int) (s0 : Nat) (s1 : Int) (s2 : Int) (h : MH) : Option (Int × MH) :=
  ck (0 ≤ s1 ∧ s1 < 896) <|
  nx (hup h s0 s1.toNat s2) fun h2 =>
  F_X12_order_96 k41 k57 20000 x1 x2 x3 x4 0 h2
set_option maxRecDepth 100000 in
theorem T_X12_order_92 {Z : ZT} (C : Cx Z cX12_order 8 RX12 2 (some .int)) (k41 : Int → Int → Int → MH → Option (Int × MH)) (hk41 : ∀ (x1 : Int) (x2 : Int) (x3 : Int) (h : MH) (t : (Int × MH)), k41 x1 x2 x3 h = some t → MW Z (Qm Z (some (iv t.1)) zN zG t.2 0 0) 8 zN zG h 0 0 41 [(0, rfv (xd (zX Z)) 141), (1, iv x1), (2, iv x2), (3, iv x3)] []) (k57 : Int → Int → Int → Int → MH → Option (Int × MH)) (hk57 : ∀ (x1 : Int) (x2 : Int) (x3 : Int) (x4 : Int) (h : MH) (t : (Int × MH)), k57 x1 x2 x3 x4 h = some t → MW Z (Qm Z (some (iv t.1)) zN zG t.2 0 0) 8 zN zG h 0 0 57 [(0, rfv (xd (zX Z)) 141), (1, iv x1), (2, iv x2), (3, iv x3), (4, iv x4)] []) (x1 : Int) (x2 : Int) (x3 : Int) (x4 : Int) (s0 : Nat) (s1 : Int) (s2 : Int) (hk_s0 : zK s0 = (21, 896) ∧ s0 < zN ∧ 896 < 2147483648) (h : MH) (t : (Int × MH)) (hF : F_X12_order_92 k41 k57 x1 x2 x3 x4 s0 s1 s2 h = some t) : MW Z (Qm Z (some (iv t.1)) zN zG t.2 0 0) 8 zN zG h 0 0 92 [(0, rfv (xd (zX Z)) 141), (1, iv x1), (2, iv x2), (3, iv x3), (4, iv x4)] [iv s2, iv s1, rfv (xd (zX Z)) s0] := by
  unfold F_X12_order_92 at hF
  obtain ⟨g1, hF⟩ := ck_some hF
  obtain ⟨h2, eh2, hF⟩ := nx_some hF
  refine mw_iast C dX12_order_92 hk_s0.2.1 hk_s0.1 hk_s0.2.2 g1 (mw_h eh2 ?_)
  refine mw_iconst C dX12_order_93 ?_
  refine mw_istore [(5, iv 0), (0, rfv (xd (zX Z)) 141), (1, iv x1), (2, iv x2), (3, iv x3), (4, iv x4)] C dX12_order_94 (by decide) rfl ?_
  refine mw_sub [1, 2, 3, 4, 5, 0] rfl ?_
  exact T_X12_order_96 C k41 hk41 k57 hk57 20000 x1 x2 x3 x4 0 _ _ hF
def F_X12_order_57 (k41 : Int → Int → Int → MH → Option (Int × MH)) : Nat → Int → Int → Int → Int → MH → Option (Int × MH)
  | 0, _, _, _, _, _ => none
  | n + 1, x1, x2, x3, x4, h =>
    ck (in32 x4) <|
    ck (in64 (h 142 1)) <|
    if (h 142 1) ≤ x4 then
      k41 x1 x2 (x3 + 1) h
    else
      ck (in32 x3) <|
      if x3 ≠ 0 then
        F_X12_order_92 k41 (F_X12_order_57 k41 n) x1 x2 x3 x4 161 ((7 * x3) + x4) 1000000 h
      else
        F_X12_order_92 k41 (F_X12_order_57 k41 n) x1 x2 x3 x4 161 ((7 * x3) + x4) 0 h
set_option maxRecDepth 100000 in
theorem T_X12_order_57 {Z : ZT} (C : Cx Z cX12_order 8 RX12 2 (some .int)) (k41 : Int → Int → Int → MH → Option (Int × MH)) (hk41 : ∀ (x1 : Int) (x2 : Int) (x3 : Int) (h : MH) (t : (Int × MH)), k41 x1 x2 x3 h = some t → MW Z (Qm Z (some (iv t.1)) zN zG t.2 0 0) 8 zN zG h 0 0 41 [(0, rfv (xd (zX Z)) 141), (1, iv x1), (2, iv x2), (3, iv x3)] []) : ∀ (n : Nat) (x1 : Int) (x2 : Int) (x3 : Int) (x4 : Int) (h : MH) (t : (Int × MH)), F_X12_order_57 k41 n x1 x2 x3 x4 h = some t → MW Z (Qm Z (some (iv t.1)) zN zG t.2 0 0) 8 zN zG h 0 0 57 [(0, rfv (xd (zX Z)) 141), (1, iv x1), (2, iv x2), (3, iv x3), (4, iv x4)] [] := by
  intro n
  induction n with
  | zero =>
    intros
    rename_i hF
    exact absurd hF (by intro q; cases q)
  | succ n ih =>
    intro x1 x2 x3 x4 h t hF
    rw [F_X12_order_57] at hF
    refine mw_iload 4 C dX12_order_57 rfl ?_
    obtain ⟨g1, hF⟩ := ck_some hF
    refine mw_i2l C dX12_order_59 g1 ?_
    refine mw_aload_n 0 C dX12_order_60 rfl rfl ?_
    refine mw_get (k := 0) (T := TX12) (v := rfv (xd (zX Z)) 142) C dX12_order_61 zn141 zk141 (by decide) rfl inX12 (by decide) wd889 rfl (zfv_r rfl zg_141_0) ?_
    refine mw_iconst C dX12_order_64 ?_
    refine mw_lald C dX12_order_65 zn142 zk142 (by decide) (by decide) ?_
    obtain ⟨g2, hF⟩ := ck_some hF
    rcases ite_some hF with ⟨c3, hF⟩ | ⟨c3, hF⟩
    · refine mw_lcmp_ge_t (tgt := 203) C dX12_order_66 dX12_order_67 (by decide) (in64_of g1) g2 c3 ?_
      refine mw_iinc 3 [(3, iv (x3 + 1)), (0, rfv (xd (zX Z)) 141), (1, iv x1), (2, iv x2), (4, iv x4)] C dX12_order_203 rfl (by decide) rfl ?_
      refine mw_goto (tgt := 41) C dX12_order_206 (by decide) ?_
      refine mw_sub [1, 2, 3, 0] rfl ?_
      exact hk41 x1 x2 (x3 + 1) _ _ hF
    · refine mw_lcmp_ge_f (tgt := 203) C dX12_order_66 dX12_order_67 (by decide) (in64_of g1) g2 c3 ?_
      refine mw_aload_n 0 C dX12_order_70 rfl rfl ?_
      refine mw_get (k := 43) (T := TX12) (v := rfv (xd (zX Z)) 161) C dX12_order_71 zn141 zk141 (by decide) rfl inX12 (by decide) wd932 rfl (zfv_r rfl zg_141_43) ?_
      refine mw_bipush C dX12_order_74 bp_7 ?_
      refine mw_iload_n 3 C dX12_order_76 rfl rfl ?_
      refine mw_imul C dX12_order_77 ?_
      refine mw_iload 4 C dX12_order_78 rfl ?_
      refine mw_iadd C dX12_order_80 ?_
      refine mw_iload_n 3 C dX12_order_81 rfl rfl ?_
      obtain ⟨g4, hF⟩ := ck_some hF
      rcases ite_some hF with ⟨c5, hF⟩ | ⟨c5, hF⟩
      · refine mw_if_ne_t (tgt := 89) C dX12_order_82 (by decide) g4 c5 ?_
        refine mw_ldcw (a := 1000000) C dX12_order_89 wd1259 rfl ?_
        exact T_X12_order_92 C k41 hk41 (F_X12_order_57 k41 n) ih x1 x2 x3 x4 161 ((7 * x3) + x4) 1000000 (⟨zk161, zn161, by decide⟩) _ _ hF
      · refine mw_if_ne_f (tgt := 89) C dX12_order_82 (by decide) g4 c5 ?_
        refine mw_iconst C dX12_order_85 ?_
        refine mw_goto (tgt := 92) C dX12_order_86 (by decide) ?_
        exact T_X12_order_92 C k41 hk41 (F_X12_order_57 k41 n) ih x1 x2 x3 x4 161 ((7 * x3) + x4) 0 (⟨zk161, zn161, by decide⟩) _ _ hF
def F_X12_order_41 : Nat → Int → Int → Int → MH → Option (Int × MH)
  | 0, _, _, _, _ => none
  | n + 1, x1, x2, x3, h =>
    ck (in32 x3) <|
    ck (in32 (shl32 1 (h 142 1))) <|
    if (shl32 1 (h 142 1)) ≤ x3 then
      nx (land32 x1 (lxor32 (shl32 1 x2) (-1))) fun v4 =>
      ck (0 ≤ ((7 * v4) + x2) ∧ ((7 * v4) + x2) < 896) <|
      nx (h 161 ((7 * v4) + x2).toNat) fun v6 =>
      nx (hup h 162 0 x2) fun h7 =>
      (F_X12_bits x1 h7).bind fun q8 =>
      nx (hup q8.2 141 45 q8.1) fun h9 =>
      F_X12_order_248 20000 v4 v6 1 h9
    else
      F_X12_order_57 (F_X12_order_41 n) 20000 x1 x2 x3 0 h
set_option maxRecDepth 100000 in
theorem T_X12_order_41 {Z : ZT} (C : Cx Z cX12_order 8 RX12 2 (some .int)) : ∀ (n : Nat) (x1 : Int) (x2 : Int) (x3 : Int) (h : MH) (t : (Int × MH)), F_X12_order_41 n x1 x2 x3 h = some t → MW Z (Qm Z (some (iv t.1)) zN zG t.2 0 0) 8 zN zG h 0 0 41 [(0, rfv (xd (zX Z)) 141), (1, iv x1), (2, iv x2), (3, iv x3)] [] := by
  intro n
  induction n with
  | zero =>
    intros
    rename_i hF
    exact absurd hF (by intro q; cases q)
  | succ n ih =>
    intro x1 x2 x3 h t hF
    rw [F_X12_order_41] at hF
    refine mw_iload_n 3 C dX12_order_41 rfl rfl ?_
    refine mw_iconst C dX12_order_42 ?_
    refine mw_aload_n 0 C dX12_order_43 rfl rfl ?_
    refine mw_get (k := 0) (T := TX12) (v := rfv (xd (zX Z)) 142) C dX12_order_44 zn141 zk141 (by decide) rfl inX12 (by decide) wd889 rfl (zfv_r rfl zg_141_0) ?_
    refine mw_iconst C dX12_order_47 ?_
    refine mw_lald C dX12_order_48 zn142 zk142 (by decide) (by decide) ?_
    refine mw_l2i C dX12_order_49 ?_
    refine mw_ishl C dX12_order_50 ?_
    obtain ⟨g1, hF⟩ := ck_some hF
    obtain ⟨g2, hF⟩ := ck_some hF
    rcases ite_some hF with ⟨c3, hF⟩ | ⟨c3, hF⟩
    · refine mw_icmp_ge_t (tgt := 209) C dX12_order_51 (by decide) g1 g2 c3 ?_
      refine mw_iload_n 1 C dX12_order_209 rfl rfl ?_
      refine mw_iconst C dX12_order_210 ?_
      refine mw_iload_n 2 C dX12_order_211 rfl rfl ?_
      refine mw_ishl C dX12_order_212 ?_
      refine mw_iconst C dX12_order_213 ?_
      refine mw_ixor C dX12_order_214 ?_
      refine mw_iand C dX12_order_215 ?_
      obtain ⟨v4, ev4, hF⟩ := nx_some hF
      refine mw_ti ev4 ?_
      refine mw_istore_n [(3, iv v4), (0, rfv (xd (zX Z)) 141), (1, iv x1), (2, iv x2)] C dX12_order_216 rfl (by decide) rfl ?_
      refine mw_aload_n 1 C dX12_order_217 rfl rfl ?_
      refine mw_get (k := 43) (T := TX12) (v := rfv (xd (zX Z)) 161) C dX12_order_218 zn141 zk141 (by decide) rfl inX12 (by decide) wd932 rfl (zfv_r rfl zg_141_43) ?_
      refine mw_bipush C dX12_order_221 bp_7 ?_
      refine mw_iload_n 0 C dX12_order_223 rfl rfl ?_
      refine mw_imul C dX12_order_224 ?_
      refine mw_iload_n 3 C dX12_order_225 rfl rfl ?_
      refine mw_iadd C dX12_order_226 ?_
      obtain ⟨g5, hF⟩ := ck_some hF
      refine mw_iald C dX12_order_227 zn161 zk161 (by decide) g5 ?_
      obtain ⟨v6, ev6, hF⟩ := nx_some hF
      refine mw_ti ev6 ?_
      refine mw_istore [(4, iv v6), (3, iv v4), (0, rfv (xd (zX Z)) 141), (1, iv x1), (2, iv x2)] C dX12_order_228 (by decide) rfl ?_
      refine mw_aload_n 2 C dX12_order_230 rfl rfl ?_
      refine mw_get (k := 44) (T := TX12) (v := rfv (xd (zX Z)) 162) C dX12_order_231 zn141 zk141 (by decide) rfl inX12 (by decide) wd933 rfl (zfv_r rfl zg_141_44) ?_
      refine mw_iconst C dX12_order_234 ?_
      refine mw_iload_n 4 C dX12_order_235 rfl rfl ?_
      obtain ⟨h7, eh7, hF⟩ := nx_some hF
      refine mw_iast C dX12_order_236 zn162 zk162 (by decide) (by decide) (mw_h eh7 ?_)
      refine mw_aload_n 2 C dX12_order_237 rfl rfl ?_
      refine mw_iload_n 3 C dX12_order_238 rfl rfl ?_
      obtain ⟨q8, hq8, hF⟩ := bind_some hF
      refine mw_callS [iv x1] [rfv (xd (zX Z)) 141] C dX12_order_239 (T_X12_bits (zl Z) (zX Z) x1 _ _ hq8) rfl wd1260 wd1261 wd14 wd1262 hd_X12_bits rfl (by decide) (by decide) (Nat.le_of_ble_eq_true rfl) ⟨Nat.zero_le _, Nat.zero_le _⟩ ?_
      obtain ⟨h9, eh9, hF⟩ := nx_some hF
      refine mw_put (k := 45) (T := TX12) (ty0 := tyX12) (x := q8.1) C dX12_order_242 zn141 zk141 (by decide) rfl inX12 tyX12_ok nmX12 (by decide) wd934 rfl rfl rfl rfl rfl (by decide) (mw_h eh9 ?_)
      refine mw_iconst C dX12_order_245 ?_
      refine mw_istore [(5, iv 1), (4, iv v6), (3, iv v4), (0, rfv (xd (zX Z)) 141), (1, iv x1), (2, iv x2)] C dX12_order_246 (by decide) rfl ?_
      refine mw_sub [3, 2, 1, 0] rfl ?_
      exact T_X12_order_248 C 20000 v4 v6 1 _ _ hF
    · refine mw_icmp_ge_f (tgt := 209) C dX12_order_51 (by decide) g1 g2 c3 ?_
      refine mw_iconst C dX12_order_54 ?_
      refine mw_istore [(4, iv 0), (0, rfv (xd (zX Z)) 141), (1, iv x1), (2, iv x2), (3, iv x3)] C dX12_order_55 (by decide) rfl ?_
      refine mw_sub [1, 2, 3, 4, 0] rfl ?_
      exact T_X12_order_57 C (F_X12_order_41 n) ih 20000 x1 x2 x3 0 _ _ hF
def F_X12_order_0 (x1 : Int) (x2 : Int) (h : MH) : Option (Int × MH) :=
  ck (in32 x1) <|
  if x1 < 0 then
    F_X12_order_33 h
  else
    ck (in32 (shl32 1 (h 142 1))) <|
    if (shl32 1 (h 142 1)) ≤ x1 then
      F_X12_order_33 h
    else
      (F_X12_isSort x2 h).bind fun q5 =>
      ck (in32 q5.1) <|
      if q5.1 = 0 then
        F_X12_order_33 q5.2
      else
        ck (in32 (land32 (shr32 x1 x2) 1)) <|
        if (land32 (shr32 x1 x2) 1) ≠ 0 then
          F_X12_order_41 20000 x1 x2 0 q5.2
        else
          F_X12_order_33 q5.2
set_option maxRecDepth 100000 in
theorem T_X12_order_0 {Z : ZT} (C : Cx Z cX12_order 8 RX12 2 (some .int)) (x1 : Int) (x2 : Int) (h : MH) (t : (Int × MH)) (hF : F_X12_order_0 x1 x2 h = some t) : MW Z (Qm Z (some (iv t.1)) zN zG t.2 0 0) 8 zN zG h 0 0 0 [(0, rfv (xd (zX Z)) 141), (1, iv x1), (2, iv x2)] [] := by
  unfold F_X12_order_0 at hF
  refine mw_iload_n 1 C dX12_order_0 rfl rfl ?_
  obtain ⟨g1, hF⟩ := ck_some hF
  rcases ite_some hF with ⟨c2, hF⟩ | ⟨c2, hF⟩
  · refine mw_if_lt_t (tgt := 33) C dX12_order_1 (by decide) g1 c2 ?_
    refine mw_sub [0] rfl ?_
    exact T_X12_order_33 C _ _ hF
  · refine mw_if_lt_f (tgt := 33) C dX12_order_1 (by decide) g1 c2 ?_
    refine mw_iload_n 1 C dX12_order_4 rfl rfl ?_
    refine mw_iconst C dX12_order_5 ?_
    refine mw_aload_n 0 C dX12_order_6 rfl rfl ?_
    refine mw_get (k := 0) (T := TX12) (v := rfv (xd (zX Z)) 142) C dX12_order_7 zn141 zk141 (by decide) rfl inX12 (by decide) wd889 rfl (zfv_r rfl zg_141_0) ?_
    refine mw_iconst C dX12_order_10 ?_
    refine mw_lald C dX12_order_11 zn142 zk142 (by decide) (by decide) ?_
    refine mw_l2i C dX12_order_12 ?_
    refine mw_ishl C dX12_order_13 ?_
    obtain ⟨g3, hF⟩ := ck_some hF
    rcases ite_some hF with ⟨c4, hF⟩ | ⟨c4, hF⟩
    · refine mw_icmp_ge_t (tgt := 33) C dX12_order_14 (by decide) g1 g3 c4 ?_
      refine mw_sub [0] rfl ?_
      exact T_X12_order_33 C _ _ hF
    · refine mw_icmp_ge_f (tgt := 33) C dX12_order_14 (by decide) g1 g3 c4 ?_
      refine mw_aload_n 0 C dX12_order_17 rfl rfl ?_
      refine mw_iload_n 2 C dX12_order_18 rfl rfl ?_
      obtain ⟨q5, hq5, hF⟩ := bind_some hF
      refine mw_callV (c := 141) [iv x2] [] C dX12_order_19 (T_X12_isSort (zl Z) (zX Z) x2 _ _ hq5) rfl zn141 zk141 (by decide) rfl wd1108 wd1109 wd1385 wd14 wd1110 hd_X12_isSort rfl (by decide) (by decide) (Nat.le_of_ble_eq_true rfl) ⟨Nat.zero_le _, Nat.zero_le _⟩ ?_
      obtain ⟨g6, hF⟩ := ck_some hF
      rcases ite_some hF with ⟨c7, hF⟩ | ⟨c7, hF⟩
      · refine mw_if_eq_t (tgt := 33) C dX12_order_22 (by decide) g6 c7 ?_
        refine mw_sub [0] rfl ?_
        exact T_X12_order_33 C _ _ hF
      · refine mw_if_eq_f (tgt := 33) C dX12_order_22 (by decide) g6 c7 ?_
        refine mw_iload_n 1 C dX12_order_25 rfl rfl ?_
        refine mw_iload_n 2 C dX12_order_26 rfl rfl ?_
        refine mw_ishr C dX12_order_27 ?_
        refine mw_iconst C dX12_order_28 ?_
        refine mw_iand C dX12_order_29 ?_
        obtain ⟨g8, hF⟩ := ck_some hF
        rcases ite_some hF with ⟨c9, hF⟩ | ⟨c9, hF⟩
        · refine mw_if_ne_t (tgt := 39) C dX12_order_30 (by decide) g8 c9 ?_
          refine mw_iconst C dX12_order_39 ?_
          refine mw_istore_n [(3, iv 0), (0, rfv (xd (zX Z)) 141), (1, iv x1), (2, iv x2)] C dX12_order_40 rfl (by decide) rfl ?_
          refine mw_sub [1, 2, 3, 0] rfl ?_
          exact T_X12_order_41 C 20000 x1 x2 0 _ _ hF
        · refine mw_if_ne_f (tgt := 39) C dX12_order_30 (by decide) g8 c9 ?_
          refine mw_sub [0] rfl ?_
          exact T_X12_order_33 C _ _ hF
def F_X12_order (x1 : Int) (x2 : Int) (h : MH) : Option (Int × MH) := F_X12_order_0 x1 x2 h
theorem T_X12_order (l : Launch) (X : XT) (x1 : Int) (x2 : Int) (h : MH) (t : (Int × MH)) (hF : F_X12_order x1 x2 h = some t) : Ct l X yX12_order cX12_order 8 (some .int) 2 [rfv (xd X) 141, iv x1, iv x2] zN zG h (some (iv t.1)) zN zG t.2 0 0 := by
  refine Ct.head (by decide) (Nat.le_of_ble_eq_true rfl) (fun Z hX hl _ _ _ C => ?_)
  subst hX
  subst hl
  exact (T_X12_order_0 C x1 x2 _ _ hF)
/-! BottleLineModel.ordered(I)I -/
def F_X12_ordered_0 (x1 : Int) (h : MH) : Option (Int × MH) :=
  ck (in32 x1) <|
  if 0 ≤ x1 then
    ck (in32 (h 141 45)) <|
    if x1 < (h 141 45) then
      ck (0 ≤ x1 ∧ x1 < 7) <|
      ck (in32 (h 162 x1.toNat)) <|
      (F_X12_gives (h 162 x1.toNat) h).bind fun q7 =>
      some (q7.1, q7.2)
    else
      (F_X12_refuse 6 h).bind fun q8 =>
      some (q8.1, q8.2)
  else
    (F_X12_refuse 1 h).bind fun q9 =>
    some (q9.1, q9.2)
set_option maxRecDepth 100000 in
theorem T_X12_ordered_0 {Z : ZT} (C : Cx Z cX12_ordered 2 RX12 2 (some .int)) (x1 : Int) (h : MH) (t : (Int × MH)) (hF : F_X12_ordered_0 x1 h = some t) : MW Z (Qm Z (some (iv t.1)) zN zG t.2 0 0) 2 zN zG h 0 0 0 [(0, rfv (xd (zX Z)) 141), (1, iv x1)] [] := by
  unfold F_X12_ordered_0 at hF
  refine mw_iload_n 1 C dX12_ordered_0 rfl rfl ?_
  obtain ⟨g1, hF⟩ := ck_some hF
  rcases ite_some hF with ⟨c2, hF⟩ | ⟨c2, hF⟩
  · refine mw_if_ge_t (tgt := 12) C dX12_ordered_1 (by decide) g1 c2 ?_
    refine mw_iload_n 1 C dX12_ordered_12 rfl rfl ?_
    refine mw_aload_n 0 C dX12_ordered_13 rfl rfl ?_
    refine mw_get (k := 45) (T := TX12) (v := iv (h 141 45)) C dX12_ordered_14 zn141 zk141 (by decide) rfl inX12 (by decide) wd934 rfl rfl ?_
    obtain ⟨g3, hF⟩ := ck_some hF
    rcases ite_some hF with ⟨c4, hF⟩ | ⟨c4, hF⟩
    · refine mw_icmp_lt_t (tgt := 29) C dX12_ordered_17 (by decide) g1 g3 c4 ?_
      refine mw_aload_n 0 C dX12_ordered_29 rfl rfl ?_
      refine mw_aload_n 0 C dX12_ordered_30 rfl rfl ?_
      refine mw_get (k := 44) (T := TX12) (v := rfv (xd (zX Z)) 162) C dX12_ordered_31 zn141 zk141 (by decide) rfl inX12 (by decide) wd933 rfl (zfv_r rfl zg_141_44) ?_
      refine mw_iload_n 1 C dX12_ordered_34 rfl rfl ?_
      obtain ⟨g5, hF⟩ := ck_some hF
      refine mw_iald C dX12_ordered_35 zn162 zk162 (by decide) g5 ?_
      obtain ⟨g6, hF⟩ := ck_some hF
      refine mw_i2l C dX12_ordered_36 g6 ?_
      obtain ⟨q7, hq7, hF⟩ := bind_some hF
      refine mw_callV (c := 141) [lvv (h 162 x1.toNat)] [] C dX12_ordered_37 (T_X12_gives (zl Z) (zX Z) (h 162 x1.toNat) _ _ hq7) rfl zn141 zk141 (by decide) rfl wd1069 wd1070 wd1379 wd14 wd1071 hd_X12_gives rfl (by decide) (by decide) (Nat.le_of_ble_eq_true rfl) ⟨Nat.zero_le _, Nat.zero_le _⟩ ?_
      cases hF
      exact mw_iret C dX12_ordered_40 rfl rfl
    · refine mw_icmp_lt_f (tgt := 29) C dX12_ordered_17 (by decide) g1 g3 c4 ?_
      refine mw_aload_n 0 C dX12_ordered_20 rfl rfl ?_
      refine mw_bipush C dX12_ordered_21 bp_6 ?_
      obtain ⟨q8, hq8, hF⟩ := bind_some hF
      refine mw_callV (c := 141) [iv 6] [] C dX12_ordered_23 (T_X12_refuse (zl Z) (zX Z) 6 _ _ hq8) rfl zn141 zk141 (by decide) rfl wd997 wd998 wd1360 wd14 wd999 hd_X12_refuse rfl (by decide) (by decide) (Nat.le_of_ble_eq_true rfl) ⟨Nat.zero_le _, Nat.zero_le _⟩ ?_
      refine mw_goto (tgt := 40) C dX12_ordered_26 (by decide) ?_
      cases hF
      exact mw_iret C dX12_ordered_40 rfl rfl
  · refine mw_if_ge_f (tgt := 12) C dX12_ordered_1 (by decide) g1 c2 ?_
    refine mw_aload_n 0 C dX12_ordered_4 rfl rfl ?_
    refine mw_iconst C dX12_ordered_5 ?_
    obtain ⟨q9, hq9, hF⟩ := bind_some hF
    refine mw_callV (c := 141) [iv 1] [] C dX12_ordered_6 (T_X12_refuse (zl Z) (zX Z) 1 _ _ hq9) rfl zn141 zk141 (by decide) rfl wd997 wd998 wd1360 wd14 wd999 hd_X12_refuse rfl (by decide) (by decide) (Nat.le_of_ble_eq_true rfl) ⟨Nat.zero_le _, Nat.zero_le _⟩ ?_
    refine mw_goto (tgt := 40) C dX12_ordered_9 (by decide) ?_
    cases hF
    exact mw_iret C dX12_ordered_40 rfl rfl
def F_X12_ordered (x1 : Int) (h : MH) : Option (Int × MH) := F_X12_ordered_0 x1 h
theorem T_X12_ordered (l : Launch) (X : XT) (x1 : Int) (h : MH) (t : (Int × MH)) (hF : F_X12_ordered x1 h = some t) : Ct l X yX12_ordered cX12_ordered 2 (some .int) 2 [rfv (xd X) 141, iv x1] zN zG h (some (iv t.1)) zN zG t.2 0 0 := by
  refine Ct.head (by decide) (Nat.le_of_ble_eq_true rfl) (fun Z hX hl _ _ _ C => ?_)
  subst hX
  subst hl
  exact (T_X12_ordered_0 C x1 _ _ hF)
/-! BottleLineModel.closes(I)I -/
def F_X12_closes_32 : Nat → Int → Int → Int → MH → Option (Int × MH)
  | 0, _, _, _, _ => none
  | n + 1, x1, x2, x4, h =>
    ck (in32 x4) <|
    ck (in32 x2) <|
    if x2 ≤ x4 then
      (F_X12_gives (-1) h).bind fun q4 =>
      some (q4.1, q4.2)
    else
      nx ((60 * x1) + (4 * x4)) fun v5 =>
      ck (0 ≤ v5 ∧ v5 < 240) <|
      ck (0 ≤ (v5 + 1) ∧ (v5 + 1) < 240) <|
      ck (0 ≤ (v5 + 2) ∧ (v5 + 2) < 240) <|
      ck (0 ≤ (v5 + 3) ∧ (v5 + 3) < 240) <|
      ck (in64 (h 145 v5.toNat)) <|
      ck (in64 (((h 145 (v5 + 1).toNat) + (h 145 (v5 + 2).toNat)) + (h 145 (v5 + 3).toNat))) <|
      if (h 145 v5.toNat) = (((h 145 (v5 + 1).toNat) + (h 145 (v5 + 2).toNat)) + (h 145 (v5 + 3).toNat)) then
        F_X12_closes_32 n x1 x2 (x4 + 1) h
      else
        (F_X12_gives x4 h).bind fun q13 =>
        some (q13.1, q13.2)
set_option maxRecDepth 100000 in
theorem T_X12_closes_32 {Z : ZT} (C : Cx Z cX12_closes 6 RX12 3 (some .int)) : ∀ (n : Nat) (x1 : Int) (x2 : Int) (x4 : Int) (h : MH) (t : (Int × MH)), F_X12_closes_32 n x1 x2 x4 h = some t → MW Z (Qm Z (some (iv t.1)) zN zG t.2 0 0) 6 zN zG h 0 0 32 [(0, rfv (xd (zX Z)) 141), (1, iv x1), (2, iv x2), (4, iv x4)] [] := by
  intro n
  induction n with
  | zero =>
    intros
    rename_i hF
    exact absurd hF (by intro q; cases q)
  | succ n ih =>
    intro x1 x2 x4 h t hF
    rw [F_X12_closes_32] at hF
    refine mw_iload 3 C dX12_closes_32 rfl ?_
    refine mw_iload_n 2 C dX12_closes_34 rfl rfl ?_
    obtain ⟨g1, hF⟩ := ck_some hF
    obtain ⟨g2, hF⟩ := ck_some hF
    rcases ite_some hF with ⟨c3, hF⟩ | ⟨c3, hF⟩
    · refine mw_icmp_ge_t (tgt := 103) C dX12_closes_35 (by decide) g1 g2 c3 ?_
      refine mw_aload_n 0 C dX12_closes_103 rfl rfl ?_
      refine mw_ldc2 (a := (-1)) C dX12_closes_104 wd977 rfl ?_
      obtain ⟨q4, hq4, hF⟩ := bind_some hF
      refine mw_callV (c := 141) [lvv (-1)] [] C dX12_closes_107 (T_X12_gives (zl Z) (zX Z) (-1) _ _ hq4) rfl zn141 zk141 (by decide) rfl wd1069 wd1070 wd1379 wd14 wd1071 hd_X12_gives rfl (by decide) (by decide) (Nat.le_of_ble_eq_true rfl) ⟨Nat.zero_le _, Nat.zero_le _⟩ ?_
      cases hF
      exact mw_iret C dX12_closes_110 rfl rfl
    · refine mw_icmp_ge_f (tgt := 103) C dX12_closes_35 (by decide) g1 g2 c3 ?_
      refine mw_bipush C dX12_closes_38 bp_60 ?_
      refine mw_iload_n 1 C dX12_closes_40 rfl rfl ?_
      refine mw_imul C dX12_closes_41 ?_
      refine mw_iconst C dX12_closes_42 ?_
      refine mw_iload 3 C dX12_closes_43 rfl ?_
      refine mw_imul C dX12_closes_45 ?_
      refine mw_iadd C dX12_closes_46 ?_
      obtain ⟨v5, ev5, hF⟩ := nx_some hF
      refine mw_ti ev5 ?_
      refine mw_istore [(5, iv v5), (0, rfv (xd (zX Z)) 141), (1, iv x1), (2, iv x2), (4, iv x4)] C dX12_closes_47 (by decide) rfl ?_
      refine mw_aload_n 1 C dX12_closes_49 rfl rfl ?_
      refine mw_get (k := 6) (T := TX12) (v := rfv (xd (zX Z)) 145) C dX12_closes_50 zn141 zk141 (by decide) rfl inX12 (by decide) wd895 rfl (zfv_r rfl zg_141_6) ?_
      refine mw_iload 0 C dX12_closes_53 rfl ?_
      obtain ⟨g6, hF⟩ := ck_some hF
      refine mw_lald C dX12_closes_55 zn145 zk145 (by decide) g6 ?_
      refine mw_aload_n 1 C dX12_closes_56 rfl rfl ?_
      refine mw_get (k := 6) (T := TX12) (v := rfv (xd (zX Z)) 145) C dX12_closes_57 zn141 zk141 (by decide) rfl inX12 (by decide) wd895 rfl (zfv_r rfl zg_141_6) ?_
      refine mw_iload 0 C dX12_closes_60 rfl ?_
      refine mw_iconst C dX12_closes_62 ?_
      refine mw_iadd C dX12_closes_63 ?_
      obtain ⟨g7, hF⟩ := ck_some hF
      refine mw_lald C dX12_closes_64 zn145 zk145 (by decide) g7 ?_
      refine mw_aload_n 1 C dX12_closes_65 rfl rfl ?_
      refine mw_get (k := 6) (T := TX12) (v := rfv (xd (zX Z)) 145) C dX12_closes_66 zn141 zk141 (by decide) rfl inX12 (by decide) wd895 rfl (zfv_r rfl zg_141_6) ?_
      refine mw_iload 0 C dX12_closes_69 rfl ?_
      refine mw_iconst C dX12_closes_71 ?_
      refine mw_iadd C dX12_closes_72 ?_
      obtain ⟨g8, hF⟩ := ck_some hF
      refine mw_lald C dX12_closes_73 zn145 zk145 (by decide) g8 ?_
      refine mw_ladd C dX12_closes_74 ?_
      refine mw_aload_n 1 C dX12_closes_75 rfl rfl ?_
      refine mw_get (k := 6) (T := TX12) (v := rfv (xd (zX Z)) 145) C dX12_closes_76 zn141 zk141 (by decide) rfl inX12 (by decide) wd895 rfl (zfv_r rfl zg_141_6) ?_
      refine mw_iload 0 C dX12_closes_79 rfl ?_
      refine mw_iconst C dX12_closes_81 ?_
      refine mw_iadd C dX12_closes_82 ?_
      obtain ⟨g9, hF⟩ := ck_some hF
      refine mw_lald C dX12_closes_83 zn145 zk145 (by decide) g9 ?_
      refine mw_ladd C dX12_closes_84 ?_
      obtain ⟨g10, hF⟩ := ck_some hF
      obtain ⟨g11, hF⟩ := ck_some hF
      rcases ite_some hF with ⟨c12, hF⟩ | ⟨c12, hF⟩
      · refine mw_lcmp_eq_t (tgt := 97) C dX12_closes_85 dX12_closes_86 (by decide) g10 g11 c12 ?_
        refine mw_iinc 4 [(4, iv (x4 + 1)), (5, iv v5), (0, rfv (xd (zX Z)) 141), (1, iv x1), (2, iv x2)] C dX12_closes_97 rfl (by decide) rfl ?_
        refine mw_goto (tgt := 32) C dX12_closes_100 (by decide) ?_
        refine mw_sub [2, 3, 4, 0] rfl ?_
        exact ih x1 x2 (x4 + 1) _ _ hF
      · refine mw_lcmp_eq_f (tgt := 97) C dX12_closes_85 dX12_closes_86 (by decide) g10 g11 c12 ?_
        refine mw_aload_n 1 C dX12_closes_89 rfl rfl ?_
        refine mw_iload 4 C dX12_closes_90 rfl ?_
        refine mw_i2l C dX12_closes_92 g1 ?_
        obtain ⟨q13, hq13, hF⟩ := bind_some hF
        refine mw_callV (c := 141) [lvv x4] [] C dX12_closes_93 (T_X12_gives (zl Z) (zX Z) x4 _ _ hq13) rfl zn141 zk141 (by decide) rfl wd1069 wd1070 wd1379 wd14 wd1071 hd_X12_gives rfl (by decide) (by decide) (Nat.le_of_ble_eq_true rfl) ⟨Nat.zero_le _, Nat.zero_le _⟩ ?_
        cases hF
        exact mw_iret C dX12_closes_96 rfl rfl
def F_X12_closes_0 (x1 : Int) (h : MH) : Option (Int × MH) :=
  (F_X12_tables h).bind fun q1 =>
  (F_X12_wrongRow 1 x1 (4 * q1.1) 0 1000000 q1.2).bind fun q2 =>
  ck (in32 q2.1) <|
  if q2.1 ≤ 0 then
    F_X12_closes_32 20000 x1 q1.1 0 q2.2
  else
    (F_X12_refuse q2.1 q2.2).bind fun q5 =>
    some (q5.1, q5.2)
set_option maxRecDepth 100000 in
theorem T_X12_closes_0 {Z : ZT} (C : Cx Z cX12_closes 6 RX12 3 (some .int)) (x1 : Int) (h : MH) (t : (Int × MH)) (hF : F_X12_closes_0 x1 h = some t) : MW Z (Qm Z (some (iv t.1)) zN zG t.2 0 0) 6 zN zG h 0 0 0 [(0, rfv (xd (zX Z)) 141), (1, iv x1)] [] := by
  unfold F_X12_closes_0 at hF
  refine mw_aload_n 0 C dX12_closes_0 rfl rfl ?_
  obtain ⟨q1, hq1, hF⟩ := bind_some hF
  refine mw_callV (c := 141) [] [] C dX12_closes_1 (T_X12_tables (zl Z) (zX Z) _ _ hq1) rfl zn141 zk141 (by decide) rfl wd1100 wd1101 wd1384 wd14 wd1102 hd_X12_tables rfl (by decide) (by decide) (Nat.le_of_ble_eq_true rfl) ⟨Nat.zero_le _, Nat.zero_le _⟩ ?_
  refine mw_istore_n [(2, iv q1.1), (0, rfv (xd (zX Z)) 141), (1, iv x1)] C dX12_closes_4 rfl (by decide) rfl ?_
  refine mw_aload_n 1 C dX12_closes_5 rfl rfl ?_
  refine mw_iconst C dX12_closes_6 ?_
  refine mw_iload_n 2 C dX12_closes_7 rfl rfl ?_
  refine mw_iconst C dX12_closes_8 ?_
  refine mw_iload_n 0 C dX12_closes_9 rfl rfl ?_
  refine mw_imul C dX12_closes_10 ?_
  refine mw_lconst (a := 0) C dX12_closes_11 lc_0 ?_
  refine mw_ldc2 (a := 1000000) C dX12_closes_12 wd1271 rfl ?_
  obtain ⟨q2, hq2, hF⟩ := bind_some hF
  refine mw_callV (c := 141) [iv 1, iv x1, iv (4 * q1.1), lvv 0, lvv 1000000] [] C dX12_closes_15 (T_X12_wrongRow (zl Z) (zX Z) 1 x1 (4 * q1.1) 0 1000000 _ _ hq2) rfl zn141 zk141 (by decide) rfl wd1226 wd1227 wd1398 wd14 wd1228 hd_X12_wrongRow rfl (by decide) (by decide) (Nat.le_of_ble_eq_true rfl) ⟨Nat.zero_le _, Nat.zero_le _⟩ ?_
  refine mw_istore_n [(3, iv q2.1), (2, iv q1.1), (0, rfv (xd (zX Z)) 141), (1, iv x1)] C dX12_closes_18 rfl (by decide) rfl ?_
  refine mw_iload_n 0 C dX12_closes_19 rfl rfl ?_
  obtain ⟨g3, hF⟩ := ck_some hF
  rcases ite_some hF with ⟨c4, hF⟩ | ⟨c4, hF⟩
  · refine mw_if_le_t (tgt := 29) C dX12_closes_20 (by decide) g3 c4 ?_
    refine mw_iconst C dX12_closes_29 ?_
    refine mw_istore [(4, iv 0), (3, iv q2.1), (2, iv q1.1), (0, rfv (xd (zX Z)) 141), (1, iv x1)] C dX12_closes_30 (by decide) rfl ?_
    refine mw_sub [3, 4, 2, 0] rfl ?_
    exact T_X12_closes_32 C 20000 x1 q1.1 0 _ _ hF
  · refine mw_if_le_f (tgt := 29) C dX12_closes_20 (by decide) g3 c4 ?_
    refine mw_aload_n 2 C dX12_closes_23 rfl rfl ?_
    refine mw_iload_n 0 C dX12_closes_24 rfl rfl ?_
    obtain ⟨q5, hq5, hF⟩ := bind_some hF
    refine mw_callV (c := 141) [iv q2.1] [] C dX12_closes_25 (T_X12_refuse (zl Z) (zX Z) q2.1 _ _ hq5) rfl zn141 zk141 (by decide) rfl wd997 wd998 wd1360 wd14 wd999 hd_X12_refuse rfl (by decide) (by decide) (Nat.le_of_ble_eq_true rfl) ⟨Nat.zero_le _, Nat.zero_le _⟩ ?_
    cases hF
    exact mw_iret C dX12_closes_28 rfl rfl
def F_X12_closes (x1 : Int) (h : MH) : Option (Int × MH) := F_X12_closes_0 x1 h
theorem T_X12_closes (l : Launch) (X : XT) (x1 : Int) (h : MH) (t : (Int × MH)) (hF : F_X12_closes x1 h = some t) : Ct l X yX12_closes cX12_closes 6 (some .int) 3 [rfv (xd X) 141, iv x1] zN zG h (some (iv t.1)) zN zG t.2 0 0 := by
  refine Ct.head (by decide) (Nat.le_of_ble_eq_true rfl) (fun Z hX hl _ _ _ C => ?_)
  subst hX
  subst hl
  exact (T_X12_closes_0 C x1 _ _ hF)
/-! BottleLineModel.recall(IIIIII)I -/
def F_X12_recall_53 (h : MH) : Option (Int × MH) :=
  (F_X12_refuse 1 h).bind fun q1 =>
  some (q1.1, q1.2)
set_option maxRecDepth 100000 in
theorem T_X12_recall_53 {Z : ZT} (C : Cx Z cX12_recall 12 RX12 2 (some .int)) (h : MH) (t : (Int × MH)) (hF : F_X12_recall_53 h = some t) : MW Z (Qm Z (some (iv t.1)) zN zG t.2 0 0) 12 zN zG h 0 0 53 [(0, rfv (xd (zX Z)) 141)] [] := by
  unfold F_X12_recall_53 at hF
  refine mw_aload_n 0 C dX12_recall_53 rfl rfl ?_
  refine mw_iconst C dX12_recall_54 ?_
  obtain ⟨q1, hq1, hF⟩ := bind_some hF
  refine mw_callV (c := 141) [iv 1] [] C dX12_recall_55 (T_X12_refuse (zl Z) (zX Z) 1 _ _ hq1) rfl zn141 zk141 (by decide) rfl wd997 wd998 wd1360 wd14 wd999 hd_X12_refuse rfl (by decide) (by decide) (Nat.le_of_ble_eq_true rfl) ⟨Nat.zero_le _, Nat.zero_le _⟩ ?_
  cases hF
  exact mw_iret C dX12_recall_58 rfl rfl
def F_X12_recall_169 (s1 : Int) (h : MH) : Option (Int × MH) :=
  (F_X12_gives s1 h).bind fun q1 =>
  some (q1.1, q1.2)
set_option maxRecDepth 100000 in
theorem T_X12_recall_169 {Z : ZT} (C : Cx Z cX12_recall 12 RX12 2 (some .int)) (s1 : Int) (h : MH) (t : (Int × MH)) (hF : F_X12_recall_169 s1 h = some t) : MW Z (Qm Z (some (iv t.1)) zN zG t.2 0 0) 12 zN zG h 0 0 169 [] [lvv s1, rfv (xd (zX Z)) 141] := by
  unfold F_X12_recall_169 at hF
  obtain ⟨q1, hq1, hF⟩ := bind_some hF
  refine mw_callV (c := 141) [lvv s1] [] C dX12_recall_169 (T_X12_gives (zl Z) (zX Z) s1 _ _ hq1) rfl zn141 zk141 (by decide) rfl wd1069 wd1070 wd1379 wd14 wd1071 hd_X12_gives rfl (by decide) (by decide) (Nat.le_of_ble_eq_true rfl) ⟨Nat.zero_le _, Nat.zero_le _⟩ ?_
  cases hF
  exact mw_iret C dX12_recall_172 rfl rfl
def F_X12_recall_133 (s1 : Int) (h : MH) : Option (Int × MH) :=
  (F_X12_gives s1 h).bind fun q1 =>
  some (q1.1, q1.2)
set_option maxRecDepth 100000 in
theorem T_X12_recall_133 {Z : ZT} (C : Cx Z cX12_recall 12 RX12 2 (some .int)) (s1 : Int) (h : MH) (t : (Int × MH)) (hF : F_X12_recall_133 s1 h = some t) : MW Z (Qm Z (some (iv t.1)) zN zG t.2 0 0) 12 zN zG h 0 0 133 [] [lvv s1, rfv (xd (zX Z)) 141] := by
  unfold F_X12_recall_133 at hF
  obtain ⟨q1, hq1, hF⟩ := bind_some hF
  refine mw_callV (c := 141) [lvv s1] [] C dX12_recall_133 (T_X12_gives (zl Z) (zX Z) s1 _ _ hq1) rfl zn141 zk141 (by decide) rfl wd1069 wd1070 wd1379 wd14 wd1071 hd_X12_gives rfl (by decide) (by decide) (Nat.le_of_ble_eq_true rfl) ⟨Nat.zero_le _, Nat.zero_le _⟩ ?_
  cases hF
  exact mw_iret C dX12_recall_136 rfl rfl
def F_X12_recall_0 (x1 : Int) (x2 : Int) (x3 : Int) (x4 : Int) (x5 : Int) (x6 : Int) (h : MH) : Option (Int × MH) :=
  ck (in32 x1) <|
  (F_X12_isFrom x1 1 99 h).bind fun q2 =>
  ck (in32 q2.1) <|
  if q2.1 = 0 then
    F_X12_recall_53 q2.2
  else
    ck (in32 x4) <|
    if x4 < 0 then
      F_X12_recall_53 q2.2
    else
      ck (in32 x2) <|
      if x2 < x4 then
        F_X12_recall_53 q2.2
      else
        ck (in32 x3) <|
        if x3 < x2 then
          F_X12_recall_53 q2.2
        else
          ck (in32 x5) <|
          if x5 < x3 then
            F_X12_recall_53 q2.2
          else
            if 9999 < x5 then
              F_X12_recall_53 q2.2
            else
              ck (in32 x6) <|
              if x6 < 0 then
                F_X12_recall_53 q2.2
              else
                if x6 ≤ 3 then
                  ck (x1 ≠ 0) <|
                  nx (Int.tdiv x2 x1) fun v18 =>
                  ck (x1 ≠ 0) <|
                  nx (Int.tdiv x3 x1) fun v20 =>
                  ck (x1 ≠ 0) <|
                  nx (Int.tdiv x4 x1) fun v22 =>
                  ck (x1 ≠ 0) <|
                  nx (Int.tdiv x5 x1) fun v24 =>
                  nx (((v18 - v22) + v24) - v20) fun v25 =>
                  if x6 ≠ 3 then
                    if x6 ≠ 0 then
                      if x6 ≠ 1 then
                        ck (in32 v25) <|
                        F_X12_recall_169 v25 q2.2
                      else
                        ck (in32 v18) <|
                        F_X12_recall_169 v18 q2.2
                    else
                      ck (in32 ((v20 - v18) + 1)) <|
                      F_X12_recall_169 ((v20 - v18) + 1) q2.2
                  else
                    ck (in32 v25) <|
                    if v25 ≠ 0 then
                      ck (in32 v22) <|
                      ck (in32 v18) <|
                      if v18 ≤ v22 then
                        ck (in32 (v20 + 1)) <|
                        F_X12_recall_133 (v20 + 1) q2.2
                      else
                        F_X12_recall_133 v22 q2.2
                    else
                      (F_X12_refuse 6 q2.2).bind fun q38 =>
                      some (q38.1, q38.2)
                else
                  F_X12_recall_53 q2.2
set_option maxRecDepth 100000 in
theorem T_X12_recall_0 {Z : ZT} (C : Cx Z cX12_recall 12 RX12 2 (some .int)) (x1 : Int) (x2 : Int) (x3 : Int) (x4 : Int) (x5 : Int) (x6 : Int) (h : MH) (t : (Int × MH)) (hF : F_X12_recall_0 x1 x2 x3 x4 x5 x6 h = some t) : MW Z (Qm Z (some (iv t.1)) zN zG t.2 0 0) 12 zN zG h 0 0 0 [(0, rfv (xd (zX Z)) 141), (1, iv x1), (2, iv x2), (3, iv x3), (4, iv x4), (5, iv x5), (6, iv x6)] [] := by
  unfold F_X12_recall_0 at hF
  refine mw_iload_n 1 C dX12_recall_0 rfl rfl ?_
  obtain ⟨g1, hF⟩ := ck_some hF
  refine mw_i2l C dX12_recall_1 g1 ?_
  refine mw_lconst (a := 1) C dX12_recall_2 lc_1 ?_
  refine mw_ldc2 (a := 99) C dX12_recall_3 wd1167 rfl ?_
  obtain ⟨q2, hq2, hF⟩ := bind_some hF
  refine mw_callS [lvv x1, lvv 1, lvv 99] [] C dX12_recall_6 (T_X12_isFrom (zl Z) (zX Z) x1 1 99 _ _ hq2) rfl wd1116 wd1117 wd14 wd1118 hd_X12_isFrom rfl (by decide) (by decide) (Nat.le_of_ble_eq_true rfl) ⟨Nat.zero_le _, Nat.zero_le _⟩ ?_
  obtain ⟨g3, hF⟩ := ck_some hF
  rcases ite_some hF with ⟨c4, hF⟩ | ⟨c4, hF⟩
  · refine mw_if_eq_t (tgt := 53) C dX12_recall_9 (by decide) g3 c4 ?_
    refine mw_sub [0] rfl ?_
    exact T_X12_recall_53 C _ _ hF
  · refine mw_if_eq_f (tgt := 53) C dX12_recall_9 (by decide) g3 c4 ?_
    refine mw_iload 4 C dX12_recall_12 rfl ?_
    obtain ⟨g5, hF⟩ := ck_some hF
    rcases ite_some hF with ⟨c6, hF⟩ | ⟨c6, hF⟩
    · refine mw_if_lt_t (tgt := 53) C dX12_recall_14 (by decide) g5 c6 ?_
      refine mw_sub [0] rfl ?_
      exact T_X12_recall_53 C _ _ hF
    · refine mw_if_lt_f (tgt := 53) C dX12_recall_14 (by decide) g5 c6 ?_
      refine mw_iload 4 C dX12_recall_17 rfl ?_
      refine mw_iload_n 2 C dX12_recall_19 rfl rfl ?_
      obtain ⟨g7, hF⟩ := ck_some hF
      rcases ite_some hF with ⟨c8, hF⟩ | ⟨c8, hF⟩
      · refine mw_icmp_gt_t (tgt := 53) C dX12_recall_20 (by decide) g5 g7 c8 ?_
        refine mw_sub [0] rfl ?_
        exact T_X12_recall_53 C _ _ hF
      · refine mw_icmp_gt_f (tgt := 53) C dX12_recall_20 (by decide) g5 g7 c8 ?_
        refine mw_iload_n 2 C dX12_recall_23 rfl rfl ?_
        refine mw_iload_n 3 C dX12_recall_24 rfl rfl ?_
        obtain ⟨g9, hF⟩ := ck_some hF
        rcases ite_some hF with ⟨c10, hF⟩ | ⟨c10, hF⟩
        · refine mw_icmp_gt_t (tgt := 53) C dX12_recall_25 (by decide) g7 g9 c10 ?_
          refine mw_sub [0] rfl ?_
          exact T_X12_recall_53 C _ _ hF
        · refine mw_icmp_gt_f (tgt := 53) C dX12_recall_25 (by decide) g7 g9 c10 ?_
          refine mw_iload_n 3 C dX12_recall_28 rfl rfl ?_
          refine mw_iload 5 C dX12_recall_29 rfl ?_
          obtain ⟨g11, hF⟩ := ck_some hF
          rcases ite_some hF with ⟨c12, hF⟩ | ⟨c12, hF⟩
          · refine mw_icmp_gt_t (tgt := 53) C dX12_recall_31 (by decide) g9 g11 c12 ?_
            refine mw_sub [0] rfl ?_
            exact T_X12_recall_53 C _ _ hF
          · refine mw_icmp_gt_f (tgt := 53) C dX12_recall_31 (by decide) g9 g11 c12 ?_
            refine mw_iload 5 C dX12_recall_34 rfl ?_
            refine mw_sipush C dX12_recall_36 sp_9999 ?_
            rcases ite_some hF with ⟨c13, hF⟩ | ⟨c13, hF⟩
            · refine mw_icmp_gt_t (tgt := 53) C dX12_recall_39 (by decide) g11 (by decide) c13 ?_
              refine mw_sub [0] rfl ?_
              exact T_X12_recall_53 C _ _ hF
            · refine mw_icmp_gt_f (tgt := 53) C dX12_recall_39 (by decide) g11 (by decide) c13 ?_
              refine mw_iload 6 C dX12_recall_42 rfl ?_
              obtain ⟨g14, hF⟩ := ck_some hF
              rcases ite_some hF with ⟨c15, hF⟩ | ⟨c15, hF⟩
              · refine mw_if_lt_t (tgt := 53) C dX12_recall_44 (by decide) g14 c15 ?_
                refine mw_sub [0] rfl ?_
                exact T_X12_recall_53 C _ _ hF
              · refine mw_if_lt_f (tgt := 53) C dX12_recall_44 (by decide) g14 c15 ?_
                refine mw_iload 6 C dX12_recall_47 rfl ?_
                refine mw_iconst C dX12_recall_49 ?_
                rcases ite_some hF with ⟨c16, hF⟩ | ⟨c16, hF⟩
                · refine mw_icmp_le_t (tgt := 59) C dX12_recall_50 (by decide) g14 (by decide) c16 ?_
                  refine mw_iload_n 2 C dX12_recall_59 rfl rfl ?_
                  refine mw_iload_n 1 C dX12_recall_60 rfl rfl ?_
                  obtain ⟨g17, hF⟩ := ck_some hF
                  refine mw_idiv C dX12_recall_61 g7 g1 g17 ?_
                  obtain ⟨v18, ev18, hF⟩ := nx_some hF
                  refine mw_ti ev18 ?_
                  refine mw_istore [(7, iv v18), (0, rfv (xd (zX Z)) 141), (1, iv x1), (2, iv x2), (3, iv x3), (4, iv x4), (5, iv x5), (6, iv x6)] C dX12_recall_62 (by decide) rfl ?_
                  refine mw_iload_n 4 C dX12_recall_64 rfl rfl ?_
                  refine mw_iload_n 2 C dX12_recall_65 rfl rfl ?_
                  obtain ⟨g19, hF⟩ := ck_some hF
                  refine mw_idiv C dX12_recall_66 g9 g1 g19 ?_
                  obtain ⟨v20, ev20, hF⟩ := nx_some hF
                  refine mw_ti ev20 ?_
                  refine mw_istore [(8, iv v20), (7, iv v18), (0, rfv (xd (zX Z)) 141), (1, iv x1), (2, iv x2), (3, iv x3), (4, iv x4), (5, iv x5), (6, iv x6)] C dX12_recall_67 (by decide) rfl ?_
                  refine mw_iload 6 C dX12_recall_69 rfl ?_
                  refine mw_iload_n 3 C dX12_recall_71 rfl rfl ?_
                  obtain ⟨g21, hF⟩ := ck_some hF
                  refine mw_idiv C dX12_recall_72 g5 g1 g21 ?_
                  obtain ⟨v22, ev22, hF⟩ := nx_some hF
                  refine mw_ti ev22 ?_
                  refine mw_istore [(9, iv v22), (8, iv v20), (7, iv v18), (0, rfv (xd (zX Z)) 141), (1, iv x1), (2, iv x2), (3, iv x3), (4, iv x4), (5, iv x5), (6, iv x6)] C dX12_recall_73 (by decide) rfl ?_
                  refine mw_iload 8 C dX12_recall_75 rfl ?_
                  refine mw_iload_n 4 C dX12_recall_77 rfl rfl ?_
                  obtain ⟨g23, hF⟩ := ck_some hF
                  refine mw_idiv C dX12_recall_78 g11 g1 g23 ?_
                  obtain ⟨v24, ev24, hF⟩ := nx_some hF
                  refine mw_ti ev24 ?_
                  refine mw_istore [(10, iv v24), (9, iv v22), (8, iv v20), (7, iv v18), (0, rfv (xd (zX Z)) 141), (1, iv x1), (2, iv x2), (3, iv x3), (4, iv x4), (5, iv x5), (6, iv x6)] C dX12_recall_79 (by decide) rfl ?_
                  refine mw_iload 3 C dX12_recall_81 rfl ?_
                  refine mw_iload 1 C dX12_recall_83 rfl ?_
                  refine mw_isub C dX12_recall_85 ?_
                  refine mw_iload 0 C dX12_recall_86 rfl ?_
                  refine mw_iadd C dX12_recall_88 ?_
                  refine mw_iload 2 C dX12_recall_89 rfl ?_
                  refine mw_isub C dX12_recall_91 ?_
                  obtain ⟨v25, ev25, hF⟩ := nx_some hF
                  refine mw_ti ev25 ?_
                  refine mw_istore [(11, iv v25), (10, iv v24), (9, iv v22), (8, iv v20), (7, iv v18), (0, rfv (xd (zX Z)) 141), (1, iv x1), (2, iv x2), (3, iv x3), (4, iv x4), (5, iv x5), (6, iv x6)] C dX12_recall_92 (by decide) rfl ?_
                  refine mw_iload 11 C dX12_recall_94 rfl ?_
                  refine mw_iconst C dX12_recall_96 ?_
                  rcases ite_some hF with ⟨c26, hF⟩ | ⟨c26, hF⟩
                  · refine mw_icmp_ne_t (tgt := 137) C dX12_recall_97 (by decide) g14 (by decide) c26 ?_
                    refine mw_aload_n 5 C dX12_recall_137 rfl rfl ?_
                    refine mw_iload 11 C dX12_recall_138 rfl ?_
                    rcases ite_some hF with ⟨c27, hF⟩ | ⟨c27, hF⟩
                    · refine mw_if_ne_t (tgt := 154) C dX12_recall_140 (by decide) g14 c27 ?_
                      refine mw_iload 11 C dX12_recall_154 rfl ?_
                      refine mw_iconst C dX12_recall_156 ?_
                      rcases ite_some hF with ⟨c28, hF⟩ | ⟨c28, hF⟩
                      · refine mw_icmp_ne_t (tgt := 166) C dX12_recall_157 (by decide) g14 (by decide) c28 ?_
                        refine mw_iload 0 C dX12_recall_166 rfl ?_
                        obtain ⟨g29, hF⟩ := ck_some hF
                        refine mw_i2l C dX12_recall_168 g29 ?_
                        refine mw_sub [] rfl ?_
                        exact T_X12_recall_169 C v25 _ _ hF
                      · refine mw_icmp_ne_f (tgt := 166) C dX12_recall_157 (by decide) g14 (by decide) c28 ?_
                        refine mw_iload 4 C dX12_recall_160 rfl ?_
                        obtain ⟨g30, hF⟩ := ck_some hF
                        refine mw_i2l C dX12_recall_162 g30 ?_
                        refine mw_goto (tgt := 169) C dX12_recall_163 (by decide) ?_
                        refine mw_sub [] rfl ?_
                        exact T_X12_recall_169 C v18 _ _ hF
                    · refine mw_if_ne_f (tgt := 154) C dX12_recall_140 (by decide) g14 c27 ?_
                      refine mw_iload 3 C dX12_recall_143 rfl ?_
                      refine mw_iload 4 C dX12_recall_145 rfl ?_
                      refine mw_isub C dX12_recall_147 ?_
                      refine mw_iconst C dX12_recall_148 ?_
                      refine mw_iadd C dX12_recall_149 ?_
                      obtain ⟨g31, hF⟩ := ck_some hF
                      refine mw_i2l C dX12_recall_150 g31 ?_
                      refine mw_goto (tgt := 169) C dX12_recall_151 (by decide) ?_
                      refine mw_sub [] rfl ?_
                      exact T_X12_recall_169 C ((v20 - v18) + 1) _ _ hF
                  · refine mw_icmp_ne_f (tgt := 137) C dX12_recall_97 (by decide) g14 (by decide) c26 ?_
                    refine mw_iload 0 C dX12_recall_100 rfl ?_
                    obtain ⟨g32, hF⟩ := ck_some hF
                    rcases ite_some hF with ⟨c33, hF⟩ | ⟨c33, hF⟩
                    · refine mw_if_ne_t (tgt := 114) C dX12_recall_102 (by decide) g32 c33 ?_
                      refine mw_aload_n 5 C dX12_recall_114 rfl rfl ?_
                      refine mw_iload 2 C dX12_recall_115 rfl ?_
                      refine mw_iload 4 C dX12_recall_117 rfl ?_
                      obtain ⟨g34, hF⟩ := ck_some hF
                      obtain ⟨g35, hF⟩ := ck_some hF
                      rcases ite_some hF with ⟨c36, hF⟩ | ⟨c36, hF⟩
                      · refine mw_icmp_ge_t (tgt := 128) C dX12_recall_119 (by decide) g34 g35 c36 ?_
                        refine mw_iload 3 C dX12_recall_128 rfl ?_
                        refine mw_iconst C dX12_recall_130 ?_
                        refine mw_iadd C dX12_recall_131 ?_
                        obtain ⟨g37, hF⟩ := ck_some hF
                        refine mw_i2l C dX12_recall_132 g37 ?_
                        refine mw_sub [] rfl ?_
                        exact T_X12_recall_133 C (v20 + 1) _ _ hF
                      · refine mw_icmp_ge_f (tgt := 128) C dX12_recall_119 (by decide) g34 g35 c36 ?_
                        refine mw_iload 2 C dX12_recall_122 rfl ?_
                        refine mw_i2l C dX12_recall_124 g34 ?_
                        refine mw_goto (tgt := 133) C dX12_recall_125 (by decide) ?_
                        refine mw_sub [] rfl ?_
                        exact T_X12_recall_133 C v22 _ _ hF
                    · refine mw_if_ne_f (tgt := 114) C dX12_recall_102 (by decide) g32 c33 ?_
                      refine mw_aload_n 5 C dX12_recall_105 rfl rfl ?_
                      refine mw_bipush C dX12_recall_106 bp_6 ?_
                      obtain ⟨q38, hq38, hF⟩ := bind_some hF
                      refine mw_callV (c := 141) [iv 6] [] C dX12_recall_108 (T_X12_refuse (zl Z) (zX Z) 6 _ _ hq38) rfl zn141 zk141 (by decide) rfl wd997 wd998 wd1360 wd14 wd999 hd_X12_refuse rfl (by decide) (by decide) (Nat.le_of_ble_eq_true rfl) ⟨Nat.zero_le _, Nat.zero_le _⟩ ?_
                      refine mw_goto (tgt := 136) C dX12_recall_111 (by decide) ?_
                      cases hF
                      exact mw_iret C dX12_recall_136 rfl rfl
                · refine mw_icmp_le_f (tgt := 59) C dX12_recall_50 (by decide) g14 (by decide) c16 ?_
                  refine mw_sub [0] rfl ?_
                  exact T_X12_recall_53 C _ _ hF
def F_X12_recall (x1 : Int) (x2 : Int) (x3 : Int) (x4 : Int) (x5 : Int) (x6 : Int) (h : MH) : Option (Int × MH) := F_X12_recall_0 x1 x2 x3 x4 x5 x6 h
theorem T_X12_recall (l : Launch) (X : XT) (x1 : Int) (x2 : Int) (x3 : Int) (x4 : Int) (x5 : Int) (x6 : Int) (h : MH) (t : (Int × MH)) (hF : F_X12_recall x1 x2 x3 x4 x5 x6 h = some t) : Ct l X yX12_recall cX12_recall 12 (some .int) 2 [rfv (xd X) 141, iv x1, iv x2, iv x3, iv x4, iv x5, iv x6] zN zG h (some (iv t.1)) zN zG t.2 0 0 := by
  refine Ct.head (by decide) (Nat.le_of_ble_eq_true rfl) (fun Z hX hl _ _ _ C => ?_)
  subst hX
  subst hl
  exact (T_X12_recall_0 C x1 x2 x3 x4 x5 x6 _ _ hF)
/-! BottleLineModel.lot(III)I -/
def F_X12_lot_128 (s1 : Int) (h : MH) : Option (Int × MH) :=
  (F_X12_refuse s1 h).bind fun q1 =>
  some (q1.1, q1.2)
set_option maxRecDepth 100000 in
theorem T_X12_lot_128 {Z : ZT} (C : Cx Z cX12_lot 8 RX12 3 (some .int)) (s1 : Int) (h : MH) (t : (Int × MH)) (hF : F_X12_lot_128 s1 h = some t) : MW Z (Qm Z (some (iv t.1)) zN zG t.2 0 0) 8 zN zG h 0 0 128 [] [iv s1, rfv (xd (zX Z)) 141] := by
  unfold F_X12_lot_128 at hF
  obtain ⟨q1, hq1, hF⟩ := bind_some hF
  refine mw_callV (c := 141) [iv s1] [] C dX12_lot_128 (T_X12_refuse (zl Z) (zX Z) s1 _ _ hq1) rfl zn141 zk141 (by decide) rfl wd997 wd998 wd1360 wd14 wd999 hd_X12_refuse rfl (by decide) (by decide) (Nat.le_of_ble_eq_true rfl) ⟨Nat.zero_le _, Nat.zero_le _⟩ ?_
  cases hF
  exact mw_iret C dX12_lot_131 rfl rfl
def F_X12_lot_116 (x4 : Int) (h : MH) : Option (Int × MH) :=
  ck (in32 x4) <|
  if x4 ≤ 0 then
    F_X12_lot_128 5 h
  else
    F_X12_lot_128 x4 h
set_option maxRecDepth 100000 in
theorem T_X12_lot_116 {Z : ZT} (C : Cx Z cX12_lot 8 RX12 3 (some .int)) (x4 : Int) (h : MH) (t : (Int × MH)) (hF : F_X12_lot_116 x4 h = some t) : MW Z (Qm Z (some (iv t.1)) zN zG t.2 0 0) 8 zN zG h 0 0 116 [(0, rfv (xd (zX Z)) 141), (4, iv x4)] [] := by
  unfold F_X12_lot_116 at hF
  refine mw_aload_n 0 C dX12_lot_116 rfl rfl ?_
  refine mw_iload 1 C dX12_lot_117 rfl ?_
  obtain ⟨g1, hF⟩ := ck_some hF
  rcases ite_some hF with ⟨c2, hF⟩ | ⟨c2, hF⟩
  · refine mw_if_le_t (tgt := 127) C dX12_lot_119 (by decide) g1 c2 ?_
    refine mw_iconst C dX12_lot_127 ?_
    refine mw_sub [] rfl ?_
    exact T_X12_lot_128 C 5 _ _ hF
  · refine mw_if_le_f (tgt := 127) C dX12_lot_119 (by decide) g1 c2 ?_
    refine mw_iload 1 C dX12_lot_122 rfl ?_
    refine mw_goto (tgt := 128) C dX12_lot_124 (by decide) ?_
    refine mw_sub [] rfl ?_
    exact T_X12_lot_128 C x4 _ _ hF
def F_X12_lot_169 (k138 : Int → Int → Int → Int → Int → MH → Option (Int × MH)) (x1 : Int) (x2 : Int) (x3 : Int) (x7 : Int) (s0 : Int) (h : MH) : Option (Int × MH) :=
  k138 x1 x2 x3 s0 (x7 + 1) h
set_option maxRecDepth 100000 in
theorem T_X12_lot_169 {Z : ZT} (C : Cx Z cX12_lot 8 RX12 3 (some .int)) (k138 : Int → Int → Int → Int → Int → MH → Option (Int × MH)) (hk138 : ∀ (x1 : Int) (x2 : Int) (x3 : Int) (x6 : Int) (x7 : Int) (h : MH) (t : (Int × MH)), k138 x1 x2 x3 x6 x7 h = some t → MW Z (Qm Z (some (iv t.1)) zN zG t.2 0 0) 8 zN zG h 0 0 138 [(0, rfv (xd (zX Z)) 141), (1, iv x1), (2, iv x2), (3, iv x3), (6, iv x6), (7, iv x7)] []) (x1 : Int) (x2 : Int) (x3 : Int) (x7 : Int) (s0 : Int) (h : MH) (t : (Int × MH)) (hF : F_X12_lot_169 k138 x1 x2 x3 x7 s0 h = some t) : MW Z (Qm Z (some (iv t.1)) zN zG t.2 0 0) 8 zN zG h 0 0 169 [(0, rfv (xd (zX Z)) 141), (1, iv x1), (2, iv x2), (3, iv x3), (7, iv x7)] [iv s0] := by
  unfold F_X12_lot_169 at hF
  refine mw_istore [(6, iv s0), (0, rfv (xd (zX Z)) 141), (1, iv x1), (2, iv x2), (3, iv x3), (7, iv x7)] C dX12_lot_169 (by decide) rfl ?_
  refine mw_iinc 5 [(7, iv (x7 + 1)), (6, iv s0), (0, rfv (xd (zX Z)) 141), (1, iv x1), (2, iv x2), (3, iv x3)] C dX12_lot_171 rfl (by decide) rfl ?_
  refine mw_goto (tgt := 138) C dX12_lot_174 (by decide) ?_
  refine mw_sub [2, 3, 4, 5, 1, 0] rfl ?_
  exact hk138 x1 x2 x3 s0 (x7 + 1) _ _ hF
def F_X12_lot_138 : Nat → Int → Int → Int → Int → Int → MH → Option (Int × MH)
  | 0, _, _, _, _, _, _ => none
  | n + 1, x1, x2, x3, x6, x7, h =>
    ck (in32 x7) <|
    ck (in32 x2) <|
    if x2 ≤ x7 then
      ck (in32 x6) <|
      if x6 ≠ (-1) then
        (F_X12_gives x6 h).bind fun q6 =>
        some (q6.1, q6.2)
      else
        (F_X12_refuse 6 h).bind fun q7 =>
        some (q7.1, q7.2)
    else
      ck (0 ≤ ((60 * x1) + x7) ∧ ((60 * x1) + x7) < 240) <|
      ck (in32 x3) <|
      ck (in64 (h 145 ((60 * x1) + x7).toNat)) <|
      if x3 < (h 145 ((60 * x1) + x7).toNat) then
        F_X12_lot_169 (F_X12_lot_138 n) x1 x2 x3 x7 x6 h
      else
        F_X12_lot_169 (F_X12_lot_138 n) x1 x2 x3 x7 x7 h
set_option maxRecDepth 100000 in
theorem T_X12_lot_138 {Z : ZT} (C : Cx Z cX12_lot 8 RX12 3 (some .int)) : ∀ (n : Nat) (x1 : Int) (x2 : Int) (x3 : Int) (x6 : Int) (x7 : Int) (h : MH) (t : (Int × MH)), F_X12_lot_138 n x1 x2 x3 x6 x7 h = some t → MW Z (Qm Z (some (iv t.1)) zN zG t.2 0 0) 8 zN zG h 0 0 138 [(0, rfv (xd (zX Z)) 141), (1, iv x1), (2, iv x2), (3, iv x3), (6, iv x6), (7, iv x7)] [] := by
  intro n
  induction n with
  | zero =>
    intros
    rename_i hF
    exact absurd hF (by intro q; cases q)
  | succ n ih =>
    intro x1 x2 x3 x6 x7 h t hF
    rw [F_X12_lot_138] at hF
    refine mw_iload 5 C dX12_lot_138 rfl ?_
    refine mw_iload_n 2 C dX12_lot_140 rfl rfl ?_
    obtain ⟨g1, hF⟩ := ck_some hF
    obtain ⟨g2, hF⟩ := ck_some hF
    rcases ite_some hF with ⟨c3, hF⟩ | ⟨c3, hF⟩
    · refine mw_icmp_ge_t (tgt := 177) C dX12_lot_141 (by decide) g1 g2 c3 ?_
      refine mw_iload 4 C dX12_lot_177 rfl ?_
      refine mw_iconst C dX12_lot_179 ?_
      obtain ⟨g4, hF⟩ := ck_some hF
      rcases ite_some hF with ⟨c5, hF⟩ | ⟨c5, hF⟩
      · refine mw_icmp_ne_t (tgt := 192) C dX12_lot_180 (by decide) g4 (by decide) c5 ?_
        refine mw_aload_n 0 C dX12_lot_192 rfl rfl ?_
        refine mw_iload 4 C dX12_lot_193 rfl ?_
        refine mw_i2l C dX12_lot_195 g4 ?_
        obtain ⟨q6, hq6, hF⟩ := bind_some hF
        refine mw_callV (c := 141) [lvv x6] [] C dX12_lot_196 (T_X12_gives (zl Z) (zX Z) x6 _ _ hq6) rfl zn141 zk141 (by decide) rfl wd1069 wd1070 wd1379 wd14 wd1071 hd_X12_gives rfl (by decide) (by decide) (Nat.le_of_ble_eq_true rfl) ⟨Nat.zero_le _, Nat.zero_le _⟩ ?_
        cases hF
        exact mw_iret C dX12_lot_199 rfl rfl
      · refine mw_icmp_ne_f (tgt := 192) C dX12_lot_180 (by decide) g4 (by decide) c5 ?_
        refine mw_aload_n 0 C dX12_lot_183 rfl rfl ?_
        refine mw_bipush C dX12_lot_184 bp_6 ?_
        obtain ⟨q7, hq7, hF⟩ := bind_some hF
        refine mw_callV (c := 141) [iv 6] [] C dX12_lot_186 (T_X12_refuse (zl Z) (zX Z) 6 _ _ hq7) rfl zn141 zk141 (by decide) rfl wd997 wd998 wd1360 wd14 wd999 hd_X12_refuse rfl (by decide) (by decide) (Nat.le_of_ble_eq_true rfl) ⟨Nat.zero_le _, Nat.zero_le _⟩ ?_
        refine mw_goto (tgt := 199) C dX12_lot_189 (by decide) ?_
        cases hF
        exact mw_iret C dX12_lot_199 rfl rfl
    · refine mw_icmp_ge_f (tgt := 177) C dX12_lot_141 (by decide) g1 g2 c3 ?_
      refine mw_aload_n 0 C dX12_lot_144 rfl rfl ?_
      refine mw_get (k := 6) (T := TX12) (v := rfv (xd (zX Z)) 145) C dX12_lot_145 zn141 zk141 (by decide) rfl inX12 (by decide) wd895 rfl (zfv_r rfl zg_141_6) ?_
      refine mw_bipush C dX12_lot_148 bp_60 ?_
      refine mw_iload_n 1 C dX12_lot_150 rfl rfl ?_
      refine mw_imul C dX12_lot_151 ?_
      refine mw_iload 5 C dX12_lot_152 rfl ?_
      refine mw_iadd C dX12_lot_154 ?_
      obtain ⟨g8, hF⟩ := ck_some hF
      refine mw_lald C dX12_lot_155 zn145 zk145 (by decide) g8 ?_
      refine mw_iload_n 3 C dX12_lot_156 rfl rfl ?_
      obtain ⟨g9, hF⟩ := ck_some hF
      refine mw_i2l C dX12_lot_157 g9 ?_
      obtain ⟨g10, hF⟩ := ck_some hF
      rcases ite_some hF with ⟨c11, hF⟩ | ⟨c11, hF⟩
      · refine mw_lcmp_gt_t (tgt := 167) C dX12_lot_158 dX12_lot_159 (by decide) g10 (in64_of g9) c11 ?_
        refine mw_iload 4 C dX12_lot_167 rfl ?_
        refine mw_sub [0, 1, 2, 3, 5] rfl ?_
        exact T_X12_lot_169 C (F_X12_lot_138 n) ih x1 x2 x3 x7 x6 _ _ hF
      · refine mw_lcmp_gt_f (tgt := 167) C dX12_lot_158 dX12_lot_159 (by decide) g10 (in64_of g9) c11 ?_
        refine mw_iload 5 C dX12_lot_162 rfl ?_
        refine mw_goto (tgt := 169) C dX12_lot_164 (by decide) ?_
        refine mw_sub [0, 1, 2, 3, 5] rfl ?_
        exact T_X12_lot_169 C (F_X12_lot_138 n) ih x1 x2 x3 x7 x7 _ _ hF
def F_X12_lot_106 (x1 : Int) (x2 : Int) (x3 : Int) (x4 : Int) (x5 : Int) (h : MH) : Option (Int × MH) :=
  ck (in32 x4) <|
  if 0 < x4 then
    F_X12_lot_116 x4 h
  else
    ck (in32 x5) <|
    if x5 ≠ 0 then
      F_X12_lot_138 20000 x1 x2 x3 (-1) 0 h
    else
      F_X12_lot_116 x4 h
set_option maxRecDepth 100000 in
theorem T_X12_lot_106 {Z : ZT} (C : Cx Z cX12_lot 8 RX12 3 (some .int)) (x1 : Int) (x2 : Int) (x3 : Int) (x4 : Int) (x5 : Int) (h : MH) (t : (Int × MH)) (hF : F_X12_lot_106 x1 x2 x3 x4 x5 h = some t) : MW Z (Qm Z (some (iv t.1)) zN zG t.2 0 0) 8 zN zG h 0 0 106 [(0, rfv (xd (zX Z)) 141), (1, iv x1), (2, iv x2), (3, iv x3), (4, iv x4), (5, iv x5)] [] := by
  unfold F_X12_lot_106 at hF
  refine mw_iload 4 C dX12_lot_106 rfl ?_
  obtain ⟨g1, hF⟩ := ck_some hF
  rcases ite_some hF with ⟨c2, hF⟩ | ⟨c2, hF⟩
  · refine mw_if_gt_t (tgt := 116) C dX12_lot_108 (by decide) g1 c2 ?_
    refine mw_sub [0, 4] rfl ?_
    exact T_X12_lot_116 C x4 _ _ hF
  · refine mw_if_gt_f (tgt := 116) C dX12_lot_108 (by decide) g1 c2 ?_
    refine mw_iload 5 C dX12_lot_111 rfl ?_
    obtain ⟨g3, hF⟩ := ck_some hF
    rcases ite_some hF with ⟨c4, hF⟩ | ⟨c4, hF⟩
    · refine mw_if_ne_t (tgt := 132) C dX12_lot_113 (by decide) g3 c4 ?_
      refine mw_iconst C dX12_lot_132 ?_
      refine mw_istore [(6, iv (-1)), (0, rfv (xd (zX Z)) 141), (1, iv x1), (2, iv x2), (3, iv x3), (4, iv x4), (5, iv x5)] C dX12_lot_133 (by decide) rfl ?_
      refine mw_iconst C dX12_lot_135 ?_
      refine mw_istore [(7, iv 0), (6, iv (-1)), (0, rfv (xd (zX Z)) 141), (1, iv x1), (2, iv x2), (3, iv x3), (4, iv x4), (5, iv x5)] C dX12_lot_136 (by decide) rfl ?_
      refine mw_sub [2, 3, 4, 5, 1, 0] rfl ?_
      exact T_X12_lot_138 C 20000 x1 x2 x3 (-1) 0 _ _ hF
    · refine mw_if_ne_f (tgt := 132) C dX12_lot_113 (by decide) g3 c4 ?_
      refine mw_sub [0, 4] rfl ?_
      exact T_X12_lot_116 C x4 _ _ hF
def F_X12_lot_98 (k47 : Int → Int → Int → Int → Int → Int → MH → Option (Int × MH)) (x1 : Int) (x2 : Int) (x3 : Int) (x4 : Int) (x6 : Int) (s0 : Int) (h : MH) : Option (Int × MH) :=
  k47 x1 x2 x3 x4 s0 (x6 + 1) h
set_option maxRecDepth 100000 in
theorem T_X12_lot_98 {Z : ZT} (C : Cx Z cX12_lot 8 RX12 3 (some .int)) (k47 : Int → Int → Int → Int → Int → Int → MH → Option (Int × MH)) (hk47 : ∀ (x1 : Int) (x2 : Int) (x3 : Int) (x4 : Int) (x5 : Int) (x6 : Int) (h : MH) (t : (Int × MH)), k47 x1 x2 x3 x4 x5 x6 h = some t → MW Z (Qm Z (some (iv t.1)) zN zG t.2 0 0) 8 zN zG h 0 0 47 [(0, rfv (xd (zX Z)) 141), (1, iv x1), (2, iv x2), (3, iv x3), (4, iv x4), (5, iv x5), (6, iv x6)] []) (x1 : Int) (x2 : Int) (x3 : Int) (x4 : Int) (x6 : Int) (s0 : Int) (h : MH) (t : (Int × MH)) (hF : F_X12_lot_98 k47 x1 x2 x3 x4 x6 s0 h = some t) : MW Z (Qm Z (some (iv t.1)) zN zG t.2 0 0) 8 zN zG h 0 0 98 [(0, rfv (xd (zX Z)) 141), (1, iv x1), (2, iv x2), (3, iv x3), (4, iv x4), (6, iv x6)] [iv s0] := by
  unfold F_X12_lot_98 at hF
  refine mw_istore [(5, iv s0), (0, rfv (xd (zX Z)) 141), (1, iv x1), (2, iv x2), (3, iv x3), (4, iv x4), (6, iv x6)] C dX12_lot_98 (by decide) rfl ?_
  refine mw_iinc 6 [(6, iv (x6 + 1)), (5, iv s0), (0, rfv (xd (zX Z)) 141), (1, iv x1), (2, iv x2), (3, iv x3), (4, iv x4)] C dX12_lot_100 rfl (by decide) rfl ?_
  refine mw_goto (tgt := 47) C dX12_lot_103 (by decide) ?_
  refine mw_sub [2, 3, 4, 5, 6, 1, 0] rfl ?_
  exact hk47 x1 x2 x3 x4 s0 (x6 + 1) _ _ hF
def F_X12_lot_97 (k47 : Int → Int → Int → Int → Int → Int → MH → Option (Int × MH)) (x1 : Int) (x2 : Int) (x3 : Int) (x4 : Int) (x6 : Int) (h : MH) : Option (Int × MH) :=
  F_X12_lot_98 k47 x1 x2 x3 x4 x6 0 h
set_option maxRecDepth 100000 in
theorem T_X12_lot_97 {Z : ZT} (C : Cx Z cX12_lot 8 RX12 3 (some .int)) (k47 : Int → Int → Int → Int → Int → Int → MH → Option (Int × MH)) (hk47 : ∀ (x1 : Int) (x2 : Int) (x3 : Int) (x4 : Int) (x5 : Int) (x6 : Int) (h : MH) (t : (Int × MH)), k47 x1 x2 x3 x4 x5 x6 h = some t → MW Z (Qm Z (some (iv t.1)) zN zG t.2 0 0) 8 zN zG h 0 0 47 [(0, rfv (xd (zX Z)) 141), (1, iv x1), (2, iv x2), (3, iv x3), (4, iv x4), (5, iv x5), (6, iv x6)] []) (x1 : Int) (x2 : Int) (x3 : Int) (x4 : Int) (x6 : Int) (h : MH) (t : (Int × MH)) (hF : F_X12_lot_97 k47 x1 x2 x3 x4 x6 h = some t) : MW Z (Qm Z (some (iv t.1)) zN zG t.2 0 0) 8 zN zG h 0 0 97 [(0, rfv (xd (zX Z)) 141), (1, iv x1), (2, iv x2), (3, iv x3), (4, iv x4), (6, iv x6)] [] := by
  unfold F_X12_lot_97 at hF
  refine mw_iconst C dX12_lot_97 ?_
  exact T_X12_lot_98 C k47 hk47 x1 x2 x3 x4 x6 0 _ _ hF
def F_X12_lot_47 : Nat → Int → Int → Int → Int → Int → Int → MH → Option (Int × MH)
  | 0, _, _, _, _, _, _, _ => none
  | n + 1, x1, x2, x3, x4, x5, x6, h =>
    ck (in32 x6) <|
    ck (in32 x2) <|
    if x2 ≤ x6 then
      F_X12_lot_106 x1 x2 x3 x4 x5 h
    else
      ck (in32 x4) <|
      if x4 ≠ 0 then
        F_X12_lot_106 x1 x2 x3 x4 x5 h
      else
        ck (in32 x5) <|
        if x5 = 0 then
          F_X12_lot_97 (F_X12_lot_47 n) x1 x2 x3 x4 x6 h
        else
          ck (0 ≤ ((60 * x1) + x6) ∧ ((60 * x1) + x6) < 240) <|
          ck (0 ≤ (((60 * x1) + x6) - 1) ∧ (((60 * x1) + x6) - 1) < 240) <|
          ck (in64 (h 145 ((60 * x1) + x6).toNat)) <|
          ck (in64 (h 145 (((60 * x1) + x6) - 1).toNat)) <|
          if (h 145 ((60 * x1) + x6).toNat) ≤ (h 145 (((60 * x1) + x6) - 1).toNat) then
            F_X12_lot_97 (F_X12_lot_47 n) x1 x2 x3 x4 x6 h
          else
            F_X12_lot_98 (F_X12_lot_47 n) x1 x2 x3 x4 x6 1 h
set_option maxRecDepth 100000 in
theorem T_X12_lot_47 {Z : ZT} (C : Cx Z cX12_lot 8 RX12 3 (some .int)) : ∀ (n : Nat) (x1 : Int) (x2 : Int) (x3 : Int) (x4 : Int) (x5 : Int) (x6 : Int) (h : MH) (t : (Int × MH)), F_X12_lot_47 n x1 x2 x3 x4 x5 x6 h = some t → MW Z (Qm Z (some (iv t.1)) zN zG t.2 0 0) 8 zN zG h 0 0 47 [(0, rfv (xd (zX Z)) 141), (1, iv x1), (2, iv x2), (3, iv x3), (4, iv x4), (5, iv x5), (6, iv x6)] [] := by
  intro n
  induction n with
  | zero =>
    intros
    rename_i hF
    exact absurd hF (by intro q; cases q)
  | succ n ih =>
    intro x1 x2 x3 x4 x5 x6 h t hF
    rw [F_X12_lot_47] at hF
    refine mw_iload 6 C dX12_lot_47 rfl ?_
    refine mw_iload_n 2 C dX12_lot_49 rfl rfl ?_
    obtain ⟨g1, hF⟩ := ck_some hF
    obtain ⟨g2, hF⟩ := ck_some hF
    rcases ite_some hF with ⟨c3, hF⟩ | ⟨c3, hF⟩
    · refine mw_icmp_ge_t (tgt := 106) C dX12_lot_50 (by decide) g1 g2 c3 ?_
      refine mw_sub [0, 1, 2, 3, 4, 5] rfl ?_
      exact T_X12_lot_106 C x1 x2 x3 x4 x5 _ _ hF
    · refine mw_icmp_ge_f (tgt := 106) C dX12_lot_50 (by decide) g1 g2 c3 ?_
      refine mw_iload 4 C dX12_lot_53 rfl ?_
      obtain ⟨g4, hF⟩ := ck_some hF
      rcases ite_some hF with ⟨c5, hF⟩ | ⟨c5, hF⟩
      · refine mw_if_ne_t (tgt := 106) C dX12_lot_55 (by decide) g4 c5 ?_
        refine mw_sub [0, 1, 2, 3, 4, 5] rfl ?_
        exact T_X12_lot_106 C x1 x2 x3 x4 x5 _ _ hF
      · refine mw_if_ne_f (tgt := 106) C dX12_lot_55 (by decide) g4 c5 ?_
        refine mw_iload 5 C dX12_lot_58 rfl ?_
        obtain ⟨g6, hF⟩ := ck_some hF
        rcases ite_some hF with ⟨c7, hF⟩ | ⟨c7, hF⟩
        · refine mw_if_eq_t (tgt := 97) C dX12_lot_60 (by decide) g6 c7 ?_
          refine mw_sub [0, 1, 2, 3, 4, 6] rfl ?_
          exact T_X12_lot_97 C (F_X12_lot_47 n) ih x1 x2 x3 x4 x6 _ _ hF
        · refine mw_if_eq_f (tgt := 97) C dX12_lot_60 (by decide) g6 c7 ?_
          refine mw_aload_n 0 C dX12_lot_63 rfl rfl ?_
          refine mw_get (k := 6) (T := TX12) (v := rfv (xd (zX Z)) 145) C dX12_lot_64 zn141 zk141 (by decide) rfl inX12 (by decide) wd895 rfl (zfv_r rfl zg_141_6) ?_
          refine mw_bipush C dX12_lot_67 bp_60 ?_
          refine mw_iload_n 1 C dX12_lot_69 rfl rfl ?_
          refine mw_imul C dX12_lot_70 ?_
          refine mw_iload 6 C dX12_lot_71 rfl ?_
          refine mw_iadd C dX12_lot_73 ?_
          obtain ⟨g8, hF⟩ := ck_some hF
          refine mw_lald C dX12_lot_74 zn145 zk145 (by decide) g8 ?_
          refine mw_aload_n 0 C dX12_lot_75 rfl rfl ?_
          refine mw_get (k := 6) (T := TX12) (v := rfv (xd (zX Z)) 145) C dX12_lot_76 zn141 zk141 (by decide) rfl inX12 (by decide) wd895 rfl (zfv_r rfl zg_141_6) ?_
          refine mw_bipush C dX12_lot_79 bp_60 ?_
          refine mw_iload_n 1 C dX12_lot_81 rfl rfl ?_
          refine mw_imul C dX12_lot_82 ?_
          refine mw_iload 6 C dX12_lot_83 rfl ?_
          refine mw_iadd C dX12_lot_85 ?_
          refine mw_iconst C dX12_lot_86 ?_
          refine mw_isub C dX12_lot_87 ?_
          obtain ⟨g9, hF⟩ := ck_some hF
          refine mw_lald C dX12_lot_88 zn145 zk145 (by decide) g9 ?_
          obtain ⟨g10, hF⟩ := ck_some hF
          obtain ⟨g11, hF⟩ := ck_some hF
          rcases ite_some hF with ⟨c12, hF⟩ | ⟨c12, hF⟩
          · refine mw_lcmp_le_t (tgt := 97) C dX12_lot_89 dX12_lot_90 (by decide) g10 g11 c12 ?_
            refine mw_sub [0, 1, 2, 3, 4, 6] rfl ?_
            exact T_X12_lot_97 C (F_X12_lot_47 n) ih x1 x2 x3 x4 x6 _ _ hF
          · refine mw_lcmp_le_f (tgt := 97) C dX12_lot_89 dX12_lot_90 (by decide) g10 g11 c12 ?_
            refine mw_iconst C dX12_lot_93 ?_
            refine mw_goto (tgt := 98) C dX12_lot_94 (by decide) ?_
            refine mw_sub [0, 1, 2, 3, 4, 6] rfl ?_
            exact T_X12_lot_98 C (F_X12_lot_47 n) ih x1 x2 x3 x4 x6 1 _ _ hF
def F_X12_lot_30 (x1 : Int) (x2 : Int) (x3 : Int) (s1 : Int) (h : MH) : Option (Int × MH) :=
  (F_X12_wrongRow s1 x1 x2 0 9999 h).bind fun q1 =>
  F_X12_lot_47 20000 x1 x2 x3 q1.1 1 1 q1.2
set_option maxRecDepth 100000 in
theorem T_X12_lot_30 {Z : ZT} (C : Cx Z cX12_lot 8 RX12 3 (some .int)) (x1 : Int) (x2 : Int) (x3 : Int) (s1 : Int) (h : MH) (t : (Int × MH)) (hF : F_X12_lot_30 x1 x2 x3 s1 h = some t) : MW Z (Qm Z (some (iv t.1)) zN zG t.2 0 0) 8 zN zG h 0 0 30 [(0, rfv (xd (zX Z)) 141), (1, iv x1), (2, iv x2), (3, iv x3)] [iv s1, rfv (xd (zX Z)) 141] := by
  unfold F_X12_lot_30 at hF
  refine mw_iload_n 1 C dX12_lot_30 rfl rfl ?_
  refine mw_iload_n 2 C dX12_lot_31 rfl rfl ?_
  refine mw_lconst (a := 0) C dX12_lot_32 lc_0 ?_
  refine mw_ldc2 (a := 9999) C dX12_lot_33 wd1115 rfl ?_
  obtain ⟨q1, hq1, hF⟩ := bind_some hF
  refine mw_callV (c := 141) [iv s1, iv x1, iv x2, lvv 0, lvv 9999] [] C dX12_lot_36 (T_X12_wrongRow (zl Z) (zX Z) s1 x1 x2 0 9999 _ _ hq1) rfl zn141 zk141 (by decide) rfl wd1226 wd1227 wd1398 wd14 wd1228 hd_X12_wrongRow rfl (by decide) (by decide) (Nat.le_of_ble_eq_true rfl) ⟨Nat.zero_le _, Nat.zero_le _⟩ ?_
  refine mw_istore [(4, iv q1.1), (0, rfv (xd (zX Z)) 141), (1, iv x1), (2, iv x2), (3, iv x3)] C dX12_lot_39 (by decide) rfl ?_
  refine mw_iconst C dX12_lot_41 ?_
  refine mw_istore [(5, iv 1), (4, iv q1.1), (0, rfv (xd (zX Z)) 141), (1, iv x1), (2, iv x2), (3, iv x3)] C dX12_lot_42 (by decide) rfl ?_
  refine mw_iconst C dX12_lot_44 ?_
  refine mw_istore [(6, iv 1), (5, iv 1), (4, iv q1.1), (0, rfv (xd (zX Z)) 141), (1, iv x1), (2, iv x2), (3, iv x3)] C dX12_lot_45 (by decide) rfl ?_
  refine mw_sub [3, 4, 5, 6, 2, 1, 0] rfl ?_
  exact T_X12_lot_47 C 20000 x1 x2 x3 q1.1 1 1 _ _ hF
def F_X12_lot_29 (x1 : Int) (x2 : Int) (x3 : Int) (h : MH) : Option (Int × MH) :=
  F_X12_lot_30 x1 x2 x3 0 h
set_option maxRecDepth 100000 in
theorem T_X12_lot_29 {Z : ZT} (C : Cx Z cX12_lot 8 RX12 3 (some .int)) (x1 : Int) (x2 : Int) (x3 : Int) (h : MH) (t : (Int × MH)) (hF : F_X12_lot_29 x1 x2 x3 h = some t) : MW Z (Qm Z (some (iv t.1)) zN zG t.2 0 0) 8 zN zG h 0 0 29 [(0, rfv (xd (zX Z)) 141), (1, iv x1), (2, iv x2), (3, iv x3)] [rfv (xd (zX Z)) 141] := by
  unfold F_X12_lot_29 at hF
  refine mw_iconst C dX12_lot_29 ?_
  exact T_X12_lot_30 C x1 x2 x3 0 _ _ hF
def F_X12_lot_0 (x1 : Int) (x2 : Int) (x3 : Int) (h : MH) : Option (Int × MH) :=
  ck (in32 x2) <|
  (F_X12_isFrom x2 1 30 h).bind fun q2 =>
  ck (in32 q2.1) <|
  if q2.1 = 0 then
    F_X12_lot_29 x1 x2 x3 q2.2
  else
    ck (in32 x3) <|
    (F_X12_isFrom x3 0 9999 q2.2).bind fun q6 =>
    ck (in32 q6.1) <|
    if q6.1 = 0 then
      F_X12_lot_29 x1 x2 x3 q6.2
    else
      F_X12_lot_30 x1 x2 x3 1 q6.2
set_option maxRecDepth 100000 in
theorem T_X12_lot_0 {Z : ZT} (C : Cx Z cX12_lot 8 RX12 3 (some .int)) (x1 : Int) (x2 : Int) (x3 : Int) (h : MH) (t : (Int × MH)) (hF : F_X12_lot_0 x1 x2 x3 h = some t) : MW Z (Qm Z (some (iv t.1)) zN zG t.2 0 0) 8 zN zG h 0 0 0 [(0, rfv (xd (zX Z)) 141), (1, iv x1), (2, iv x2), (3, iv x3)] [] := by
  unfold F_X12_lot_0 at hF
  refine mw_aload_n 0 C dX12_lot_0 rfl rfl ?_
  refine mw_iload_n 2 C dX12_lot_1 rfl rfl ?_
  obtain ⟨g1, hF⟩ := ck_some hF
  refine mw_i2l C dX12_lot_2 g1 ?_
  refine mw_lconst (a := 1) C dX12_lot_3 lc_1 ?_
  refine mw_ldc2 (a := 30) C dX12_lot_4 wd1280 rfl ?_
  obtain ⟨q2, hq2, hF⟩ := bind_some hF
  refine mw_callS [lvv x2, lvv 1, lvv 30] [rfv (xd (zX Z)) 141] C dX12_lot_7 (T_X12_isFrom (zl Z) (zX Z) x2 1 30 _ _ hq2) rfl wd1116 wd1117 wd14 wd1118 hd_X12_isFrom rfl (by decide) (by decide) (Nat.le_of_ble_eq_true rfl) ⟨Nat.zero_le _, Nat.zero_le _⟩ ?_
  obtain ⟨g3, hF⟩ := ck_some hF
  rcases ite_some hF with ⟨c4, hF⟩ | ⟨c4, hF⟩
  · refine mw_if_eq_t (tgt := 29) C dX12_lot_10 (by decide) g3 c4 ?_
    exact T_X12_lot_29 C x1 x2 x3 _ _ hF
  · refine mw_if_eq_f (tgt := 29) C dX12_lot_10 (by decide) g3 c4 ?_
    refine mw_iload_n 3 C dX12_lot_13 rfl rfl ?_
    obtain ⟨g5, hF⟩ := ck_some hF
    refine mw_i2l C dX12_lot_14 g5 ?_
    refine mw_lconst (a := 0) C dX12_lot_15 lc_0 ?_
    refine mw_ldc2 (a := 9999) C dX12_lot_16 wd1115 rfl ?_
    obtain ⟨q6, hq6, hF⟩ := bind_some hF
    refine mw_callS [lvv x3, lvv 0, lvv 9999] [rfv (xd (zX Z)) 141] C dX12_lot_19 (T_X12_isFrom (zl Z) (zX Z) x3 0 9999 _ _ hq6) rfl wd1116 wd1117 wd14 wd1118 hd_X12_isFrom rfl (by decide) (by decide) (Nat.le_of_ble_eq_true rfl) ⟨Nat.zero_le _, Nat.zero_le _⟩ ?_
    obtain ⟨g7, hF⟩ := ck_some hF
    rcases ite_some hF with ⟨c8, hF⟩ | ⟨c8, hF⟩
    · refine mw_if_eq_t (tgt := 29) C dX12_lot_22 (by decide) g7 c8 ?_
      exact T_X12_lot_29 C x1 x2 x3 _ _ hF
    · refine mw_if_eq_f (tgt := 29) C dX12_lot_22 (by decide) g7 c8 ?_
      refine mw_iconst C dX12_lot_25 ?_
      refine mw_goto (tgt := 30) C dX12_lot_26 (by decide) ?_
      exact T_X12_lot_30 C x1 x2 x3 1 _ _ hF
def F_X12_lot (x1 : Int) (x2 : Int) (x3 : Int) (h : MH) : Option (Int × MH) := F_X12_lot_0 x1 x2 x3 h
theorem T_X12_lot (l : Launch) (X : XT) (x1 : Int) (x2 : Int) (x3 : Int) (h : MH) (t : (Int × MH)) (hF : F_X12_lot x1 x2 x3 h = some t) : Ct l X yX12_lot cX12_lot 8 (some .int) 3 [rfv (xd X) 141, iv x1, iv x2, iv x3] zN zG h (some (iv t.1)) zN zG t.2 0 0 := by
  refine Ct.head (by decide) (Nat.le_of_ble_eq_true rfl) (fun Z hX hl _ _ _ C => ?_)
  subst hX
  subst hl
  exact (T_X12_lot_0 C x1 x2 x3 _ _ hF)
/-! BottleLineModel.torn(III)Z -/
def F_X12_torn_145 (h : MH) : Option (Int × MH) :=
  (F_X12_is 6 h).bind fun q1 =>
  ck (q1.1 = 0 ∨ q1.1 = 1) <|
  some (q1.1, q1.2)
set_option maxRecDepth 100000 in
theorem T_X12_torn_145 {Z : ZT} (C : Cx Z cX12_torn 12 RX12 3 (some .boolean)) (h : MH) (t : (Int × MH)) (hF : F_X12_torn_145 h = some t) : MW Z (Qm Z (some (iv t.1)) zN zG t.2 0 0) 12 zN zG h 0 0 145 [(0, rfv (xd (zX Z)) 141)] [] := by
  unfold F_X12_torn_145 at hF
  refine mw_aload_n 0 C dX12_torn_145 rfl rfl ?_
  refine mw_bipush C dX12_torn_146 bp_6 ?_
  obtain ⟨q1, hq1, hF⟩ := bind_some hF
  refine mw_callV (c := 141) [iv 6] [] C dX12_torn_148 (T_X12_is (zl Z) (zX Z) 6 _ _ hq1) rfl zn141 zk141 (by decide) rfl wd960 wd961 wd1357 wd14 wd962 hd_X12_is rfl (by decide) (by decide) (Nat.le_of_ble_eq_true rfl) ⟨Nat.zero_le _, Nat.zero_le _⟩ ?_
  refine mw_goto (tgt := 162) C dX12_torn_151 (by decide) ?_
  obtain ⟨g2, hF⟩ := ck_some hF
  cases hF
  exact mw_zret C dX12_torn_162 g2 rfl rfl
def F_X12_torn_99 (k65 : Int → Int → Int → Int → Int → MH → Option (Int × MH)) (x1 : Int) (x2 : Int) (x5 : Int) (x9 : Int) (x10 : Int) (s0 : Int) (s1 : Int) (h : MH) : Option (Int × MH) :=
  nx (s0 + s1) fun v1 =>
  ck (in64 x10) <|
  nx (x5 - (max 0 x10)) fun v3 =>
  k65 x1 x2 v3 v1 (x9 + 1) h
set_option maxRecDepth 100000 in
theorem T_X12_torn_99 {Z : ZT} (C : Cx Z cX12_torn 12 RX12 3 (some .boolean)) (k65 : Int → Int → Int → Int → Int → MH → Option (Int × MH)) (hk65 : ∀ (x1 : Int) (x2 : Int) (x5 : Int) (x7 : Int) (x9 : Int) (h : MH) (t : (Int × MH)), k65 x1 x2 x5 x7 x9 h = some t → MW Z (Qm Z (some (iv t.1)) zN zG t.2 0 0) 12 zN zG h 0 0 65 [(0, rfv (xd (zX Z)) 141), (1, iv x1), (2, iv x2), (5, lvv x5), (7, lvv x7), (9, iv x9)] []) (x1 : Int) (x2 : Int) (x5 : Int) (x9 : Int) (x10 : Int) (s0 : Int) (s1 : Int) (h : MH) (t : (Int × MH)) (hF : F_X12_torn_99 k65 x1 x2 x5 x9 x10 s0 s1 h = some t) : MW Z (Qm Z (some (iv t.1)) zN zG t.2 0 0) 12 zN zG h 0 0 99 [(0, rfv (xd (zX Z)) 141), (1, iv x1), (2, iv x2), (5, lvv x5), (9, iv x9), (10, lvv x10)] [lvv s1, lvv s0] := by
  unfold F_X12_torn_99 at hF
  refine mw_ladd C dX12_torn_99 ?_
  obtain ⟨v1, ev1, hF⟩ := nx_some hF
  refine mw_tl ev1 ?_
  refine mw_lstore [(7, lvv v1), (0, rfv (xd (zX Z)) 141), (1, iv x1), (2, iv x2), (5, lvv x5), (9, iv x9), (10, lvv x10)] C dX12_torn_100 (by decide) rfl ?_
  refine mw_lload 4 C dX12_torn_102 rfl ?_
  refine mw_lconst (a := 0) C dX12_torn_104 lc_0 ?_
  refine mw_lload 6 C dX12_torn_105 rfl ?_
  obtain ⟨g2, hF⟩ := ck_some hF
  refine mw_mmaxL C dX12_torn_107 wd1103 wd806 wd16 wd807 (by decide) (Nat.le_of_ble_eq_true rfl) ⟨Nat.zero_le _, Nat.zero_le _⟩ (by decide) g2 ?_
  refine mw_lsub C dX12_torn_110 ?_
  obtain ⟨v3, ev3, hF⟩ := nx_some hF
  refine mw_tl ev3 ?_
  refine mw_lstore [(5, lvv v3), (7, lvv v1), (0, rfv (xd (zX Z)) 141), (1, iv x1), (2, iv x2), (9, iv x9), (10, lvv x10)] C dX12_torn_111 (by decide) rfl ?_
  refine mw_iinc 5 [(9, iv (x9 + 1)), (5, lvv v3), (7, lvv v1), (0, rfv (xd (zX Z)) 141), (1, iv x1), (2, iv x2), (10, lvv x10)] C dX12_torn_113 rfl (by decide) rfl ?_
  refine mw_goto (tgt := 65) C dX12_torn_116 (by decide) ?_
  refine mw_sub [3, 4, 5, 1, 2, 0] rfl ?_
  exact hk65 x1 x2 v3 v1 (x9 + 1) _ _ hF
def F_X12_torn_65 : Nat → Int → Int → Int → Int → Int → MH → Option (Int × MH)
  | 0, _, _, _, _, _, _ => none
  | n + 1, x1, x2, x5, x7, x9, h =>
    ck (in32 x9) <|
    ck (in32 x2) <|
    if x2 ≤ x9 then
      ck (in64 x7) <|
      if x7 = 0 then
        F_X12_torn_145 h
      else
        ck (in64 x5) <|
        if x5 < 0 then
          F_X12_torn_145 h
        else
          ck (in64 (99 * x7)) <|
          if x5 ≤ (99 * x7) then
            (F_X12_tells x5 x7 h).bind fun q10 =>
            ck (q10.1 = 0 ∨ q10.1 = 1) <|
            some (q10.1, q10.2)
          else
            F_X12_torn_145 h
    else
      ck (0 ≤ ((60 * x1) + x9) ∧ ((60 * x1) + x9) < 240) <|
      nx (h 145 ((60 * x1) + x9).toNat) fun v13 =>
      ck (in64 v13) <|
      if 0 ≤ v13 then
        F_X12_torn_99 (F_X12_torn_65 n) x1 x2 x5 x9 v13 x7 0 h
      else
        F_X12_torn_99 (F_X12_torn_65 n) x1 x2 x5 x9 v13 x7 1 h
set_option maxRecDepth 100000 in
theorem T_X12_torn_65 {Z : ZT} (C : Cx Z cX12_torn 12 RX12 3 (some .boolean)) : ∀ (n : Nat) (x1 : Int) (x2 : Int) (x5 : Int) (x7 : Int) (x9 : Int) (h : MH) (t : (Int × MH)), F_X12_torn_65 n x1 x2 x5 x7 x9 h = some t → MW Z (Qm Z (some (iv t.1)) zN zG t.2 0 0) 12 zN zG h 0 0 65 [(0, rfv (xd (zX Z)) 141), (1, iv x1), (2, iv x2), (5, lvv x5), (7, lvv x7), (9, iv x9)] [] := by
  intro n
  induction n with
  | zero =>
    intros
    rename_i hF
    exact absurd hF (by intro q; cases q)
  | succ n ih =>
    intro x1 x2 x5 x7 x9 h t hF
    rw [F_X12_torn_65] at hF
    refine mw_iload 5 C dX12_torn_65 rfl ?_
    refine mw_iload_n 2 C dX12_torn_67 rfl rfl ?_
    obtain ⟨g1, hF⟩ := ck_some hF
    obtain ⟨g2, hF⟩ := ck_some hF
    rcases ite_some hF with ⟨c3, hF⟩ | ⟨c3, hF⟩
    · refine mw_icmp_ge_t (tgt := 119) C dX12_torn_68 (by decide) g1 g2 c3 ?_
      refine mw_lload 4 C dX12_torn_119 rfl ?_
      refine mw_lconst (a := 0) C dX12_torn_121 lc_0 ?_
      obtain ⟨g4, hF⟩ := ck_some hF
      rcases ite_some hF with ⟨c5, hF⟩ | ⟨c5, hF⟩
      · refine mw_lcmp_eq_t (tgt := 145) C dX12_torn_122 dX12_torn_123 (by decide) g4 (by decide) c5 ?_
        refine mw_sub [0] rfl ?_
        exact T_X12_torn_145 C _ _ hF
      · refine mw_lcmp_eq_f (tgt := 145) C dX12_torn_122 dX12_torn_123 (by decide) g4 (by decide) c5 ?_
        refine mw_lload 3 C dX12_torn_126 rfl ?_
        refine mw_lconst (a := 0) C dX12_torn_128 lc_0 ?_
        obtain ⟨g6, hF⟩ := ck_some hF
        rcases ite_some hF with ⟨c7, hF⟩ | ⟨c7, hF⟩
        · refine mw_lcmp_lt_t (tgt := 145) C dX12_torn_129 dX12_torn_130 (by decide) g6 (by decide) c7 ?_
          refine mw_sub [0] rfl ?_
          exact T_X12_torn_145 C _ _ hF
        · refine mw_lcmp_lt_f (tgt := 145) C dX12_torn_129 dX12_torn_130 (by decide) g6 (by decide) c7 ?_
          refine mw_lload 3 C dX12_torn_133 rfl ?_
          refine mw_ldc2 (a := 99) C dX12_torn_135 wd1167 rfl ?_
          refine mw_lload 4 C dX12_torn_138 rfl ?_
          refine mw_lmul C dX12_torn_140 ?_
          obtain ⟨g8, hF⟩ := ck_some hF
          rcases ite_some hF with ⟨c9, hF⟩ | ⟨c9, hF⟩
          · refine mw_lcmp_le_t (tgt := 154) C dX12_torn_141 dX12_torn_142 (by decide) g6 g8 c9 ?_
            refine mw_aload_n 0 C dX12_torn_154 rfl rfl ?_
            refine mw_lload 3 C dX12_torn_155 rfl ?_
            refine mw_lload 4 C dX12_torn_157 rfl ?_
            obtain ⟨q10, hq10, hF⟩ := bind_some hF
            refine mw_callV (c := 141) [lvv x5, lvv x7] [] C dX12_torn_159 (T_X12_tells (zl Z) (zX Z) x5 x7 _ _ hq10) rfl zn141 zk141 (by decide) rfl wd1160 wd1161 wd1391 wd14 wd1162 hd_X12_tells rfl (by decide) (by decide) (Nat.le_of_ble_eq_true rfl) ⟨Nat.zero_le _, Nat.zero_le _⟩ ?_
            obtain ⟨g11, hF⟩ := ck_some hF
            cases hF
            exact mw_zret C dX12_torn_162 g11 rfl rfl
          · refine mw_lcmp_le_f (tgt := 154) C dX12_torn_141 dX12_torn_142 (by decide) g6 g8 c9 ?_
            refine mw_sub [0] rfl ?_
            exact T_X12_torn_145 C _ _ hF
    · refine mw_icmp_ge_f (tgt := 119) C dX12_torn_68 (by decide) g1 g2 c3 ?_
      refine mw_aload_n 0 C dX12_torn_71 rfl rfl ?_
      refine mw_get (k := 6) (T := TX12) (v := rfv (xd (zX Z)) 145) C dX12_torn_72 zn141 zk141 (by decide) rfl inX12 (by decide) wd895 rfl (zfv_r rfl zg_141_6) ?_
      refine mw_bipush C dX12_torn_75 bp_60 ?_
      refine mw_iload_n 1 C dX12_torn_77 rfl rfl ?_
      refine mw_imul C dX12_torn_78 ?_
      refine mw_iload 5 C dX12_torn_79 rfl ?_
      refine mw_iadd C dX12_torn_81 ?_
      obtain ⟨g12, hF⟩ := ck_some hF
      refine mw_lald C dX12_torn_82 zn145 zk145 (by decide) g12 ?_
      obtain ⟨v13, ev13, hF⟩ := nx_some hF
      refine mw_tl ev13 ?_
      refine mw_lstore [(10, lvv v13), (0, rfv (xd (zX Z)) 141), (1, iv x1), (2, iv x2), (5, lvv x5), (7, lvv x7), (9, iv x9)] C dX12_torn_83 (by decide) rfl ?_
      refine mw_lload 5 C dX12_torn_85 rfl ?_
      refine mw_lload 0 C dX12_torn_87 rfl ?_
      refine mw_lconst (a := 0) C dX12_torn_89 lc_0 ?_
      obtain ⟨g14, hF⟩ := ck_some hF
      rcases ite_some hF with ⟨c15, hF⟩ | ⟨c15, hF⟩
      · refine mw_lcmp_ge_t (tgt := 98) C dX12_torn_90 dX12_torn_91 (by decide) g14 (by decide) c15 ?_
        refine mw_lconst (a := 0) C dX12_torn_98 lc_0 ?_
        refine mw_sub [1, 2, 3, 4, 6, 0] rfl ?_
        exact T_X12_torn_99 C (F_X12_torn_65 n) ih x1 x2 x5 x9 v13 x7 0 _ _ hF
      · refine mw_lcmp_ge_f (tgt := 98) C dX12_torn_90 dX12_torn_91 (by decide) g14 (by decide) c15 ?_
        refine mw_lconst (a := 1) C dX12_torn_94 lc_1 ?_
        refine mw_goto (tgt := 99) C dX12_torn_95 (by decide) ?_
        refine mw_sub [1, 2, 3, 4, 6, 0] rfl ?_
        exact T_X12_torn_99 C (F_X12_torn_65 n) ih x1 x2 x5 x9 v13 x7 1 _ _ hF
def F_X12_torn_30 (x1 : Int) (x2 : Int) (x3 : Int) (s1 : Int) (h : MH) : Option (Int × MH) :=
  (F_X12_wrongRow s1 x1 x2 (-1) 99 h).bind fun q1 =>
  ck (in32 q1.1) <|
  if q1.1 ≤ 0 then
    ck (in32 x3) <|
    F_X12_torn_65 20000 x1 x2 x3 0 0 q1.2
  else
    (F_X12_is q1.1 q1.2).bind fun q5 =>
    ck (q5.1 = 0 ∨ q5.1 = 1) <|
    some (q5.1, q5.2)
set_option maxRecDepth 100000 in
theorem T_X12_torn_30 {Z : ZT} (C : Cx Z cX12_torn 12 RX12 3 (some .boolean)) (x1 : Int) (x2 : Int) (x3 : Int) (s1 : Int) (h : MH) (t : (Int × MH)) (hF : F_X12_torn_30 x1 x2 x3 s1 h = some t) : MW Z (Qm Z (some (iv t.1)) zN zG t.2 0 0) 12 zN zG h 0 0 30 [(0, rfv (xd (zX Z)) 141), (1, iv x1), (2, iv x2), (3, iv x3)] [iv s1, rfv (xd (zX Z)) 141] := by
  unfold F_X12_torn_30 at hF
  refine mw_iload_n 1 C dX12_torn_30 rfl rfl ?_
  refine mw_iload_n 2 C dX12_torn_31 rfl rfl ?_
  refine mw_ldc2 (a := (-1)) C dX12_torn_32 wd977 rfl ?_
  refine mw_ldc2 (a := 99) C dX12_torn_35 wd1167 rfl ?_
  obtain ⟨q1, hq1, hF⟩ := bind_some hF
  refine mw_callV (c := 141) [iv s1, iv x1, iv x2, lvv (-1), lvv 99] [] C dX12_torn_38 (T_X12_wrongRow (zl Z) (zX Z) s1 x1 x2 (-1) 99 _ _ hq1) rfl zn141 zk141 (by decide) rfl wd1226 wd1227 wd1398 wd14 wd1228 hd_X12_wrongRow rfl (by decide) (by decide) (Nat.le_of_ble_eq_true rfl) ⟨Nat.zero_le _, Nat.zero_le _⟩ ?_
  refine mw_istore [(4, iv q1.1), (0, rfv (xd (zX Z)) 141), (1, iv x1), (2, iv x2), (3, iv x3)] C dX12_torn_41 (by decide) rfl ?_
  refine mw_iload 0 C dX12_torn_43 rfl ?_
  obtain ⟨g2, hF⟩ := ck_some hF
  rcases ite_some hF with ⟨c3, hF⟩ | ⟨c3, hF⟩
  · refine mw_if_le_t (tgt := 55) C dX12_torn_45 (by decide) g2 c3 ?_
    refine mw_iload_n 4 C dX12_torn_55 rfl rfl ?_
    obtain ⟨g4, hF⟩ := ck_some hF
    refine mw_i2l C dX12_torn_56 g4 ?_
    refine mw_lstore [(5, lvv x3), (4, iv q1.1), (0, rfv (xd (zX Z)) 141), (1, iv x1), (2, iv x2), (3, iv x3)] C dX12_torn_57 (by decide) rfl ?_
    refine mw_lconst (a := 0) C dX12_torn_59 lc_0 ?_
    refine mw_lstore [(7, lvv 0), (5, lvv x3), (4, iv q1.1), (0, rfv (xd (zX Z)) 141), (1, iv x1), (2, iv x2), (3, iv x3)] C dX12_torn_60 (by decide) rfl ?_
    refine mw_iconst C dX12_torn_62 ?_
    refine mw_istore [(9, iv 0), (7, lvv 0), (5, lvv x3), (4, iv q1.1), (0, rfv (xd (zX Z)) 141), (1, iv x1), (2, iv x2), (3, iv x3)] C dX12_torn_63 (by decide) rfl ?_
    refine mw_sub [4, 5, 6, 2, 1, 0] rfl ?_
    exact T_X12_torn_65 C 20000 x1 x2 x3 0 0 _ _ hF
  · refine mw_if_le_f (tgt := 55) C dX12_torn_45 (by decide) g2 c3 ?_
    refine mw_aload_n 1 C dX12_torn_48 rfl rfl ?_
    refine mw_iload 0 C dX12_torn_49 rfl ?_
    obtain ⟨q5, hq5, hF⟩ := bind_some hF
    refine mw_callV (c := 141) [iv q1.1] [] C dX12_torn_51 (T_X12_is (zl Z) (zX Z) q1.1 _ _ hq5) rfl zn141 zk141 (by decide) rfl wd960 wd961 wd1357 wd14 wd962 hd_X12_is rfl (by decide) (by decide) (Nat.le_of_ble_eq_true rfl) ⟨Nat.zero_le _, Nat.zero_le _⟩ ?_
    obtain ⟨g6, hF⟩ := ck_some hF
    cases hF
    exact mw_zret C dX12_torn_54 g6 rfl rfl
def F_X12_torn_29 (x1 : Int) (x2 : Int) (x3 : Int) (h : MH) : Option (Int × MH) :=
  F_X12_torn_30 x1 x2 x3 0 h
set_option maxRecDepth 100000 in
theorem T_X12_torn_29 {Z : ZT} (C : Cx Z cX12_torn 12 RX12 3 (some .boolean)) (x1 : Int) (x2 : Int) (x3 : Int) (h : MH) (t : (Int × MH)) (hF : F_X12_torn_29 x1 x2 x3 h = some t) : MW Z (Qm Z (some (iv t.1)) zN zG t.2 0 0) 12 zN zG h 0 0 29 [(0, rfv (xd (zX Z)) 141), (1, iv x1), (2, iv x2), (3, iv x3)] [rfv (xd (zX Z)) 141] := by
  unfold F_X12_torn_29 at hF
  refine mw_iconst C dX12_torn_29 ?_
  exact T_X12_torn_30 C x1 x2 x3 0 _ _ hF
def F_X12_torn_0 (x1 : Int) (x2 : Int) (x3 : Int) (h : MH) : Option (Int × MH) :=
  ck (in32 x2) <|
  (F_X12_isFrom x2 1 60 h).bind fun q2 =>
  ck (in32 q2.1) <|
  if q2.1 = 0 then
    F_X12_torn_29 x1 x2 x3 q2.2
  else
    ck (in32 x3) <|
    (F_X12_isFrom x3 0 9999 q2.2).bind fun q6 =>
    ck (in32 q6.1) <|
    if q6.1 = 0 then
      F_X12_torn_29 x1 x2 x3 q6.2
    else
      F_X12_torn_30 x1 x2 x3 1 q6.2
set_option maxRecDepth 100000 in
theorem T_X12_torn_0 {Z : ZT} (C : Cx Z cX12_torn 12 RX12 3 (some .boolean)) (x1 : Int) (x2 : Int) (x3 : Int) (h : MH) (t : (Int × MH)) (hF : F_X12_torn_0 x1 x2 x3 h = some t) : MW Z (Qm Z (some (iv t.1)) zN zG t.2 0 0) 12 zN zG h 0 0 0 [(0, rfv (xd (zX Z)) 141), (1, iv x1), (2, iv x2), (3, iv x3)] [] := by
  unfold F_X12_torn_0 at hF
  refine mw_aload_n 0 C dX12_torn_0 rfl rfl ?_
  refine mw_iload_n 2 C dX12_torn_1 rfl rfl ?_
  obtain ⟨g1, hF⟩ := ck_some hF
  refine mw_i2l C dX12_torn_2 g1 ?_
  refine mw_lconst (a := 1) C dX12_torn_3 lc_1 ?_
  refine mw_ldc2 (a := 60) C dX12_torn_4 wd1225 rfl ?_
  obtain ⟨q2, hq2, hF⟩ := bind_some hF
  refine mw_callS [lvv x2, lvv 1, lvv 60] [rfv (xd (zX Z)) 141] C dX12_torn_7 (T_X12_isFrom (zl Z) (zX Z) x2 1 60 _ _ hq2) rfl wd1116 wd1117 wd14 wd1118 hd_X12_isFrom rfl (by decide) (by decide) (Nat.le_of_ble_eq_true rfl) ⟨Nat.zero_le _, Nat.zero_le _⟩ ?_
  obtain ⟨g3, hF⟩ := ck_some hF
  rcases ite_some hF with ⟨c4, hF⟩ | ⟨c4, hF⟩
  · refine mw_if_eq_t (tgt := 29) C dX12_torn_10 (by decide) g3 c4 ?_
    exact T_X12_torn_29 C x1 x2 x3 _ _ hF
  · refine mw_if_eq_f (tgt := 29) C dX12_torn_10 (by decide) g3 c4 ?_
    refine mw_iload_n 3 C dX12_torn_13 rfl rfl ?_
    obtain ⟨g5, hF⟩ := ck_some hF
    refine mw_i2l C dX12_torn_14 g5 ?_
    refine mw_lconst (a := 0) C dX12_torn_15 lc_0 ?_
    refine mw_ldc2 (a := 9999) C dX12_torn_16 wd1115 rfl ?_
    obtain ⟨q6, hq6, hF⟩ := bind_some hF
    refine mw_callS [lvv x3, lvv 0, lvv 9999] [rfv (xd (zX Z)) 141] C dX12_torn_19 (T_X12_isFrom (zl Z) (zX Z) x3 0 9999 _ _ hq6) rfl wd1116 wd1117 wd14 wd1118 hd_X12_isFrom rfl (by decide) (by decide) (Nat.le_of_ble_eq_true rfl) ⟨Nat.zero_le _, Nat.zero_le _⟩ ?_
    obtain ⟨g7, hF⟩ := ck_some hF
    rcases ite_some hF with ⟨c8, hF⟩ | ⟨c8, hF⟩
    · refine mw_if_eq_t (tgt := 29) C dX12_torn_22 (by decide) g7 c8 ?_
      exact T_X12_torn_29 C x1 x2 x3 _ _ hF
    · refine mw_if_eq_f (tgt := 29) C dX12_torn_22 (by decide) g7 c8 ?_
      refine mw_iconst C dX12_torn_25 ?_
      refine mw_goto (tgt := 30) C dX12_torn_26 (by decide) ?_
      exact T_X12_torn_30 C x1 x2 x3 1 _ _ hF
def F_X12_torn (x1 : Int) (x2 : Int) (x3 : Int) (h : MH) : Option (Int × MH) := F_X12_torn_0 x1 x2 x3 h
theorem T_X12_torn (l : Launch) (X : XT) (x1 : Int) (x2 : Int) (x3 : Int) (h : MH) (t : (Int × MH)) (hF : F_X12_torn x1 x2 x3 h = some t) : Ct l X yX12_torn cX12_torn 12 (some .boolean) 3 [rfv (xd X) 141, iv x1, iv x2, iv x3] zN zG h (some (iv t.1)) zN zG t.2 0 0 := by
  refine Ct.head (by decide) (Nat.le_of_ble_eq_true rfl) (fun Z hX hl _ _ _ C => ?_)
  subst hX
  subst hl
  exact (T_X12_torn_0 C x1 x2 x3 _ _ hF)
/-! BottleLineModel.holds(IIII)Z -/
def F_X12_holds_178 (k34 : Int → Int → Int → Int → Int → MH → Option (Int × MH)) (x1 : Int) (x2 : Int) (x3 : Int) (x4 : Int) (x5 : Int) (h : MH) : Option (Int × MH) :=
  k34 x1 x2 x3 x4 (x5 + (-1)) h
set_option maxRecDepth 100000 in
theorem T_X12_holds_178 {Z : ZT} (C : Cx Z cX12_holds 9 RX12 1 (some .boolean)) (k34 : Int → Int → Int → Int → Int → MH → Option (Int × MH)) (hk34 : ∀ (x1 : Int) (x2 : Int) (x3 : Int) (x4 : Int) (x5 : Int) (h : MH) (t : (Int × MH)), k34 x1 x2 x3 x4 x5 h = some t → MW Z (Qm Z (some (iv t.1)) zN zG t.2 0 0) 9 zN zG h 0 0 34 [(0, rfv (xd (zX Z)) 141), (1, iv x1), (2, iv x2), (3, iv x3), (4, iv x4), (5, iv x5)] []) (x1 : Int) (x2 : Int) (x3 : Int) (x4 : Int) (x5 : Int) (h : MH) (t : (Int × MH)) (hF : F_X12_holds_178 k34 x1 x2 x3 x4 x5 h = some t) : MW Z (Qm Z (some (iv t.1)) zN zG t.2 0 0) 9 zN zG h 0 0 178 [(0, rfv (xd (zX Z)) 141), (1, iv x1), (2, iv x2), (3, iv x3), (4, iv x4), (5, iv x5)] [] := by
  unfold F_X12_holds_178 at hF
  refine mw_iinc 5 [(5, iv (x5 + (-1))), (0, rfv (xd (zX Z)) 141), (1, iv x1), (2, iv x2), (3, iv x3), (4, iv x4)] C dX12_holds_178 rfl (by decide) rfl ?_
  refine mw_goto (tgt := 34) C dX12_holds_181 (by decide) ?_
  refine mw_sub [1, 2, 3, 4, 5, 0] rfl ?_
  exact hk34 x1 x2 x3 x4 (x5 + (-1)) _ _ hF
def F_X12_holds_162 (k34 : Int → Int → Int → Int → Int → MH → Option (Int × MH)) (x1 : Int) (x2 : Int) (x3 : Int) (x4 : Int) (x5 : Int) (x6 : Int) (x7 : Int) (x8 : Int) (h : MH) : Option (Int × MH) :=
  ck (in32 x8) <|
  ck (in32 (x7 + 1)) <|
  if (x7 + 1) < x8 then
    F_X12_holds_178 k34 x1 x2 x3 x4 x5 h
  else
    ck (in32 x4) <|
    if x8 < x4 then
      ck (0 ≤ x5 ∧ x5 < 8) <|
      nx (hup h 163 x5.toNat x8) fun h7 =>
      ck (0 ≤ x8 ∧ x8 < 8) <|
      nx (hup h7 165 x8.toNat ((h7 165 x8.toNat) + x6)) fun h9 =>
      ck (in32 (x2 - 1)) <|
      if x5 ≠ (x2 - 1) then
        ck (0 ≤ (x5 + 1) ∧ (x5 + 1) < 8) <|
        nx (hup h9 163 (x5 + 1).toNat (-1)) fun h13 =>
        k34 x1 x2 x3 x4 (x5 + 1) h13
      else
        some (1, h9)
    else
      F_X12_holds_178 k34 x1 x2 x3 x4 x5 h
set_option maxRecDepth 100000 in
theorem T_X12_holds_162 {Z : ZT} (C : Cx Z cX12_holds 9 RX12 1 (some .boolean)) (k34 : Int → Int → Int → Int → Int → MH → Option (Int × MH)) (hk34 : ∀ (x1 : Int) (x2 : Int) (x3 : Int) (x4 : Int) (x5 : Int) (h : MH) (t : (Int × MH)), k34 x1 x2 x3 x4 x5 h = some t → MW Z (Qm Z (some (iv t.1)) zN zG t.2 0 0) 9 zN zG h 0 0 34 [(0, rfv (xd (zX Z)) 141), (1, iv x1), (2, iv x2), (3, iv x3), (4, iv x4), (5, iv x5)] []) (x1 : Int) (x2 : Int) (x3 : Int) (x4 : Int) (x5 : Int) (x6 : Int) (x7 : Int) (x8 : Int) (h : MH) (t : (Int × MH)) (hF : F_X12_holds_162 k34 x1 x2 x3 x4 x5 x6 x7 x8 h = some t) : MW Z (Qm Z (some (iv t.1)) zN zG t.2 0 0) 9 zN zG h 0 0 162 [(0, rfv (xd (zX Z)) 141), (1, iv x1), (2, iv x2), (3, iv x3), (4, iv x4), (5, iv x5), (6, iv x6), (7, iv x7), (8, iv x8)] [] := by
  unfold F_X12_holds_162 at hF
  refine mw_iload 8 C dX12_holds_162 rfl ?_
  refine mw_iload 7 C dX12_holds_164 rfl ?_
  refine mw_iconst C dX12_holds_166 ?_
  refine mw_iadd C dX12_holds_167 ?_
  obtain ⟨g1, hF⟩ := ck_some hF
  obtain ⟨g2, hF⟩ := ck_some hF
  rcases ite_some hF with ⟨c3, hF⟩ | ⟨c3, hF⟩
  · refine mw_icmp_gt_t (tgt := 178) C dX12_holds_168 (by decide) g1 g2 c3 ?_
    refine mw_sub [0, 1, 2, 3, 4, 5] rfl ?_
    exact T_X12_holds_178 C k34 hk34 x1 x2 x3 x4 x5 _ _ hF
  · refine mw_icmp_gt_f (tgt := 178) C dX12_holds_168 (by decide) g1 g2 c3 ?_
    refine mw_iload 8 C dX12_holds_171 rfl ?_
    refine mw_iload 4 C dX12_holds_173 rfl ?_
    obtain ⟨g4, hF⟩ := ck_some hF
    rcases ite_some hF with ⟨c5, hF⟩ | ⟨c5, hF⟩
    · refine mw_icmp_lt_t (tgt := 184) C dX12_holds_175 (by decide) g1 g4 c5 ?_
      refine mw_aload_n 0 C dX12_holds_184 rfl rfl ?_
      refine mw_get (k := 46) (T := TX12) (v := rfv (xd (zX Z)) 163) C dX12_holds_185 zn141 zk141 (by decide) rfl inX12 (by decide) wd935 rfl (zfv_r rfl zg_141_46) ?_
      refine mw_iload 5 C dX12_holds_188 rfl ?_
      refine mw_iload 8 C dX12_holds_190 rfl ?_
      obtain ⟨g6, hF⟩ := ck_some hF
      obtain ⟨h7, eh7, hF⟩ := nx_some hF
      refine mw_iast C dX12_holds_192 zn163 zk163 (by decide) g6 (mw_h eh7 ?_)
      refine mw_aload_n 0 C dX12_holds_193 rfl rfl ?_
      refine mw_get (k := 48) (T := TX12) (v := rfv (xd (zX Z)) 165) C dX12_holds_194 zn141 zk141 (by decide) rfl inX12 (by decide) wd937 rfl (zfv_r rfl zg_141_48) ?_
      refine mw_iload 8 C dX12_holds_197 rfl ?_
      refine mw_dup2 C dX12_holds_199 rfl rfl ?_
      obtain ⟨g8, hF⟩ := ck_some hF
      refine mw_iald C dX12_holds_200 zn165 zk165 (by decide) g8 ?_
      refine mw_iload 6 C dX12_holds_201 rfl ?_
      refine mw_iadd C dX12_holds_203 ?_
      obtain ⟨h9, eh9, hF⟩ := nx_some hF
      refine mw_iast C dX12_holds_204 zn165 zk165 (by decide) g8 (mw_h eh9 ?_)
      refine mw_iload 5 C dX12_holds_205 rfl ?_
      refine mw_iload_n 2 C dX12_holds_207 rfl rfl ?_
      refine mw_iconst C dX12_holds_208 ?_
      refine mw_isub C dX12_holds_209 ?_
      obtain ⟨g10, hF⟩ := ck_some hF
      rcases ite_some hF with ⟨c11, hF⟩ | ⟨c11, hF⟩
      · refine mw_icmp_ne_t (tgt := 215) C dX12_holds_210 (by decide) (by omega) g10 c11 ?_
        refine mw_iinc 5 [(5, iv (x5 + 1)), (0, rfv (xd (zX Z)) 141), (1, iv x1), (2, iv x2), (3, iv x3), (4, iv x4), (6, iv x6), (7, iv x7), (8, iv x8)] C dX12_holds_215 rfl (by decide) rfl ?_
        refine mw_aload_n 1 C dX12_holds_218 rfl rfl ?_
        refine mw_get (k := 46) (T := TX12) (v := rfv (xd (zX Z)) 163) C dX12_holds_219 zn141 zk141 (by decide) rfl inX12 (by decide) wd935 rfl (zfv_r rfl zg_141_46) ?_
        refine mw_iload 0 C dX12_holds_222 rfl ?_
        refine mw_iconst C dX12_holds_224 ?_
        obtain ⟨g12, hF⟩ := ck_some hF
        obtain ⟨h13, eh13, hF⟩ := nx_some hF
        refine mw_iast C dX12_holds_225 zn163 zk163 (by decide) g12 (mw_h eh13 ?_)
        refine mw_goto (tgt := 34) C dX12_holds_226 (by decide) ?_
        refine mw_sub [1, 2, 3, 4, 5, 0] rfl ?_
        exact hk34 x1 x2 x3 x4 (x5 + 1) _ _ hF
      · refine mw_icmp_ne_f (tgt := 215) C dX12_holds_210 (by decide) (by omega) g10 c11 ?_
        refine mw_iconst C dX12_holds_213 ?_
        cases hF
        exact mw_zret C dX12_holds_214 (Or.inr rfl) rfl rfl
    · refine mw_icmp_lt_f (tgt := 184) C dX12_holds_175 (by decide) g1 g4 c5 ?_
      refine mw_sub [0, 1, 2, 3, 4, 5] rfl ?_
      exact T_X12_holds_178 C k34 hk34 x1 x2 x3 x4 x5 _ _ hF
def F_X12_holds_126 (k34 : Int → Int → Int → Int → Int → MH → Option (Int × MH)) : Nat → Int → Int → Int → Int → Int → Int → Int → Int → MH → Option (Int × MH)
  | 0, _, _, _, _, _, _, _, _, _ => none
  | n + 1, x1, x2, x3, x4, x5, x6, x7, x8, h =>
    ck (in32 x8) <|
    ck (in32 (x7 + 1)) <|
    if (x7 + 1) < x8 then
      F_X12_holds_162 k34 x1 x2 x3 x4 x5 x6 x7 x8 h
    else
      ck (in32 x4) <|
      if x4 ≤ x8 then
        F_X12_holds_162 k34 x1 x2 x3 x4 x5 x6 x7 x8 h
      else
        ck (0 ≤ x8 ∧ x8 < 8) <|
        ck (in32 ((h 165 x8.toNat) + x6)) <|
        ck (in32 x3) <|
        if ((h 165 x8.toNat) + x6) ≤ x3 then
          F_X12_holds_162 k34 x1 x2 x3 x4 x5 x6 x7 x8 h
        else
          F_X12_holds_126 k34 n x1 x2 x3 x4 x5 x6 x7 (x8 + 1) h
set_option maxRecDepth 100000 in
theorem T_X12_holds_126 {Z : ZT} (C : Cx Z cX12_holds 9 RX12 1 (some .boolean)) (k34 : Int → Int → Int → Int → Int → MH → Option (Int × MH)) (hk34 : ∀ (x1 : Int) (x2 : Int) (x3 : Int) (x4 : Int) (x5 : Int) (h : MH) (t : (Int × MH)), k34 x1 x2 x3 x4 x5 h = some t → MW Z (Qm Z (some (iv t.1)) zN zG t.2 0 0) 9 zN zG h 0 0 34 [(0, rfv (xd (zX Z)) 141), (1, iv x1), (2, iv x2), (3, iv x3), (4, iv x4), (5, iv x5)] []) : ∀ (n : Nat) (x1 : Int) (x2 : Int) (x3 : Int) (x4 : Int) (x5 : Int) (x6 : Int) (x7 : Int) (x8 : Int) (h : MH) (t : (Int × MH)), F_X12_holds_126 k34 n x1 x2 x3 x4 x5 x6 x7 x8 h = some t → MW Z (Qm Z (some (iv t.1)) zN zG t.2 0 0) 9 zN zG h 0 0 126 [(0, rfv (xd (zX Z)) 141), (1, iv x1), (2, iv x2), (3, iv x3), (4, iv x4), (5, iv x5), (6, iv x6), (7, iv x7), (8, iv x8)] [] := by
  intro n
  induction n with
  | zero =>
    intros
    rename_i hF
    exact absurd hF (by intro q; cases q)
  | succ n ih =>
    intro x1 x2 x3 x4 x5 x6 x7 x8 h t hF
    rw [F_X12_holds_126] at hF
    refine mw_iload 8 C dX12_holds_126 rfl ?_
    refine mw_iload 7 C dX12_holds_128 rfl ?_
    refine mw_iconst C dX12_holds_130 ?_
    refine mw_iadd C dX12_holds_131 ?_
    obtain ⟨g1, hF⟩ := ck_some hF
    obtain ⟨g2, hF⟩ := ck_some hF
    rcases ite_some hF with ⟨c3, hF⟩ | ⟨c3, hF⟩
    · refine mw_icmp_gt_t (tgt := 162) C dX12_holds_132 (by decide) g1 g2 c3 ?_
      exact T_X12_holds_162 C k34 hk34 x1 x2 x3 x4 x5 x6 x7 x8 _ _ hF
    · refine mw_icmp_gt_f (tgt := 162) C dX12_holds_132 (by decide) g1 g2 c3 ?_
      refine mw_iload 8 C dX12_holds_135 rfl ?_
      refine mw_iload 4 C dX12_holds_137 rfl ?_
      obtain ⟨g4, hF⟩ := ck_some hF
      rcases ite_some hF with ⟨c5, hF⟩ | ⟨c5, hF⟩
      · refine mw_icmp_ge_t (tgt := 162) C dX12_holds_139 (by decide) g1 g4 c5 ?_
        exact T_X12_holds_162 C k34 hk34 x1 x2 x3 x4 x5 x6 x7 x8 _ _ hF
      · refine mw_icmp_ge_f (tgt := 162) C dX12_holds_139 (by decide) g1 g4 c5 ?_
        refine mw_aload_n 0 C dX12_holds_142 rfl rfl ?_
        refine mw_get (k := 48) (T := TX12) (v := rfv (xd (zX Z)) 165) C dX12_holds_143 zn141 zk141 (by decide) rfl inX12 (by decide) wd937 rfl (zfv_r rfl zg_141_48) ?_
        refine mw_iload 8 C dX12_holds_146 rfl ?_
        obtain ⟨g6, hF⟩ := ck_some hF
        refine mw_iald C dX12_holds_148 zn165 zk165 (by decide) g6 ?_
        refine mw_iload 6 C dX12_holds_149 rfl ?_
        refine mw_iadd C dX12_holds_151 ?_
        refine mw_iload_n 3 C dX12_holds_152 rfl rfl ?_
        obtain ⟨g7, hF⟩ := ck_some hF
        obtain ⟨g8, hF⟩ := ck_some hF
        rcases ite_some hF with ⟨c9, hF⟩ | ⟨c9, hF⟩
        · refine mw_icmp_le_t (tgt := 162) C dX12_holds_153 (by decide) g7 g8 c9 ?_
          exact T_X12_holds_162 C k34 hk34 x1 x2 x3 x4 x5 x6 x7 x8 _ _ hF
        · refine mw_icmp_le_f (tgt := 162) C dX12_holds_153 (by decide) g7 g8 c9 ?_
          refine mw_iinc 8 [(8, iv (x8 + 1)), (0, rfv (xd (zX Z)) 141), (1, iv x1), (2, iv x2), (3, iv x3), (4, iv x4), (5, iv x5), (6, iv x6), (7, iv x7)] C dX12_holds_156 rfl (by decide) rfl ?_
          refine mw_goto (tgt := 126) C dX12_holds_159 (by decide) ?_
          refine mw_sub [1, 2, 3, 4, 5, 6, 7, 8, 0] rfl ?_
          exact ih x1 x2 x3 x4 x5 x6 x7 (x8 + 1) _ _ hF
def F_X12_holds_88 (k34 : Int → Int → Int → Int → Int → MH → Option (Int × MH)) : Nat → Int → Int → Int → Int → Int → Int → Int → Int → MH → Option (Int × MH)
  | 0, _, _, _, _, _, _, _, _, _ => none
  | n + 1, x1, x2, x3, x4, x5, x6, x7, x8, h =>
    ck (in32 x8) <|
    ck (in32 x5) <|
    if x5 ≤ x8 then
      ck (0 ≤ x5 ∧ x5 < 8) <|
      nx ((h 163 x5.toNat) + 1) fun v5 =>
      F_X12_holds_126 k34 20000 x1 x2 x3 x4 x5 x6 x7 v5 h
    else
      ck (0 ≤ x8 ∧ x8 < 8) <|
      ck (in32 x7) <|
      ck (in32 (h 163 x8.toNat)) <|
      nx (max x7 (h 163 x8.toNat)) fun v9 =>
      F_X12_holds_88 k34 n x1 x2 x3 x4 x5 x6 v9 (x8 + 1) h
set_option maxRecDepth 100000 in
theorem T_X12_holds_88 {Z : ZT} (C : Cx Z cX12_holds 9 RX12 1 (some .boolean)) (k34 : Int → Int → Int → Int → Int → MH → Option (Int × MH)) (hk34 : ∀ (x1 : Int) (x2 : Int) (x3 : Int) (x4 : Int) (x5 : Int) (h : MH) (t : (Int × MH)), k34 x1 x2 x3 x4 x5 h = some t → MW Z (Qm Z (some (iv t.1)) zN zG t.2 0 0) 9 zN zG h 0 0 34 [(0, rfv (xd (zX Z)) 141), (1, iv x1), (2, iv x2), (3, iv x3), (4, iv x4), (5, iv x5)] []) : ∀ (n : Nat) (x1 : Int) (x2 : Int) (x3 : Int) (x4 : Int) (x5 : Int) (x6 : Int) (x7 : Int) (x8 : Int) (h : MH) (t : (Int × MH)), F_X12_holds_88 k34 n x1 x2 x3 x4 x5 x6 x7 x8 h = some t → MW Z (Qm Z (some (iv t.1)) zN zG t.2 0 0) 9 zN zG h 0 0 88 [(0, rfv (xd (zX Z)) 141), (1, iv x1), (2, iv x2), (3, iv x3), (4, iv x4), (5, iv x5), (6, iv x6), (7, iv x7), (8, iv x8)] [] := by
  intro n
  induction n with
  | zero =>
    intros
    rename_i hF
    exact absurd hF (by intro q; cases q)
  | succ n ih =>
    intro x1 x2 x3 x4 x5 x6 x7 x8 h t hF
    rw [F_X12_holds_88] at hF
    refine mw_iload 8 C dX12_holds_88 rfl ?_
    refine mw_iload 5 C dX12_holds_90 rfl ?_
    obtain ⟨g1, hF⟩ := ck_some hF
    obtain ⟨g2, hF⟩ := ck_some hF
    rcases ite_some hF with ⟨c3, hF⟩ | ⟨c3, hF⟩
    · refine mw_icmp_ge_t (tgt := 115) C dX12_holds_92 (by decide) g1 g2 c3 ?_
      refine mw_aload_n 0 C dX12_holds_115 rfl rfl ?_
      refine mw_get (k := 46) (T := TX12) (v := rfv (xd (zX Z)) 163) C dX12_holds_116 zn141 zk141 (by decide) rfl inX12 (by decide) wd935 rfl (zfv_r rfl zg_141_46) ?_
      refine mw_iload 5 C dX12_holds_119 rfl ?_
      obtain ⟨g4, hF⟩ := ck_some hF
      refine mw_iald C dX12_holds_121 zn163 zk163 (by decide) g4 ?_
      refine mw_iconst C dX12_holds_122 ?_
      refine mw_iadd C dX12_holds_123 ?_
      obtain ⟨v5, ev5, hF⟩ := nx_some hF
      refine mw_ti ev5 ?_
      refine mw_istore [(8, iv v5), (0, rfv (xd (zX Z)) 141), (1, iv x1), (2, iv x2), (3, iv x3), (4, iv x4), (5, iv x5), (6, iv x6), (7, iv x7)] C dX12_holds_124 (by decide) rfl ?_
      refine mw_sub [1, 2, 3, 4, 5, 6, 7, 8, 0] rfl ?_
      exact T_X12_holds_126 C k34 hk34 20000 x1 x2 x3 x4 x5 x6 x7 v5 _ _ hF
    · refine mw_icmp_ge_f (tgt := 115) C dX12_holds_92 (by decide) g1 g2 c3 ?_
      refine mw_iload 7 C dX12_holds_95 rfl ?_
      refine mw_aload_n 0 C dX12_holds_97 rfl rfl ?_
      refine mw_get (k := 46) (T := TX12) (v := rfv (xd (zX Z)) 163) C dX12_holds_98 zn141 zk141 (by decide) rfl inX12 (by decide) wd935 rfl (zfv_r rfl zg_141_46) ?_
      refine mw_iload 8 C dX12_holds_101 rfl ?_
      obtain ⟨g6, hF⟩ := ck_some hF
      refine mw_iald C dX12_holds_103 zn163 zk163 (by decide) g6 ?_
      obtain ⟨g7, hF⟩ := ck_some hF
      obtain ⟨g8, hF⟩ := ck_some hF
      refine mw_mmax C dX12_holds_104 wd1254 wd571 wd16 wd572 (by decide) (Nat.le_of_ble_eq_true rfl) ⟨Nat.zero_le _, Nat.zero_le _⟩ g7 g8 ?_
      obtain ⟨v9, ev9, hF⟩ := nx_some hF
      refine mw_ti ev9 ?_
      refine mw_istore [(7, iv v9), (0, rfv (xd (zX Z)) 141), (1, iv x1), (2, iv x2), (3, iv x3), (4, iv x4), (5, iv x5), (6, iv x6), (8, iv x8)] C dX12_holds_107 (by decide) rfl ?_
      refine mw_iinc 8 [(8, iv (x8 + 1)), (7, iv v9), (0, rfv (xd (zX Z)) 141), (1, iv x1), (2, iv x2), (3, iv x3), (4, iv x4), (5, iv x5), (6, iv x6)] C dX12_holds_109 rfl (by decide) rfl ?_
      refine mw_goto (tgt := 88) C dX12_holds_112 (by decide) ?_
      refine mw_sub [2, 3, 4, 5, 6, 7, 8, 1, 0] rfl ?_
      exact ih x1 x2 x3 x4 x5 x6 v9 (x8 + 1) _ _ hF
def F_X12_holds_82 (k34 : Int → Int → Int → Int → Int → MH → Option (Int × MH)) (x1 : Int) (x2 : Int) (x3 : Int) (x4 : Int) (x5 : Int) (x6 : Int) (h : MH) : Option (Int × MH) :=
  F_X12_holds_88 k34 20000 x1 x2 x3 x4 x5 x6 (-1) 0 h
set_option maxRecDepth 100000 in
theorem T_X12_holds_82 {Z : ZT} (C : Cx Z cX12_holds 9 RX12 1 (some .boolean)) (k34 : Int → Int → Int → Int → Int → MH → Option (Int × MH)) (hk34 : ∀ (x1 : Int) (x2 : Int) (x3 : Int) (x4 : Int) (x5 : Int) (h : MH) (t : (Int × MH)), k34 x1 x2 x3 x4 x5 h = some t → MW Z (Qm Z (some (iv t.1)) zN zG t.2 0 0) 9 zN zG h 0 0 34 [(0, rfv (xd (zX Z)) 141), (1, iv x1), (2, iv x2), (3, iv x3), (4, iv x4), (5, iv x5)] []) (x1 : Int) (x2 : Int) (x3 : Int) (x4 : Int) (x5 : Int) (x6 : Int) (h : MH) (t : (Int × MH)) (hF : F_X12_holds_82 k34 x1 x2 x3 x4 x5 x6 h = some t) : MW Z (Qm Z (some (iv t.1)) zN zG t.2 0 0) 9 zN zG h 0 0 82 [(0, rfv (xd (zX Z)) 141), (1, iv x1), (2, iv x2), (3, iv x3), (4, iv x4), (5, iv x5), (6, iv x6)] [] := by
  unfold F_X12_holds_82 at hF
  refine mw_iconst C dX12_holds_82 ?_
  refine mw_istore [(7, iv (-1)), (0, rfv (xd (zX Z)) 141), (1, iv x1), (2, iv x2), (3, iv x3), (4, iv x4), (5, iv x5), (6, iv x6)] C dX12_holds_83 (by decide) rfl ?_
  refine mw_iconst C dX12_holds_85 ?_
  refine mw_istore [(8, iv 0), (7, iv (-1)), (0, rfv (xd (zX Z)) 141), (1, iv x1), (2, iv x2), (3, iv x3), (4, iv x4), (5, iv x5), (6, iv x6)] C dX12_holds_86 (by decide) rfl ?_
  refine mw_sub [2, 3, 4, 5, 6, 7, 8, 1, 0] rfl ?_
  exact T_X12_holds_88 C k34 hk34 20000 x1 x2 x3 x4 x5 x6 (-1) 0 _ _ hF
def F_X12_holds_34 : Nat → Int → Int → Int → Int → Int → MH → Option (Int × MH)
  | 0, _, _, _, _, _, _ => none
  | n + 1, x1, x2, x3, x4, x5, h =>
    ck (in32 x5) <|
    if x5 < 0 then
      some (0, h)
    else
      ck (0 ≤ ((60 * x1) + x5) ∧ ((60 * x1) + x5) < 240) <|
      nx (h 145 ((60 * x1) + x5).toNat) fun v4 =>
      ck (0 ≤ x5 ∧ x5 < 8) <|
      ck (in32 (h 163 x5.toNat)) <|
      if (h 163 x5.toNat) = (-1) then
        F_X12_holds_82 (F_X12_holds_34 n) x1 x2 x3 x4 x5 v4 h
      else
        ck (0 ≤ (h 163 x5.toNat) ∧ (h 163 x5.toNat) < 8) <|
        nx (hup h 165 (h 163 x5.toNat).toNat ((h 165 (h 163 x5.toNat).toNat) - v4)) fun h9 =>
        F_X12_holds_82 (F_X12_holds_34 n) x1 x2 x3 x4 x5 v4 h9
set_option maxRecDepth 100000 in
theorem T_X12_holds_34 {Z : ZT} (C : Cx Z cX12_holds 9 RX12 1 (some .boolean)) : ∀ (n : Nat) (x1 : Int) (x2 : Int) (x3 : Int) (x4 : Int) (x5 : Int) (h : MH) (t : (Int × MH)), F_X12_holds_34 n x1 x2 x3 x4 x5 h = some t → MW Z (Qm Z (some (iv t.1)) zN zG t.2 0 0) 9 zN zG h 0 0 34 [(0, rfv (xd (zX Z)) 141), (1, iv x1), (2, iv x2), (3, iv x3), (4, iv x4), (5, iv x5)] [] := by
  intro n
  induction n with
  | zero =>
    intros
    rename_i hF
    exact absurd hF (by intro q; cases q)
  | succ n ih =>
    intro x1 x2 x3 x4 x5 h t hF
    rw [F_X12_holds_34] at hF
    refine mw_iload 5 C dX12_holds_34 rfl ?_
    obtain ⟨g1, hF⟩ := ck_some hF
    rcases ite_some hF with ⟨c2, hF⟩ | ⟨c2, hF⟩
    · refine mw_if_lt_t (tgt := 229) C dX12_holds_36 (by decide) g1 c2 ?_
      refine mw_iconst C dX12_holds_229 ?_
      cases hF
      exact mw_zret C dX12_holds_230 (Or.inl rfl) rfl rfl
    · refine mw_if_lt_f (tgt := 229) C dX12_holds_36 (by decide) g1 c2 ?_
      refine mw_aload_n 0 C dX12_holds_39 rfl rfl ?_
      refine mw_get (k := 6) (T := TX12) (v := rfv (xd (zX Z)) 145) C dX12_holds_40 zn141 zk141 (by decide) rfl inX12 (by decide) wd895 rfl (zfv_r rfl zg_141_6) ?_
      refine mw_bipush C dX12_holds_43 bp_60 ?_
      refine mw_iload_n 1 C dX12_holds_45 rfl rfl ?_
      refine mw_imul C dX12_holds_46 ?_
      refine mw_iload 5 C dX12_holds_47 rfl ?_
      refine mw_iadd C dX12_holds_49 ?_
      obtain ⟨g3, hF⟩ := ck_some hF
      refine mw_lald C dX12_holds_50 zn145 zk145 (by decide) g3 ?_
      refine mw_l2i C dX12_holds_51 ?_
      obtain ⟨v4, ev4, hF⟩ := nx_some hF
      refine mw_ti ev4 ?_
      refine mw_istore [(6, iv v4), (0, rfv (xd (zX Z)) 141), (1, iv x1), (2, iv x2), (3, iv x3), (4, iv x4), (5, iv x5)] C dX12_holds_52 (by decide) rfl ?_
      refine mw_aload_n 1 C dX12_holds_54 rfl rfl ?_
      refine mw_get (k := 46) (T := TX12) (v := rfv (xd (zX Z)) 163) C dX12_holds_55 zn141 zk141 (by decide) rfl inX12 (by decide) wd935 rfl (zfv_r rfl zg_141_46) ?_
      refine mw_iload 6 C dX12_holds_58 rfl ?_
      obtain ⟨g5, hF⟩ := ck_some hF
      refine mw_iald C dX12_holds_60 zn163 zk163 (by decide) g5 ?_
      refine mw_iconst C dX12_holds_61 ?_
      obtain ⟨g6, hF⟩ := ck_some hF
      rcases ite_some hF with ⟨c7, hF⟩ | ⟨c7, hF⟩
      · refine mw_icmp_eq_t (tgt := 82) C dX12_holds_62 (by decide) g6 (by decide) c7 ?_
        refine mw_sub [1, 2, 3, 4, 5, 6, 0] rfl ?_
        exact T_X12_holds_82 C (F_X12_holds_34 n) ih x1 x2 x3 x4 x5 v4 _ _ hF
      · refine mw_icmp_eq_f (tgt := 82) C dX12_holds_62 (by decide) g6 (by decide) c7 ?_
        refine mw_aload_n 1 C dX12_holds_65 rfl rfl ?_
        refine mw_get (k := 48) (T := TX12) (v := rfv (xd (zX Z)) 165) C dX12_holds_66 zn141 zk141 (by decide) rfl inX12 (by decide) wd937 rfl (zfv_r rfl zg_141_48) ?_
        refine mw_aload_n 1 C dX12_holds_69 rfl rfl ?_
        refine mw_get (k := 46) (T := TX12) (v := rfv (xd (zX Z)) 163) C dX12_holds_70 zn141 zk141 (by decide) rfl inX12 (by decide) wd935 rfl (zfv_r rfl zg_141_46) ?_
        refine mw_iload 6 C dX12_holds_73 rfl ?_
        refine mw_iald C dX12_holds_75 zn163 zk163 (by decide) g5 ?_
        refine mw_dup2 C dX12_holds_76 rfl rfl ?_
        obtain ⟨g8, hF⟩ := ck_some hF
        refine mw_iald C dX12_holds_77 zn165 zk165 (by decide) g8 ?_
        refine mw_iload 0 C dX12_holds_78 rfl ?_
        refine mw_isub C dX12_holds_80 ?_
        obtain ⟨h9, eh9, hF⟩ := nx_some hF
        refine mw_iast C dX12_holds_81 zn165 zk165 (by decide) g8 (mw_h eh9 ?_)
        refine mw_sub [1, 2, 3, 4, 5, 6, 0] rfl ?_
        exact T_X12_holds_82 C (F_X12_holds_34 n) ih x1 x2 x3 x4 x5 v4 _ _ hF
def F_X12_holds_6 : Nat → Int → Int → Int → Int → Int → Int → MH → Option (Int × MH)
  | 0, _, _, _, _, _, _, _ => none
  | n + 1, x1, x2, x3, x4, x5, x6, h =>
    ck (in32 x6) <|
    if 8 ≤ x6 then
      nx (hup h 163 0 (-1)) fun h3 =>
      F_X12_holds_34 20000 x1 x2 x3 x4 x5 h3
    else
      ck (0 ≤ x6 ∧ x6 < 8) <|
      nx (hup h 165 x6.toNat 0) fun h5 =>
      F_X12_holds_6 n x1 x2 x3 x4 x5 (x6 + 1) h5
set_option maxRecDepth 100000 in
theorem T_X12_holds_6 {Z : ZT} (C : Cx Z cX12_holds 9 RX12 1 (some .boolean)) : ∀ (n : Nat) (x1 : Int) (x2 : Int) (x3 : Int) (x4 : Int) (x5 : Int) (x6 : Int) (h : MH) (t : (Int × MH)), F_X12_holds_6 n x1 x2 x3 x4 x5 x6 h = some t → MW Z (Qm Z (some (iv t.1)) zN zG t.2 0 0) 9 zN zG h 0 0 6 [(0, rfv (xd (zX Z)) 141), (1, iv x1), (2, iv x2), (3, iv x3), (4, iv x4), (5, iv x5), (6, iv x6)] [] := by
  intro n
  induction n with
  | zero =>
    intros
    rename_i hF
    exact absurd hF (by intro q; cases q)
  | succ n ih =>
    intro x1 x2 x3 x4 x5 x6 h t hF
    rw [F_X12_holds_6] at hF
    refine mw_iload 6 C dX12_holds_6 rfl ?_
    refine mw_bipush C dX12_holds_8 bp_8 ?_
    obtain ⟨g1, hF⟩ := ck_some hF
    rcases ite_some hF with ⟨c2, hF⟩ | ⟨c2, hF⟩
    · refine mw_icmp_ge_t (tgt := 27) C dX12_holds_10 (by decide) g1 (by decide) c2 ?_
      refine mw_aload_n 0 C dX12_holds_27 rfl rfl ?_
      refine mw_get (k := 46) (T := TX12) (v := rfv (xd (zX Z)) 163) C dX12_holds_28 zn141 zk141 (by decide) rfl inX12 (by decide) wd935 rfl (zfv_r rfl zg_141_46) ?_
      refine mw_iconst C dX12_holds_31 ?_
      refine mw_iconst C dX12_holds_32 ?_
      obtain ⟨h3, eh3, hF⟩ := nx_some hF
      refine mw_iast C dX12_holds_33 zn163 zk163 (by decide) (by decide) (mw_h eh3 ?_)
      refine mw_sub [0, 1, 2, 3, 4, 5] rfl ?_
      exact T_X12_holds_34 C 20000 x1 x2 x3 x4 x5 _ _ hF
    · refine mw_icmp_ge_f (tgt := 27) C dX12_holds_10 (by decide) g1 (by decide) c2 ?_
      refine mw_aload_n 0 C dX12_holds_13 rfl rfl ?_
      refine mw_get (k := 48) (T := TX12) (v := rfv (xd (zX Z)) 165) C dX12_holds_14 zn141 zk141 (by decide) rfl inX12 (by decide) wd937 rfl (zfv_r rfl zg_141_48) ?_
      refine mw_iload 6 C dX12_holds_17 rfl ?_
      refine mw_iconst C dX12_holds_19 ?_
      obtain ⟨g4, hF⟩ := ck_some hF
      obtain ⟨h5, eh5, hF⟩ := nx_some hF
      refine mw_iast C dX12_holds_20 zn165 zk165 (by decide) g4 (mw_h eh5 ?_)
      refine mw_iinc 6 [(6, iv (x6 + 1)), (0, rfv (xd (zX Z)) 141), (1, iv x1), (2, iv x2), (3, iv x3), (4, iv x4), (5, iv x5)] C dX12_holds_21 rfl (by decide) rfl ?_
      refine mw_goto (tgt := 6) C dX12_holds_24 (by decide) ?_
      refine mw_sub [1, 2, 3, 4, 5, 6, 0] rfl ?_
      exact ih x1 x2 x3 x4 x5 (x6 + 1) _ _ hF
def F_X12_holds_0 (x1 : Int) (x2 : Int) (x3 : Int) (x4 : Int) (h : MH) : Option (Int × MH) :=
  F_X12_holds_6 20000 x1 x2 x3 x4 0 0 h
set_option maxRecDepth 100000 in
theorem T_X12_holds_0 {Z : ZT} (C : Cx Z cX12_holds 9 RX12 1 (some .boolean)) (x1 : Int) (x2 : Int) (x3 : Int) (x4 : Int) (h : MH) (t : (Int × MH)) (hF : F_X12_holds_0 x1 x2 x3 x4 h = some t) : MW Z (Qm Z (some (iv t.1)) zN zG t.2 0 0) 9 zN zG h 0 0 0 [(0, rfv (xd (zX Z)) 141), (1, iv x1), (2, iv x2), (3, iv x3), (4, iv x4)] [] := by
  unfold F_X12_holds_0 at hF
  refine mw_iconst C dX12_holds_0 ?_
  refine mw_istore [(5, iv 0), (0, rfv (xd (zX Z)) 141), (1, iv x1), (2, iv x2), (3, iv x3), (4, iv x4)] C dX12_holds_1 (by decide) rfl ?_
  refine mw_iconst C dX12_holds_3 ?_
  refine mw_istore [(6, iv 0), (5, iv 0), (0, rfv (xd (zX Z)) 141), (1, iv x1), (2, iv x2), (3, iv x3), (4, iv x4)] C dX12_holds_4 (by decide) rfl ?_
  refine mw_sub [2, 3, 4, 5, 6, 1, 0] rfl ?_
  exact T_X12_holds_6 C 20000 x1 x2 x3 x4 0 0 _ _ hF
def F_X12_holds (x1 : Int) (x2 : Int) (x3 : Int) (x4 : Int) (h : MH) : Option (Int × MH) := F_X12_holds_0 x1 x2 x3 x4 h
theorem T_X12_holds (l : Launch) (X : XT) (x1 : Int) (x2 : Int) (x3 : Int) (x4 : Int) (h : MH) (t : (Int × MH)) (hF : F_X12_holds x1 x2 x3 x4 h = some t) : Ct l X yX12_holds cX12_holds 9 (some .boolean) 1 [rfv (xd X) 141, iv x1, iv x2, iv x3, iv x4] zN zG h (some (iv t.1)) zN zG t.2 0 0 := by
  refine Ct.head (by decide) (Nat.le_of_ble_eq_true rfl) (fun Z hX hl _ _ _ C => ?_)
  subst hX
  subst hl
  exact (T_X12_holds_0 C x1 x2 x3 x4 _ _ hF)
/-! BottleLineModel.shifts(III)I -/
def F_X12_shifts_76 : Nat → Int → Int → Int → MH → Option (Int × MH)
  | 0, _, _, _, _ => none
  | n + 1, x2, x5, x6, h =>
    ck (in32 x6) <|
    ck (in32 x2) <|
    if x2 ≤ x6 then
      nx (hup h 141 49 x2) fun h4 =>
      ck (in32 x5) <|
      (F_X12_gives x5 h4).bind fun q6 =>
      some (q6.1, q6.2)
    else
      ck (0 ≤ x6 ∧ x6 < 8) <|
      nx (hup h 164 x6.toNat (h 163 x6.toNat)) fun h8 =>
      F_X12_shifts_76 n x2 x5 (x6 + 1) h8
set_option maxRecDepth 100000 in
theorem T_X12_shifts_76 {Z : ZT} (C : Cx Z cX12_shifts 7 RX12 3 (some .int)) : ∀ (n : Nat) (x2 : Int) (x5 : Int) (x6 : Int) (h : MH) (t : (Int × MH)), F_X12_shifts_76 n x2 x5 x6 h = some t → MW Z (Qm Z (some (iv t.1)) zN zG t.2 0 0) 7 zN zG h 0 0 76 [(0, rfv (xd (zX Z)) 141), (2, iv x2), (5, iv x5), (6, iv x6)] [] := by
  intro n
  induction n with
  | zero =>
    intros
    rename_i hF
    exact absurd hF (by intro q; cases q)
  | succ n ih =>
    intro x2 x5 x6 h t hF
    rw [F_X12_shifts_76] at hF
    refine mw_iload 3 C dX12_shifts_76 rfl ?_
    refine mw_iload_n 1 C dX12_shifts_78 rfl rfl ?_
    obtain ⟨g1, hF⟩ := ck_some hF
    obtain ⟨g2, hF⟩ := ck_some hF
    rcases ite_some hF with ⟨c3, hF⟩ | ⟨c3, hF⟩
    · refine mw_icmp_ge_t (tgt := 102) C dX12_shifts_79 (by decide) g1 g2 c3 ?_
      refine mw_aload_n 0 C dX12_shifts_102 rfl rfl ?_
      refine mw_iload_n 1 C dX12_shifts_103 rfl rfl ?_
      obtain ⟨h4, eh4, hF⟩ := nx_some hF
      refine mw_put (k := 49) (T := TX12) (ty0 := tyX12) (x := x2) C dX12_shifts_104 zn141 zk141 (by decide) rfl inX12 tyX12_ok nmX12 (by decide) wd938 rfl rfl rfl rfl rfl (by decide) (mw_h eh4 ?_)
      refine mw_aload_n 0 C dX12_shifts_107 rfl rfl ?_
      refine mw_iload 2 C dX12_shifts_108 rfl ?_
      obtain ⟨g5, hF⟩ := ck_some hF
      refine mw_i2l C dX12_shifts_110 g5 ?_
      obtain ⟨q6, hq6, hF⟩ := bind_some hF
      refine mw_callV (c := 141) [lvv x5] [] C dX12_shifts_111 (T_X12_gives (zl Z) (zX Z) x5 _ _ hq6) rfl zn141 zk141 (by decide) rfl wd1069 wd1070 wd1379 wd14 wd1071 hd_X12_gives rfl (by decide) (by decide) (Nat.le_of_ble_eq_true rfl) ⟨Nat.zero_le _, Nat.zero_le _⟩ ?_
      cases hF
      exact mw_iret C dX12_shifts_114 rfl rfl
    · refine mw_icmp_ge_f (tgt := 102) C dX12_shifts_79 (by decide) g1 g2 c3 ?_
      refine mw_aload_n 0 C dX12_shifts_82 rfl rfl ?_
      refine mw_get (k := 47) (T := TX12) (v := rfv (xd (zX Z)) 164) C dX12_shifts_83 zn141 zk141 (by decide) rfl inX12 (by decide) wd936 rfl (zfv_r rfl zg_141_47) ?_
      refine mw_iload 3 C dX12_shifts_86 rfl ?_
      refine mw_aload_n 0 C dX12_shifts_88 rfl rfl ?_
      refine mw_get (k := 46) (T := TX12) (v := rfv (xd (zX Z)) 163) C dX12_shifts_89 zn141 zk141 (by decide) rfl inX12 (by decide) wd935 rfl (zfv_r rfl zg_141_46) ?_
      refine mw_iload 3 C dX12_shifts_92 rfl ?_
      obtain ⟨g7, hF⟩ := ck_some hF
      refine mw_iald C dX12_shifts_94 zn163 zk163 (by decide) g7 ?_
      obtain ⟨h8, eh8, hF⟩ := nx_some hF
      refine mw_iast C dX12_shifts_95 zn164 zk164 (by decide) g7 (mw_h eh8 ?_)
      refine mw_iinc 3 [(6, iv (x6 + 1)), (0, rfv (xd (zX Z)) 141), (2, iv x2), (5, iv x5)] C dX12_shifts_96 rfl (by decide) rfl ?_
      refine mw_goto (tgt := 76) C dX12_shifts_99 (by decide) ?_
      refine mw_sub [1, 2, 3, 0] rfl ?_
      exact ih x2 x5 (x6 + 1) _ _ hF
def F_X12_shifts_55 : Nat → Int → Int → Int → Int → MH → Option (Int × MH)
  | 0, _, _, _, _, _ => none
  | n + 1, x1, x2, x3, x5, h =>
    (F_X12_holds x1 x2 x3 x5 h).bind fun q1 =>
    ck (in32 q1.1) <|
    if q1.1 ≠ 0 then
      F_X12_shifts_76 20000 x2 x5 0 q1.2
    else
      F_X12_shifts_55 n x1 x2 x3 (x5 + 1) q1.2
set_option maxRecDepth 100000 in
theorem T_X12_shifts_55 {Z : ZT} (C : Cx Z cX12_shifts 7 RX12 3 (some .int)) : ∀ (n : Nat) (x1 : Int) (x2 : Int) (x3 : Int) (x5 : Int) (h : MH) (t : (Int × MH)), F_X12_shifts_55 n x1 x2 x3 x5 h = some t → MW Z (Qm Z (some (iv t.1)) zN zG t.2 0 0) 7 zN zG h 0 0 55 [(0, rfv (xd (zX Z)) 141), (1, iv x1), (2, iv x2), (3, iv x3), (5, iv x5)] [] := by
  intro n
  induction n with
  | zero =>
    intros
    rename_i hF
    exact absurd hF (by intro q; cases q)
  | succ n ih =>
    intro x1 x2 x3 x5 h t hF
    rw [F_X12_shifts_55] at hF
    refine mw_aload_n 0 C dX12_shifts_55 rfl rfl ?_
    refine mw_iload_n 1 C dX12_shifts_56 rfl rfl ?_
    refine mw_iload_n 2 C dX12_shifts_57 rfl rfl ?_
    refine mw_iload_n 3 C dX12_shifts_58 rfl rfl ?_
    refine mw_iload 4 C dX12_shifts_59 rfl ?_
    obtain ⟨q1, hq1, hF⟩ := bind_some hF
    refine mw_callV (c := 141) [iv x1, iv x2, iv x3, iv x5] [] C dX12_shifts_61 (T_X12_holds (zl Z) (zX Z) x1 x2 x3 x5 _ _ hq1) rfl zn141 zk141 (by decide) rfl wd1290 wd1291 wd1403 wd14 wd1292 hd_X12_holds rfl (by decide) (by decide) (Nat.le_of_ble_eq_true rfl) ⟨Nat.zero_le _, Nat.zero_le _⟩ ?_
    obtain ⟨g2, hF⟩ := ck_some hF
    rcases ite_some hF with ⟨c3, hF⟩ | ⟨c3, hF⟩
    · refine mw_if_ne_t (tgt := 73) C dX12_shifts_64 (by decide) g2 c3 ?_
      refine mw_iconst C dX12_shifts_73 ?_
      refine mw_istore [(6, iv 0), (0, rfv (xd (zX Z)) 141), (1, iv x1), (2, iv x2), (3, iv x3), (5, iv x5)] C dX12_shifts_74 (by decide) rfl ?_
      refine mw_sub [1, 3, 5, 0] rfl ?_
      exact T_X12_shifts_76 C 20000 x2 x5 0 _ _ hF
    · refine mw_if_ne_f (tgt := 73) C dX12_shifts_64 (by decide) g2 c3 ?_
      refine mw_iinc 4 [(5, iv (x5 + 1)), (0, rfv (xd (zX Z)) 141), (1, iv x1), (2, iv x2), (3, iv x3)] C dX12_shifts_67 rfl (by decide) rfl ?_
      refine mw_goto (tgt := 55) C dX12_shifts_70 (by decide) ?_
      refine mw_sub [1, 2, 3, 4, 0] rfl ?_
      exact ih x1 x2 x3 (x5 + 1) _ _ hF
def F_X12_shifts_30 (x1 : Int) (x2 : Int) (x3 : Int) (s1 : Int) (h : MH) : Option (Int × MH) :=
  ck (in32 x3) <|
  (F_X12_wrongRow s1 x1 x2 1 x3 h).bind fun q2 =>
  ck (in32 q2.1) <|
  if q2.1 ≤ 0 then
    F_X12_shifts_55 20000 x1 x2 x3 1 q2.2
  else
    (F_X12_refuse q2.1 q2.2).bind fun q5 =>
    some (q5.1, q5.2)
set_option maxRecDepth 100000 in
theorem T_X12_shifts_30 {Z : ZT} (C : Cx Z cX12_shifts 7 RX12 3 (some .int)) (x1 : Int) (x2 : Int) (x3 : Int) (s1 : Int) (h : MH) (t : (Int × MH)) (hF : F_X12_shifts_30 x1 x2 x3 s1 h = some t) : MW Z (Qm Z (some (iv t.1)) zN zG t.2 0 0) 7 zN zG h 0 0 30 [(0, rfv (xd (zX Z)) 141), (1, iv x1), (2, iv x2), (3, iv x3)] [iv s1, rfv (xd (zX Z)) 141] := by
  unfold F_X12_shifts_30 at hF
  refine mw_iload_n 1 C dX12_shifts_30 rfl rfl ?_
  refine mw_iload_n 2 C dX12_shifts_31 rfl rfl ?_
  refine mw_lconst (a := 1) C dX12_shifts_32 lc_1 ?_
  refine mw_iload_n 3 C dX12_shifts_33 rfl rfl ?_
  obtain ⟨g1, hF⟩ := ck_some hF
  refine mw_i2l C dX12_shifts_34 g1 ?_
  obtain ⟨q2, hq2, hF⟩ := bind_some hF
  refine mw_callV (c := 141) [iv s1, iv x1, iv x2, lvv 1, lvv x3] [] C dX12_shifts_35 (T_X12_wrongRow (zl Z) (zX Z) s1 x1 x2 1 x3 _ _ hq2) rfl zn141 zk141 (by decide) rfl wd1226 wd1227 wd1398 wd14 wd1228 hd_X12_wrongRow rfl (by decide) (by decide) (Nat.le_of_ble_eq_true rfl) ⟨Nat.zero_le _, Nat.zero_le _⟩ ?_
  refine mw_istore [(4, iv q2.1), (0, rfv (xd (zX Z)) 141), (1, iv x1), (2, iv x2), (3, iv x3)] C dX12_shifts_38 (by decide) rfl ?_
  refine mw_iload 0 C dX12_shifts_40 rfl ?_
  obtain ⟨g3, hF⟩ := ck_some hF
  rcases ite_some hF with ⟨c4, hF⟩ | ⟨c4, hF⟩
  · refine mw_if_le_t (tgt := 52) C dX12_shifts_42 (by decide) g3 c4 ?_
    refine mw_iconst C dX12_shifts_52 ?_
    refine mw_istore [(5, iv 1), (4, iv q2.1), (0, rfv (xd (zX Z)) 141), (1, iv x1), (2, iv x2), (3, iv x3)] C dX12_shifts_53 (by decide) rfl ?_
    refine mw_sub [2, 3, 4, 5, 0] rfl ?_
    exact T_X12_shifts_55 C 20000 x1 x2 x3 1 _ _ hF
  · refine mw_if_le_f (tgt := 52) C dX12_shifts_42 (by decide) g3 c4 ?_
    refine mw_aload_n 1 C dX12_shifts_45 rfl rfl ?_
    refine mw_iload 0 C dX12_shifts_46 rfl ?_
    obtain ⟨q5, hq5, hF⟩ := bind_some hF
    refine mw_callV (c := 141) [iv q2.1] [] C dX12_shifts_48 (T_X12_refuse (zl Z) (zX Z) q2.1 _ _ hq5) rfl zn141 zk141 (by decide) rfl wd997 wd998 wd1360 wd14 wd999 hd_X12_refuse rfl (by decide) (by decide) (Nat.le_of_ble_eq_true rfl) ⟨Nat.zero_le _, Nat.zero_le _⟩ ?_
    cases hF
    exact mw_iret C dX12_shifts_51 rfl rfl
def F_X12_shifts_29 (x1 : Int) (x2 : Int) (x3 : Int) (h : MH) : Option (Int × MH) :=
  F_X12_shifts_30 x1 x2 x3 0 h
set_option maxRecDepth 100000 in
theorem T_X12_shifts_29 {Z : ZT} (C : Cx Z cX12_shifts 7 RX12 3 (some .int)) (x1 : Int) (x2 : Int) (x3 : Int) (h : MH) (t : (Int × MH)) (hF : F_X12_shifts_29 x1 x2 x3 h = some t) : MW Z (Qm Z (some (iv t.1)) zN zG t.2 0 0) 7 zN zG h 0 0 29 [(0, rfv (xd (zX Z)) 141), (1, iv x1), (2, iv x2), (3, iv x3)] [rfv (xd (zX Z)) 141] := by
  unfold F_X12_shifts_29 at hF
  refine mw_iconst C dX12_shifts_29 ?_
  exact T_X12_shifts_30 C x1 x2 x3 0 _ _ hF
def F_X12_shifts_0 (x1 : Int) (x2 : Int) (x3 : Int) (h : MH) : Option (Int × MH) :=
  ck (in32 x2) <|
  (F_X12_isFrom x2 1 8 h).bind fun q2 =>
  ck (in32 q2.1) <|
  if q2.1 = 0 then
    F_X12_shifts_29 x1 x2 x3 q2.2
  else
    ck (in32 x3) <|
    (F_X12_isFrom x3 1 999 q2.2).bind fun q6 =>
    ck (in32 q6.1) <|
    if q6.1 = 0 then
      F_X12_shifts_29 x1 x2 x3 q6.2
    else
      F_X12_shifts_30 x1 x2 x3 1 q6.2
set_option maxRecDepth 100000 in
theorem T_X12_shifts_0 {Z : ZT} (C : Cx Z cX12_shifts 7 RX12 3 (some .int)) (x1 : Int) (x2 : Int) (x3 : Int) (h : MH) (t : (Int × MH)) (hF : F_X12_shifts_0 x1 x2 x3 h = some t) : MW Z (Qm Z (some (iv t.1)) zN zG t.2 0 0) 7 zN zG h 0 0 0 [(0, rfv (xd (zX Z)) 141), (1, iv x1), (2, iv x2), (3, iv x3)] [] := by
  unfold F_X12_shifts_0 at hF
  refine mw_aload_n 0 C dX12_shifts_0 rfl rfl ?_
  refine mw_iload_n 2 C dX12_shifts_1 rfl rfl ?_
  obtain ⟨g1, hF⟩ := ck_some hF
  refine mw_i2l C dX12_shifts_2 g1 ?_
  refine mw_lconst (a := 1) C dX12_shifts_3 lc_1 ?_
  refine mw_ldc2 (a := 8) C dX12_shifts_4 wd1139 rfl ?_
  obtain ⟨q2, hq2, hF⟩ := bind_some hF
  refine mw_callS [lvv x2, lvv 1, lvv 8] [rfv (xd (zX Z)) 141] C dX12_shifts_7 (T_X12_isFrom (zl Z) (zX Z) x2 1 8 _ _ hq2) rfl wd1116 wd1117 wd14 wd1118 hd_X12_isFrom rfl (by decide) (by decide) (Nat.le_of_ble_eq_true rfl) ⟨Nat.zero_le _, Nat.zero_le _⟩ ?_
  obtain ⟨g3, hF⟩ := ck_some hF
  rcases ite_some hF with ⟨c4, hF⟩ | ⟨c4, hF⟩
  · refine mw_if_eq_t (tgt := 29) C dX12_shifts_10 (by decide) g3 c4 ?_
    exact T_X12_shifts_29 C x1 x2 x3 _ _ hF
  · refine mw_if_eq_f (tgt := 29) C dX12_shifts_10 (by decide) g3 c4 ?_
    refine mw_iload_n 3 C dX12_shifts_13 rfl rfl ?_
    obtain ⟨g5, hF⟩ := ck_some hF
    refine mw_i2l C dX12_shifts_14 g5 ?_
    refine mw_lconst (a := 1) C dX12_shifts_15 lc_1 ?_
    refine mw_ldc2 (a := 999) C dX12_shifts_16 wd1289 rfl ?_
    obtain ⟨q6, hq6, hF⟩ := bind_some hF
    refine mw_callS [lvv x3, lvv 1, lvv 999] [rfv (xd (zX Z)) 141] C dX12_shifts_19 (T_X12_isFrom (zl Z) (zX Z) x3 1 999 _ _ hq6) rfl wd1116 wd1117 wd14 wd1118 hd_X12_isFrom rfl (by decide) (by decide) (Nat.le_of_ble_eq_true rfl) ⟨Nat.zero_le _, Nat.zero_le _⟩ ?_
    obtain ⟨g7, hF⟩ := ck_some hF
    rcases ite_some hF with ⟨c8, hF⟩ | ⟨c8, hF⟩
    · refine mw_if_eq_t (tgt := 29) C dX12_shifts_22 (by decide) g7 c8 ?_
      exact T_X12_shifts_29 C x1 x2 x3 _ _ hF
    · refine mw_if_eq_f (tgt := 29) C dX12_shifts_22 (by decide) g7 c8 ?_
      refine mw_iconst C dX12_shifts_25 ?_
      refine mw_goto (tgt := 30) C dX12_shifts_26 (by decide) ?_
      exact T_X12_shifts_30 C x1 x2 x3 1 _ _ hF
def F_X12_shifts (x1 : Int) (x2 : Int) (x3 : Int) (h : MH) : Option (Int × MH) := F_X12_shifts_0 x1 x2 x3 h
theorem T_X12_shifts (l : Launch) (X : XT) (x1 : Int) (x2 : Int) (x3 : Int) (h : MH) (t : (Int × MH)) (hF : F_X12_shifts x1 x2 x3 h = some t) : Ct l X yX12_shifts cX12_shifts 7 (some .int) 3 [rfv (xd X) 141, iv x1, iv x2, iv x3] zN zG h (some (iv t.1)) zN zG t.2 0 0 := by
  refine Ct.head (by decide) (Nat.le_of_ble_eq_true rfl) (fun Z hX hl _ _ _ C => ?_)
  subst hX
  subst hl
  exact (T_X12_shifts_0 C x1 x2 x3 _ _ hF)
/-! BottleLineModel.shiftOf(I)I -/
def F_X12_shiftOf_0 (x1 : Int) (h : MH) : Option (Int × MH) :=
  ck (in32 x1) <|
  if 0 ≤ x1 then
    ck (in32 (h 141 49)) <|
    if x1 < (h 141 49) then
      ck (0 ≤ x1 ∧ x1 < 8) <|
      ck (in32 (h 164 x1.toNat)) <|
      (F_X12_gives (h 164 x1.toNat) h).bind fun q7 =>
      some (q7.1, q7.2)
    else
      (F_X12_refuse 6 h).bind fun q8 =>
      some (q8.1, q8.2)
  else
    (F_X12_refuse 1 h).bind fun q9 =>
    some (q9.1, q9.2)
set_option maxRecDepth 100000 in
theorem T_X12_shiftOf_0 {Z : ZT} (C : Cx Z cX12_shiftOf 2 RX12 2 (some .int)) (x1 : Int) (h : MH) (t : (Int × MH)) (hF : F_X12_shiftOf_0 x1 h = some t) : MW Z (Qm Z (some (iv t.1)) zN zG t.2 0 0) 2 zN zG h 0 0 0 [(0, rfv (xd (zX Z)) 141), (1, iv x1)] [] := by
  unfold F_X12_shiftOf_0 at hF
  refine mw_iload_n 1 C dX12_shiftOf_0 rfl rfl ?_
  obtain ⟨g1, hF⟩ := ck_some hF
  rcases ite_some hF with ⟨c2, hF⟩ | ⟨c2, hF⟩
  · refine mw_if_ge_t (tgt := 12) C dX12_shiftOf_1 (by decide) g1 c2 ?_
    refine mw_iload_n 1 C dX12_shiftOf_12 rfl rfl ?_
    refine mw_aload_n 0 C dX12_shiftOf_13 rfl rfl ?_
    refine mw_get (k := 49) (T := TX12) (v := iv (h 141 49)) C dX12_shiftOf_14 zn141 zk141 (by decide) rfl inX12 (by decide) wd938 rfl rfl ?_
    obtain ⟨g3, hF⟩ := ck_some hF
    rcases ite_some hF with ⟨c4, hF⟩ | ⟨c4, hF⟩
    · refine mw_icmp_lt_t (tgt := 29) C dX12_shiftOf_17 (by decide) g1 g3 c4 ?_
      refine mw_aload_n 0 C dX12_shiftOf_29 rfl rfl ?_
      refine mw_aload_n 0 C dX12_shiftOf_30 rfl rfl ?_
      refine mw_get (k := 47) (T := TX12) (v := rfv (xd (zX Z)) 164) C dX12_shiftOf_31 zn141 zk141 (by decide) rfl inX12 (by decide) wd936 rfl (zfv_r rfl zg_141_47) ?_
      refine mw_iload_n 1 C dX12_shiftOf_34 rfl rfl ?_
      obtain ⟨g5, hF⟩ := ck_some hF
      refine mw_iald C dX12_shiftOf_35 zn164 zk164 (by decide) g5 ?_
      obtain ⟨g6, hF⟩ := ck_some hF
      refine mw_i2l C dX12_shiftOf_36 g6 ?_
      obtain ⟨q7, hq7, hF⟩ := bind_some hF
      refine mw_callV (c := 141) [lvv (h 164 x1.toNat)] [] C dX12_shiftOf_37 (T_X12_gives (zl Z) (zX Z) (h 164 x1.toNat) _ _ hq7) rfl zn141 zk141 (by decide) rfl wd1069 wd1070 wd1379 wd14 wd1071 hd_X12_gives rfl (by decide) (by decide) (Nat.le_of_ble_eq_true rfl) ⟨Nat.zero_le _, Nat.zero_le _⟩ ?_
      cases hF
      exact mw_iret C dX12_shiftOf_40 rfl rfl
    · refine mw_icmp_lt_f (tgt := 29) C dX12_shiftOf_17 (by decide) g1 g3 c4 ?_
      refine mw_aload_n 0 C dX12_shiftOf_20 rfl rfl ?_
      refine mw_bipush C dX12_shiftOf_21 bp_6 ?_
      obtain ⟨q8, hq8, hF⟩ := bind_some hF
      refine mw_callV (c := 141) [iv 6] [] C dX12_shiftOf_23 (T_X12_refuse (zl Z) (zX Z) 6 _ _ hq8) rfl zn141 zk141 (by decide) rfl wd997 wd998 wd1360 wd14 wd999 hd_X12_refuse rfl (by decide) (by decide) (Nat.le_of_ble_eq_true rfl) ⟨Nat.zero_le _, Nat.zero_le _⟩ ?_
      refine mw_goto (tgt := 40) C dX12_shiftOf_26 (by decide) ?_
      cases hF
      exact mw_iret C dX12_shiftOf_40 rfl rfl
  · refine mw_if_ge_f (tgt := 12) C dX12_shiftOf_1 (by decide) g1 c2 ?_
    refine mw_aload_n 0 C dX12_shiftOf_4 rfl rfl ?_
    refine mw_iconst C dX12_shiftOf_5 ?_
    obtain ⟨q9, hq9, hF⟩ := bind_some hF
    refine mw_callV (c := 141) [iv 1] [] C dX12_shiftOf_6 (T_X12_refuse (zl Z) (zX Z) 1 _ _ hq9) rfl zn141 zk141 (by decide) rfl wd997 wd998 wd1360 wd14 wd999 hd_X12_refuse rfl (by decide) (by decide) (Nat.le_of_ble_eq_true rfl) ⟨Nat.zero_le _, Nat.zero_le _⟩ ?_
    refine mw_goto (tgt := 40) C dX12_shiftOf_9 (by decide) ?_
    cases hF
    exact mw_iret C dX12_shiftOf_40 rfl rfl
def F_X12_shiftOf (x1 : Int) (h : MH) : Option (Int × MH) := F_X12_shiftOf_0 x1 h
theorem T_X12_shiftOf (l : Launch) (X : XT) (x1 : Int) (h : MH) (t : (Int × MH)) (hF : F_X12_shiftOf x1 h = some t) : Ct l X yX12_shiftOf cX12_shiftOf 2 (some .int) 2 [rfv (xd X) 141, iv x1] zN zG h (some (iv t.1)) zN zG t.2 0 0 := by
  refine Ct.head (by decide) (Nat.le_of_ble_eq_true rfl) (fun Z hX hl _ _ _ C => ?_)
  subst hX
  subst hl
  exact (T_X12_shiftOf_0 C x1 _ _ hF)
/-! BottleLineModel.mark()I -/
def F_X12_mark_0 (h : MH) : Option (Int × MH) :=
  ck (in32 (h 141 50)) <|
  if (h 141 50) ≠ 3 then
    nx (hup h 141 50 ((h 141 50) + 1)) fun h3 =>
    (F_X12_copies 0 (440 * (h3 141 50)) h3).bind fun q4 =>
    ck (in32 (q4 141 50)) <|
    (F_X12_gives (q4 141 50) q4).bind fun q6 =>
    some (q6.1, q6.2)
  else
    (F_X12_refuse 4 h).bind fun q7 =>
    some (q7.1, q7.2)
set_option maxRecDepth 100000 in
theorem T_X12_mark_0 {Z : ZT} (C : Cx Z cX12_mark 1 RX12 2 (some .int)) (h : MH) (t : (Int × MH)) (hF : F_X12_mark_0 h = some t) : MW Z (Qm Z (some (iv t.1)) zN zG t.2 0 0) 1 zN zG h 0 0 0 [(0, rfv (xd (zX Z)) 141)] [] := by
  unfold F_X12_mark_0 at hF
  refine mw_aload_n 0 C dX12_mark_0 rfl rfl ?_
  refine mw_get (k := 50) (T := TX12) (v := iv (h 141 50)) C dX12_mark_1 zn141 zk141 (by decide) rfl inX12 (by decide) wd939 rfl rfl ?_
  refine mw_iconst C dX12_mark_4 ?_
  obtain ⟨g1, hF⟩ := ck_some hF
  rcases ite_some hF with ⟨c2, hF⟩ | ⟨c2, hF⟩
  · refine mw_icmp_ne_t (tgt := 14) C dX12_mark_5 (by decide) g1 (by decide) c2 ?_
    refine mw_aload_n 0 C dX12_mark_14 rfl rfl ?_
    refine mw_dup C dX12_mark_15 rfl ?_
    refine mw_get (k := 50) (T := TX12) (v := iv (h 141 50)) C dX12_mark_16 zn141 zk141 (by decide) rfl inX12 (by decide) wd939 rfl rfl ?_
    refine mw_iconst C dX12_mark_19 ?_
    refine mw_iadd C dX12_mark_20 ?_
    obtain ⟨h3, eh3, hF⟩ := nx_some hF
    refine mw_put (k := 50) (T := TX12) (ty0 := tyX12) (x := ((h 141 50) + 1)) C dX12_mark_21 zn141 zk141 (by decide) rfl inX12 tyX12_ok nmX12 (by decide) wd939 rfl rfl rfl rfl rfl (by decide) (mw_h eh3 ?_)
    refine mw_aload_n 0 C dX12_mark_24 rfl rfl ?_
    refine mw_iconst C dX12_mark_25 ?_
    refine mw_sipush C dX12_mark_26 sp_440 ?_
    refine mw_aload_n 0 C dX12_mark_29 rfl rfl ?_
    refine mw_get (k := 50) (T := TX12) (v := iv (h3 141 50)) C dX12_mark_30 zn141 zk141 (by decide) rfl inX12 (by decide) wd939 rfl rfl ?_
    refine mw_imul C dX12_mark_33 ?_
    obtain ⟨q4, hq4, hF⟩ := bind_some hF
    refine mw_callV (c := 141) [iv 0, iv (440 * (h3 141 50))] [] C dX12_mark_34 (T_X12_copies (zl Z) (zX Z) 0 (440 * (h3 141 50)) _ _ hq4) rfl zn141 zk141 (by decide) rfl wd1171 wd1172 wd1393 wd14 wd1173 hd_X12_copies rfl (by decide) (by decide) (Nat.le_of_ble_eq_true rfl) ⟨Nat.zero_le _, Nat.zero_le _⟩ ?_
    refine mw_aload_n 0 C dX12_mark_37 rfl rfl ?_
    refine mw_aload_n 0 C dX12_mark_38 rfl rfl ?_
    refine mw_get (k := 50) (T := TX12) (v := iv (q4 141 50)) C dX12_mark_39 zn141 zk141 (by decide) rfl inX12 (by decide) wd939 rfl rfl ?_
    obtain ⟨g5, hF⟩ := ck_some hF
    refine mw_i2l C dX12_mark_42 g5 ?_
    obtain ⟨q6, hq6, hF⟩ := bind_some hF
    refine mw_callV (c := 141) [lvv (q4 141 50)] [] C dX12_mark_43 (T_X12_gives (zl Z) (zX Z) (q4 141 50) _ _ hq6) rfl zn141 zk141 (by decide) rfl wd1069 wd1070 wd1379 wd14 wd1071 hd_X12_gives rfl (by decide) (by decide) (Nat.le_of_ble_eq_true rfl) ⟨Nat.zero_le _, Nat.zero_le _⟩ ?_
    cases hF
    exact mw_iret C dX12_mark_46 rfl rfl
  · refine mw_icmp_ne_f (tgt := 14) C dX12_mark_5 (by decide) g1 (by decide) c2 ?_
    refine mw_aload_n 0 C dX12_mark_8 rfl rfl ?_
    refine mw_iconst C dX12_mark_9 ?_
    obtain ⟨q7, hq7, hF⟩ := bind_some hF
    refine mw_callV (c := 141) [iv 4] [] C dX12_mark_10 (T_X12_refuse (zl Z) (zX Z) 4 _ _ hq7) rfl zn141 zk141 (by decide) rfl wd997 wd998 wd1360 wd14 wd999 hd_X12_refuse rfl (by decide) (by decide) (Nat.le_of_ble_eq_true rfl) ⟨Nat.zero_le _, Nat.zero_le _⟩ ?_
    cases hF
    exact mw_iret C dX12_mark_13 rfl rfl
def F_X12_mark (h : MH) : Option (Int × MH) := F_X12_mark_0 h
theorem T_X12_mark (l : Launch) (X : XT) (h : MH) (t : (Int × MH)) (hF : F_X12_mark h = some t) : Ct l X yX12_mark cX12_mark 1 (some .int) 2 [rfv (xd X) 141] zN zG h (some (iv t.1)) zN zG t.2 0 0 := by
  refine Ct.head (by decide) (Nat.le_of_ble_eq_true rfl) (fun Z hX hl _ _ _ C => ?_)
  subst hX
  subst hl
  exact (T_X12_mark_0 C _ _ hF)
/-! BottleLineModel.back()I -/
def F_X12_back_0 (h : MH) : Option (Int × MH) :=
  ck (in32 (h 141 50)) <|
  if (h 141 50) ≠ 0 then
    (F_X12_copies (440 * (h 141 50)) 0 h).bind fun q3 =>
    nx (hup q3 141 50 ((q3 141 50) - 1)) fun h4 =>
    ck (in32 (h4 141 50)) <|
    (F_X12_gives (h4 141 50) h4).bind fun q6 =>
    some (q6.1, q6.2)
  else
    (F_X12_refuse 6 h).bind fun q7 =>
    some (q7.1, q7.2)
set_option maxRecDepth 100000 in
theorem T_X12_back_0 {Z : ZT} (C : Cx Z cX12_back 1 RX12 2 (some .int)) (h : MH) (t : (Int × MH)) (hF : F_X12_back_0 h = some t) : MW Z (Qm Z (some (iv t.1)) zN zG t.2 0 0) 1 zN zG h 0 0 0 [(0, rfv (xd (zX Z)) 141)] [] := by
  unfold F_X12_back_0 at hF
  refine mw_aload_n 0 C dX12_back_0 rfl rfl ?_
  refine mw_get (k := 50) (T := TX12) (v := iv (h 141 50)) C dX12_back_1 zn141 zk141 (by decide) rfl inX12 (by decide) wd939 rfl rfl ?_
  obtain ⟨g1, hF⟩ := ck_some hF
  rcases ite_some hF with ⟨c2, hF⟩ | ⟨c2, hF⟩
  · refine mw_if_ne_t (tgt := 14) C dX12_back_4 (by decide) g1 c2 ?_
    refine mw_aload_n 0 C dX12_back_14 rfl rfl ?_
    refine mw_sipush C dX12_back_15 sp_440 ?_
    refine mw_aload_n 0 C dX12_back_18 rfl rfl ?_
    refine mw_get (k := 50) (T := TX12) (v := iv (h 141 50)) C dX12_back_19 zn141 zk141 (by decide) rfl inX12 (by decide) wd939 rfl rfl ?_
    refine mw_imul C dX12_back_22 ?_
    refine mw_iconst C dX12_back_23 ?_
    obtain ⟨q3, hq3, hF⟩ := bind_some hF
    refine mw_callV (c := 141) [iv (440 * (h 141 50)), iv 0] [] C dX12_back_24 (T_X12_copies (zl Z) (zX Z) (440 * (h 141 50)) 0 _ _ hq3) rfl zn141 zk141 (by decide) rfl wd1171 wd1172 wd1393 wd14 wd1173 hd_X12_copies rfl (by decide) (by decide) (Nat.le_of_ble_eq_true rfl) ⟨Nat.zero_le _, Nat.zero_le _⟩ ?_
    refine mw_aload_n 0 C dX12_back_27 rfl rfl ?_
    refine mw_dup C dX12_back_28 rfl ?_
    refine mw_get (k := 50) (T := TX12) (v := iv (q3 141 50)) C dX12_back_29 zn141 zk141 (by decide) rfl inX12 (by decide) wd939 rfl rfl ?_
    refine mw_iconst C dX12_back_32 ?_
    refine mw_isub C dX12_back_33 ?_
    obtain ⟨h4, eh4, hF⟩ := nx_some hF
    refine mw_put (k := 50) (T := TX12) (ty0 := tyX12) (x := ((q3 141 50) - 1)) C dX12_back_34 zn141 zk141 (by decide) rfl inX12 tyX12_ok nmX12 (by decide) wd939 rfl rfl rfl rfl rfl (by decide) (mw_h eh4 ?_)
    refine mw_aload_n 0 C dX12_back_37 rfl rfl ?_
    refine mw_aload_n 0 C dX12_back_38 rfl rfl ?_
    refine mw_get (k := 50) (T := TX12) (v := iv (h4 141 50)) C dX12_back_39 zn141 zk141 (by decide) rfl inX12 (by decide) wd939 rfl rfl ?_
    obtain ⟨g5, hF⟩ := ck_some hF
    refine mw_i2l C dX12_back_42 g5 ?_
    obtain ⟨q6, hq6, hF⟩ := bind_some hF
    refine mw_callV (c := 141) [lvv (h4 141 50)] [] C dX12_back_43 (T_X12_gives (zl Z) (zX Z) (h4 141 50) _ _ hq6) rfl zn141 zk141 (by decide) rfl wd1069 wd1070 wd1379 wd14 wd1071 hd_X12_gives rfl (by decide) (by decide) (Nat.le_of_ble_eq_true rfl) ⟨Nat.zero_le _, Nat.zero_le _⟩ ?_
    cases hF
    exact mw_iret C dX12_back_46 rfl rfl
  · refine mw_if_ne_f (tgt := 14) C dX12_back_4 (by decide) g1 c2 ?_
    refine mw_aload_n 0 C dX12_back_7 rfl rfl ?_
    refine mw_bipush C dX12_back_8 bp_6 ?_
    obtain ⟨q7, hq7, hF⟩ := bind_some hF
    refine mw_callV (c := 141) [iv 6] [] C dX12_back_10 (T_X12_refuse (zl Z) (zX Z) 6 _ _ hq7) rfl zn141 zk141 (by decide) rfl wd997 wd998 wd1360 wd14 wd999 hd_X12_refuse rfl (by decide) (by decide) (Nat.le_of_ble_eq_true rfl) ⟨Nat.zero_le _, Nat.zero_le _⟩ ?_
    cases hF
    exact mw_iret C dX12_back_13 rfl rfl
def F_X12_back (h : MH) : Option (Int × MH) := F_X12_back_0 h
theorem T_X12_back (l : Launch) (X : XT) (h : MH) (t : (Int × MH)) (hF : F_X12_back h = some t) : Ct l X yX12_back cX12_back 1 (some .int) 2 [rfv (xd X) 141] zN zG h (some (iv t.1)) zN zG t.2 0 0 := by
  refine Ct.head (by decide) (Nat.le_of_ble_eq_true rfl) (fun Z hX hl _ _ _ C => ?_)
  subst hX
  subst hl
  exact (T_X12_back_0 C _ _ hF)
