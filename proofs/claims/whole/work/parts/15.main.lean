/-! BottleLine.status()I -/
def F_X11_status_0 (h : MH) : Option (Int × MH) :=
  some ((h 0 0), h)
set_option maxRecDepth 100000 in
theorem T_X11_status_0 {Z : ZT} (C : Cx Z cX11_status 1 RX11 1 (some .int)) (h : MH) (t : (Int × MH)) (hF : F_X11_status_0 h = some t) : MW Z (Qm Z (some (iv t.1)) zN zG t.2 0 0) 1 zN zG h 0 0 0 [(0, rfv (xd (zX Z)) 0)] [] := by
  unfold F_X11_status_0 at hF
  refine mw_aload_n 0 C dX11_status_0 rfl rfl ?_
  refine mw_get (k := 0) (T := TX11) (v := iv (h 0 0)) C dX11_status_1 zn0 zk0 (by decide) rfl inX11 (by decide) wd249 rfl rfl ?_
  cases hF
  exact mw_iret C dX11_status_4 rfl rfl
def F_X11_status (h : MH) : Option (Int × MH) := F_X11_status_0 h
theorem T_X11_status (l : Launch) (X : XT) (h : MH) (t : (Int × MH)) (hF : F_X11_status h = some t) : Ct l X yX11_status cX11_status 1 (some .int) 1 [rfv (xd X) 0] zN zG h (some (iv t.1)) zN zG t.2 0 0 := by
  refine Ct.head (by decide) (Nat.le_of_ble_eq_true rfl) (fun Z hX hl _ _ _ C => ?_)
  subst hX
  subst hl
  exact (T_X11_status_0 C _ _ hF)
/-! BottleLine.top()J -/
def F_X11_top_0 (h : MH) : Option (Int × MH) :=
  some ((h 0 1), h)
set_option maxRecDepth 100000 in
theorem T_X11_top_0 {Z : ZT} (C : Cx Z cX11_top 1 RX11 1 (some .long)) (h : MH) (t : (Int × MH)) (hF : F_X11_top_0 h = some t) : MW Z (Qm Z (some (lvv t.1)) zN zG t.2 0 0) 1 zN zG h 0 0 0 [(0, rfv (xd (zX Z)) 0)] [] := by
  unfold F_X11_top_0 at hF
  refine mw_aload_n 0 C dX11_top_0 rfl rfl ?_
  refine mw_get (k := 1) (T := TX11) (v := lvv (h 0 1)) C dX11_top_1 zn0 zk0 (by decide) rfl inX11 (by decide) wd250 rfl rfl ?_
  cases hF
  exact mw_lret C dX11_top_4 rfl rfl
def F_X11_top (h : MH) : Option (Int × MH) := F_X11_top_0 h
theorem T_X11_top (l : Launch) (X : XT) (h : MH) (t : (Int × MH)) (hF : F_X11_top h = some t) : Ct l X yX11_top cX11_top 1 (some .long) 1 [rfv (xd X) 0] zN zG h (some (lvv t.1)) zN zG t.2 0 0 := by
  refine Ct.head (by decide) (Nat.le_of_ble_eq_true rfl) (fun Z hX hl _ _ _ C => ?_)
  subst hX
  subst hl
  exact (T_X11_top_0 C _ _ hF)
/-! BottleLine.bottom()J -/
def F_X11_bottom_0 (h : MH) : Option (Int × MH) :=
  some ((h 0 2), h)
set_option maxRecDepth 100000 in
theorem T_X11_bottom_0 {Z : ZT} (C : Cx Z cX11_bottom 1 RX11 1 (some .long)) (h : MH) (t : (Int × MH)) (hF : F_X11_bottom_0 h = some t) : MW Z (Qm Z (some (lvv t.1)) zN zG t.2 0 0) 1 zN zG h 0 0 0 [(0, rfv (xd (zX Z)) 0)] [] := by
  unfold F_X11_bottom_0 at hF
  refine mw_aload_n 0 C dX11_bottom_0 rfl rfl ?_
  refine mw_get (k := 2) (T := TX11) (v := lvv (h 0 2)) C dX11_bottom_1 zn0 zk0 (by decide) rfl inX11 (by decide) wd251 rfl rfl ?_
  cases hF
  exact mw_lret C dX11_bottom_4 rfl rfl
def F_X11_bottom (h : MH) : Option (Int × MH) := F_X11_bottom_0 h
theorem T_X11_bottom (l : Launch) (X : XT) (h : MH) (t : (Int × MH)) (hF : F_X11_bottom h = some t) : Ct l X yX11_bottom cX11_bottom 1 (some .long) 1 [rfv (xd X) 0] zN zG h (some (lvv t.1)) zN zG t.2 0 0 := by
  refine Ct.head (by decide) (Nat.le_of_ble_eq_true rfl) (fun Z hX hl _ _ _ C => ?_)
  subst hX
  subst hl
  exact (T_X11_bottom_0 C _ _ hF)
/-! BottleLine.isTray(I)Z -/
def F_X11_isTray_0 (x0 : Int) (h : MH) : Option (Int × MH) :=
  ck (in32 x0) <|
  if x0 < 0 then
    some (0, h)
  else
    if 4 ≤ x0 then
      some (0, h)
    else
      some (1, h)
set_option maxRecDepth 100000 in
theorem T_X11_isTray_0 {Z : ZT} (C : Cx Z cX11_isTray 1 RX11 1 (some .boolean)) (x0 : Int) (h : MH) (t : (Int × MH)) (hF : F_X11_isTray_0 x0 h = some t) : MW Z (Qm Z (some (iv t.1)) zN zG t.2 0 0) 1 zN zG h 0 0 0 [(0, iv x0)] [] := by
  unfold F_X11_isTray_0 at hF
  refine mw_iload_n 0 C dX11_isTray_0 rfl rfl ?_
  obtain ⟨g1, hF⟩ := ck_some hF
  rcases ite_some hF with ⟨c2, hF⟩ | ⟨c2, hF⟩
  · refine mw_if_lt_t (tgt := 13) C dX11_isTray_1 (by decide) g1 c2 ?_
    refine mw_iconst C dX11_isTray_13 ?_
    cases hF
    exact mw_zret C dX11_isTray_14 (Or.inl rfl) rfl rfl
  · refine mw_if_lt_f (tgt := 13) C dX11_isTray_1 (by decide) g1 c2 ?_
    refine mw_iload_n 0 C dX11_isTray_4 rfl rfl ?_
    refine mw_iconst C dX11_isTray_5 ?_
    rcases ite_some hF with ⟨c3, hF⟩ | ⟨c3, hF⟩
    · refine mw_icmp_ge_t (tgt := 13) C dX11_isTray_6 (by decide) g1 (by decide) c3 ?_
      refine mw_iconst C dX11_isTray_13 ?_
      cases hF
      exact mw_zret C dX11_isTray_14 (Or.inl rfl) rfl rfl
    · refine mw_icmp_ge_f (tgt := 13) C dX11_isTray_6 (by decide) g1 (by decide) c3 ?_
      refine mw_iconst C dX11_isTray_9 ?_
      refine mw_goto (tgt := 14) C dX11_isTray_10 (by decide) ?_
      cases hF
      exact mw_zret C dX11_isTray_14 (Or.inr rfl) rfl rfl
def F_X11_isTray (x0 : Int) (h : MH) : Option (Int × MH) := F_X11_isTray_0 x0 h
theorem T_X11_isTray (l : Launch) (X : XT) (x0 : Int) (h : MH) (t : (Int × MH)) (hF : F_X11_isTray x0 h = some t) : Ct l X yX11_isTray cX11_isTray 1 (some .boolean) 1 [iv x0] zN zG h (some (iv t.1)) zN zG t.2 0 0 := by
  refine Ct.head (by decide) (Nat.le_of_ble_eq_true rfl) (fun Z hX hl _ _ _ C => ?_)
  subst hX
  subst hl
  exact (T_X11_isTray_0 C x0 _ _ hF)
/-! BottleLine.refused(I)Z -/
def F_X11_refused_0 (x1 : Int) (h : MH) : Option (Int × MH) :=
  nx (hup h 0 0 x1) fun h1 =>
  some (0, h1)
set_option maxRecDepth 100000 in
theorem T_X11_refused_0 {Z : ZT} (C : Cx Z cX11_refused 2 RX11 1 (some .boolean)) (x1 : Int) (h : MH) (t : (Int × MH)) (hF : F_X11_refused_0 x1 h = some t) : MW Z (Qm Z (some (iv t.1)) zN zG t.2 0 0) 2 zN zG h 0 0 0 [(0, rfv (xd (zX Z)) 0), (1, iv x1)] [] := by
  unfold F_X11_refused_0 at hF
  refine mw_aload_n 0 C dX11_refused_0 rfl rfl ?_
  refine mw_iload_n 1 C dX11_refused_1 rfl rfl ?_
  obtain ⟨h1, eh1, hF⟩ := nx_some hF
  refine mw_put (k := 0) (T := TX11) (ty0 := tyX11) (x := x1) C dX11_refused_2 zn0 zk0 (by decide) rfl inX11 tyX11_ok nmX11 (by decide) wd249 rfl rfl rfl rfl rfl (by decide) (mw_h eh1 ?_)
  refine mw_iconst C dX11_refused_5 ?_
  cases hF
  exact mw_zret C dX11_refused_6 (Or.inl rfl) rfl rfl
def F_X11_refused (x1 : Int) (h : MH) : Option (Int × MH) := F_X11_refused_0 x1 h
theorem T_X11_refused (l : Launch) (X : XT) (x1 : Int) (h : MH) (t : (Int × MH)) (hF : F_X11_refused x1 h = some t) : Ct l X yX11_refused cX11_refused 2 (some .boolean) 1 [rfv (xd X) 0, iv x1] zN zG h (some (iv t.1)) zN zG t.2 0 0 := by
  refine Ct.head (by decide) (Nat.le_of_ble_eq_true rfl) (fun Z hX hl _ _ _ C => ?_)
  subst hX
  subst hl
  exact (T_X11_refused_0 C x1 _ _ hF)
/-! BottleLine.granted()Z -/
def F_X11_granted_0 (h : MH) : Option (Int × MH) :=
  nx (hup h 0 0 0) fun h1 =>
  some (1, h1)
set_option maxRecDepth 100000 in
theorem T_X11_granted_0 {Z : ZT} (C : Cx Z cX11_granted 1 RX11 1 (some .boolean)) (h : MH) (t : (Int × MH)) (hF : F_X11_granted_0 h = some t) : MW Z (Qm Z (some (iv t.1)) zN zG t.2 0 0) 1 zN zG h 0 0 0 [(0, rfv (xd (zX Z)) 0)] [] := by
  unfold F_X11_granted_0 at hF
  refine mw_aload_n 0 C dX11_granted_0 rfl rfl ?_
  refine mw_iconst C dX11_granted_1 ?_
  obtain ⟨h1, eh1, hF⟩ := nx_some hF
  refine mw_put (k := 0) (T := TX11) (ty0 := tyX11) (x := 0) C dX11_granted_2 zn0 zk0 (by decide) rfl inX11 tyX11_ok nmX11 (by decide) wd249 rfl rfl rfl rfl rfl (by decide) (mw_h eh1 ?_)
  refine mw_iconst C dX11_granted_5 ?_
  cases hF
  exact mw_zret C dX11_granted_6 (Or.inr rfl) rfl rfl
def F_X11_granted (h : MH) : Option (Int × MH) := F_X11_granted_0 h
theorem T_X11_granted (l : Launch) (X : XT) (h : MH) (t : (Int × MH)) (hF : F_X11_granted h = some t) : Ct l X yX11_granted cX11_granted 1 (some .boolean) 1 [rfv (xd X) 0] zN zG h (some (iv t.1)) zN zG t.2 0 0 := by
  refine Ct.head (by decide) (Nat.le_of_ble_eq_true rfl) (fun Z hX hl _ _ _ C => ?_)
  subst hX
  subst hl
  exact (T_X11_granted_0 C _ _ hF)
/-! BottleLine.tray(III)Z -/
def F_X11_tray_31 (h : MH) : Option (Int × MH) :=
  (F_X11_refused 1 h).bind fun q1 =>
  ck (q1.1 = 0 ∨ q1.1 = 1) <|
  some (q1.1, q1.2)
set_option maxRecDepth 100000 in
theorem T_X11_tray_31 {Z : ZT} (C : Cx Z cX11_tray 4 RX11 2 (some .boolean)) (h : MH) (t : (Int × MH)) (hF : F_X11_tray_31 h = some t) : MW Z (Qm Z (some (iv t.1)) zN zG t.2 0 0) 4 zN zG h 0 0 31 [(0, rfv (xd (zX Z)) 0)] [] := by
  unfold F_X11_tray_31 at hF
  refine mw_aload_n 0 C dX11_tray_31 rfl rfl ?_
  refine mw_iconst C dX11_tray_32 ?_
  obtain ⟨q1, hq1, hF⟩ := bind_some hF
  refine mw_callV (c := 0) [iv 1] [] C dX11_tray_33 (T_X11_refused (zl Z) (zX Z) 1 _ _ hq1) rfl zn0 zk0 (by decide) rfl wd292 wd293 wd1308 wd1 wd294 hd_X11_refused rfl (by decide) (by decide) (Nat.le_of_ble_eq_true rfl) ⟨Nat.zero_le _, Nat.zero_le _⟩ ?_
  obtain ⟨g2, hF⟩ := ck_some hF
  cases hF
  exact mw_zret C dX11_tray_36 g2 rfl rfl
def F_X11_tray_0 (x1 : Int) (x2 : Int) (x3 : Int) (h : MH) : Option (Int × MH) :=
  (F_X11_isTray x1 h).bind fun q1 =>
  ck (in32 q1.1) <|
  if q1.1 = 0 then
    F_X11_tray_31 q1.2
  else
    ck (in32 x2) <|
    (F_X11_outside x2 0 3 q1.2).bind fun q5 =>
    ck (in32 q5.1) <|
    if q5.1 ≠ 0 then
      F_X11_tray_31 q5.2
    else
      ck (in32 x3) <|
      (F_X11_outside x3 0 60 q5.2).bind fun q9 =>
      ck (in32 q9.1) <|
      if q9.1 = 0 then
        ck (0 ≤ x1 ∧ x1 < 4) <|
        (F_J7_fill_d0a16 (2 + x1.toNat) 60 0 q9.2).bind fun q13 =>
        nx (hup q13 6 x1.toNat x2) fun h14 =>
        nx (hup h14 7 x1.toNat x3) fun h15 =>
        (F_X11_granted h15).bind fun q16 =>
        ck (q16.1 = 0 ∨ q16.1 = 1) <|
        some (q16.1, q16.2)
      else
        F_X11_tray_31 q9.2
set_option maxRecDepth 100000 in
theorem T_X11_tray_0 {Z : ZT} (C : Cx Z cX11_tray 4 RX11 2 (some .boolean)) (x1 : Int) (x2 : Int) (x3 : Int) (h : MH) (t : (Int × MH)) (hF : F_X11_tray_0 x1 x2 x3 h = some t) : MW Z (Qm Z (some (iv t.1)) zN zG t.2 0 0) 4 zN zG h 0 0 0 [(0, rfv (xd (zX Z)) 0), (1, iv x1), (2, iv x2), (3, iv x3)] [] := by
  unfold F_X11_tray_0 at hF
  refine mw_iload_n 1 C dX11_tray_0 rfl rfl ?_
  obtain ⟨q1, hq1, hF⟩ := bind_some hF
  refine mw_callS [iv x1] [] C dX11_tray_1 (T_X11_isTray (zl Z) (zX Z) x1 _ _ hq1) rfl wd284 wd285 wd1 wd286 hd_X11_isTray rfl (by decide) (by decide) (Nat.le_of_ble_eq_true rfl) ⟨Nat.zero_le _, Nat.zero_le _⟩ ?_
  obtain ⟨g2, hF⟩ := ck_some hF
  rcases ite_some hF with ⟨c3, hF⟩ | ⟨c3, hF⟩
  · refine mw_if_eq_t (tgt := 31) C dX11_tray_4 (by decide) g2 c3 ?_
    refine mw_sub [0] rfl ?_
    exact T_X11_tray_31 C _ _ hF
  · refine mw_if_eq_f (tgt := 31) C dX11_tray_4 (by decide) g2 c3 ?_
    refine mw_iload_n 2 C dX11_tray_7 rfl rfl ?_
    obtain ⟨g4, hF⟩ := ck_some hF
    refine mw_i2l C dX11_tray_8 g4 ?_
    refine mw_lconst (a := 0) C dX11_tray_9 lc_0 ?_
    refine mw_ldc2 (a := 3) C dX11_tray_10 wd287 rfl ?_
    obtain ⟨q5, hq5, hF⟩ := bind_some hF
    refine mw_callS [lvv x2, lvv 0, lvv 3] [] C dX11_tray_13 (T_X11_outside (zl Z) (zX Z) x2 0 3 _ _ hq5) rfl wd288 wd289 wd1 wd290 hd_X11_outside rfl (by decide) (by decide) (Nat.le_of_ble_eq_true rfl) ⟨Nat.zero_le _, Nat.zero_le _⟩ ?_
    obtain ⟨g6, hF⟩ := ck_some hF
    rcases ite_some hF with ⟨c7, hF⟩ | ⟨c7, hF⟩
    · refine mw_if_ne_t (tgt := 31) C dX11_tray_16 (by decide) g6 c7 ?_
      refine mw_sub [0] rfl ?_
      exact T_X11_tray_31 C _ _ hF
    · refine mw_if_ne_f (tgt := 31) C dX11_tray_16 (by decide) g6 c7 ?_
      refine mw_iload_n 3 C dX11_tray_19 rfl rfl ?_
      obtain ⟨g8, hF⟩ := ck_some hF
      refine mw_i2l C dX11_tray_20 g8 ?_
      refine mw_lconst (a := 0) C dX11_tray_21 lc_0 ?_
      refine mw_ldc2 (a := 60) C dX11_tray_22 wd291 rfl ?_
      obtain ⟨q9, hq9, hF⟩ := bind_some hF
      refine mw_callS [lvv x3, lvv 0, lvv 60] [] C dX11_tray_25 (T_X11_outside (zl Z) (zX Z) x3 0 60 _ _ hq9) rfl wd288 wd289 wd1 wd290 hd_X11_outside rfl (by decide) (by decide) (Nat.le_of_ble_eq_true rfl) ⟨Nat.zero_le _, Nat.zero_le _⟩ ?_
      obtain ⟨g10, hF⟩ := ck_some hF
      rcases ite_some hF with ⟨c11, hF⟩ | ⟨c11, hF⟩
      · refine mw_if_eq_t (tgt := 37) C dX11_tray_28 (by decide) g10 c11 ?_
        refine mw_aload_n 0 C dX11_tray_37 rfl rfl ?_
        refine mw_get (k := 3) (T := TX11) (v := rfv (xd (zX Z)) 1) C dX11_tray_38 zn0 zk0 (by decide) rfl inX11 (by decide) wd252 rfl (zfv_r rfl zg_0_3) ?_
        refine mw_iload_n 1 C dX11_tray_41 rfl rfl ?_
        obtain ⟨g12, hF⟩ := ck_some hF
        refine mw_aald (t := 6) (c2 := (2 + x1.toNat)) (ty := .array .long) C dX11_tray_42 zn1 zk1 (by decide) (fun _ => rfl) rfl (by decide) g12 (zg_26 _) ?_
        refine mw_lconst (a := 0) C dX11_tray_43 lc_0 ?_
        obtain ⟨q13, hq13, hF⟩ := bind_some hF
        refine mw_callS [rfv (xd (zX Z)) (2 + x1.toNat), lvv 0] [] C dX11_tray_44 (T_J7_fill_d0a16 (zl Z) (zX Z) (2 + x1.toNat) 60 0 (ok_row _ (ix_lt g12)) _ _ hq13) rfl wd295 wd296 wd13 wd297 hd_J7_fill_d0a16 rfl (by decide) (by decide) (Nat.le_of_ble_eq_true rfl) ⟨Nat.zero_le _, Nat.zero_le _⟩ ?_
        refine mw_aload_n 0 C dX11_tray_47 rfl rfl ?_
        refine mw_get (k := 4) (T := TX11) (v := rfv (xd (zX Z)) 6) C dX11_tray_48 zn0 zk0 (by decide) rfl inX11 (by decide) wd253 rfl (zfv_r rfl zg_0_4) ?_
        refine mw_iload_n 1 C dX11_tray_51 rfl rfl ?_
        refine mw_iload_n 2 C dX11_tray_52 rfl rfl ?_
        obtain ⟨h14, eh14, hF⟩ := nx_some hF
        refine mw_iast C dX11_tray_53 zn6 zk6 (by decide) g12 (mw_h eh14 ?_)
        refine mw_aload_n 0 C dX11_tray_54 rfl rfl ?_
        refine mw_get (k := 5) (T := TX11) (v := rfv (xd (zX Z)) 7) C dX11_tray_55 zn0 zk0 (by decide) rfl inX11 (by decide) wd254 rfl (zfv_r rfl zg_0_5) ?_
        refine mw_iload_n 1 C dX11_tray_58 rfl rfl ?_
        refine mw_iload_n 3 C dX11_tray_59 rfl rfl ?_
        obtain ⟨h15, eh15, hF⟩ := nx_some hF
        refine mw_iast C dX11_tray_60 zn7 zk7 (by decide) g12 (mw_h eh15 ?_)
        refine mw_aload_n 0 C dX11_tray_61 rfl rfl ?_
        obtain ⟨q16, hq16, hF⟩ := bind_some hF
        refine mw_callV (c := 0) [] [] C dX11_tray_62 (T_X11_granted (zl Z) (zX Z) _ _ hq16) rfl zn0 zk0 (by decide) rfl wd298 wd299 wd1309 wd1 wd300 hd_X11_granted rfl (by decide) (by decide) (Nat.le_of_ble_eq_true rfl) ⟨Nat.zero_le _, Nat.zero_le _⟩ ?_
        obtain ⟨g17, hF⟩ := ck_some hF
        cases hF
        exact mw_zret C dX11_tray_65 g17 rfl rfl
      · refine mw_if_eq_f (tgt := 37) C dX11_tray_28 (by decide) g10 c11 ?_
        refine mw_sub [0] rfl ?_
        exact T_X11_tray_31 C _ _ hF
def F_X11_tray (x1 : Int) (x2 : Int) (x3 : Int) (h : MH) : Option (Int × MH) := F_X11_tray_0 x1 x2 x3 h
theorem T_X11_tray (l : Launch) (X : XT) (x1 : Int) (x2 : Int) (x3 : Int) (h : MH) (t : (Int × MH)) (hF : F_X11_tray x1 x2 x3 h = some t) : Ct l X yX11_tray cX11_tray 4 (some .boolean) 2 [rfv (xd X) 0, iv x1, iv x2, iv x3] zN zG h (some (iv t.1)) zN zG t.2 0 0 := by
  refine Ct.head (by decide) (Nat.le_of_ble_eq_true rfl) (fun Z hX hl _ _ _ C => ?_)
  subst hX
  subst hl
  exact (T_X11_tray_0 C x1 x2 x3 _ _ hF)
/-! BottleLine.placeLack(II)I -/
def F_X11_placeLack_0 (x1 : Int) (x2 : Int) (h : MH) : Option (Int × MH) :=
  (F_X11_isTray x1 h).bind fun q1 =>
  ck (in32 q1.1) <|
  if q1.1 ≠ 0 then
    ck (0 ≤ x1 ∧ x1 < 4) <|
    ck (in32 (q1.2 7 x1.toNat)) <|
    if (q1.2 7 x1.toNat) ≠ (-1) then
      ck (in32 x2) <|
      ck (in32 ((q1.2 7 x1.toNat) - 1)) <|
      (F_X11_outside x2 0 ((q1.2 7 x1.toNat) - 1) q1.2).bind fun q9 =>
      ck (in32 q9.1) <|
      if q9.1 = 0 then
        some (0, q9.2)
      else
        some (3, q9.2)
    else
      some (2, q1.2)
  else
    some (1, q1.2)
set_option maxRecDepth 100000 in
theorem T_X11_placeLack_0 {Z : ZT} (C : Cx Z cX11_placeLack 3 RX11 2 (some .int)) (x1 : Int) (x2 : Int) (h : MH) (t : (Int × MH)) (hF : F_X11_placeLack_0 x1 x2 h = some t) : MW Z (Qm Z (some (iv t.1)) zN zG t.2 0 0) 3 zN zG h 0 0 0 [(0, rfv (xd (zX Z)) 0), (1, iv x1), (2, iv x2)] [] := by
  unfold F_X11_placeLack_0 at hF
  refine mw_iload_n 1 C dX11_placeLack_0 rfl rfl ?_
  obtain ⟨q1, hq1, hF⟩ := bind_some hF
  refine mw_callS [iv x1] [] C dX11_placeLack_1 (T_X11_isTray (zl Z) (zX Z) x1 _ _ hq1) rfl wd284 wd285 wd1 wd286 hd_X11_isTray rfl (by decide) (by decide) (Nat.le_of_ble_eq_true rfl) ⟨Nat.zero_le _, Nat.zero_le _⟩ ?_
  obtain ⟨g2, hF⟩ := ck_some hF
  rcases ite_some hF with ⟨c3, hF⟩ | ⟨c3, hF⟩
  · refine mw_if_ne_t (tgt := 9) C dX11_placeLack_4 (by decide) g2 c3 ?_
    refine mw_aload_n 0 C dX11_placeLack_9 rfl rfl ?_
    refine mw_get (k := 5) (T := TX11) (v := rfv (xd (zX Z)) 7) C dX11_placeLack_10 zn0 zk0 (by decide) rfl inX11 (by decide) wd254 rfl (zfv_r rfl zg_0_5) ?_
    refine mw_iload_n 1 C dX11_placeLack_13 rfl rfl ?_
    obtain ⟨g4, hF⟩ := ck_some hF
    refine mw_iald C dX11_placeLack_14 zn7 zk7 (by decide) g4 ?_
    refine mw_iconst C dX11_placeLack_15 ?_
    obtain ⟨g5, hF⟩ := ck_some hF
    rcases ite_some hF with ⟨c6, hF⟩ | ⟨c6, hF⟩
    · refine mw_icmp_ne_t (tgt := 21) C dX11_placeLack_16 (by decide) g5 (by decide) c6 ?_
      refine mw_iload_n 2 C dX11_placeLack_21 rfl rfl ?_
      obtain ⟨g7, hF⟩ := ck_some hF
      refine mw_i2l C dX11_placeLack_22 g7 ?_
      refine mw_lconst (a := 0) C dX11_placeLack_23 lc_0 ?_
      refine mw_aload_n 0 C dX11_placeLack_24 rfl rfl ?_
      refine mw_get (k := 5) (T := TX11) (v := rfv (xd (zX Z)) 7) C dX11_placeLack_25 zn0 zk0 (by decide) rfl inX11 (by decide) wd254 rfl (zfv_r rfl zg_0_5) ?_
      refine mw_iload_n 1 C dX11_placeLack_28 rfl rfl ?_
      refine mw_iald C dX11_placeLack_29 zn7 zk7 (by decide) g4 ?_
      refine mw_iconst C dX11_placeLack_30 ?_
      refine mw_isub C dX11_placeLack_31 ?_
      obtain ⟨g8, hF⟩ := ck_some hF
      refine mw_i2l C dX11_placeLack_32 g8 ?_
      obtain ⟨q9, hq9, hF⟩ := bind_some hF
      refine mw_callS [lvv x2, lvv 0, lvv ((q1.2 7 x1.toNat) - 1)] [] C dX11_placeLack_33 (T_X11_outside (zl Z) (zX Z) x2 0 ((q1.2 7 x1.toNat) - 1) _ _ hq9) rfl wd288 wd289 wd1 wd290 hd_X11_outside rfl (by decide) (by decide) (Nat.le_of_ble_eq_true rfl) ⟨Nat.zero_le _, Nat.zero_le _⟩ ?_
      obtain ⟨g10, hF⟩ := ck_some hF
      rcases ite_some hF with ⟨c11, hF⟩ | ⟨c11, hF⟩
      · refine mw_if_eq_t (tgt := 43) C dX11_placeLack_36 (by decide) g10 c11 ?_
        refine mw_iconst C dX11_placeLack_43 ?_
        cases hF
        exact mw_iret C dX11_placeLack_44 rfl rfl
      · refine mw_if_eq_f (tgt := 43) C dX11_placeLack_36 (by decide) g10 c11 ?_
        refine mw_iconst C dX11_placeLack_39 ?_
        refine mw_goto (tgt := 44) C dX11_placeLack_40 (by decide) ?_
        cases hF
        exact mw_iret C dX11_placeLack_44 rfl rfl
    · refine mw_icmp_ne_f (tgt := 21) C dX11_placeLack_16 (by decide) g5 (by decide) c6 ?_
      refine mw_iconst C dX11_placeLack_19 ?_
      cases hF
      exact mw_iret C dX11_placeLack_20 rfl rfl
  · refine mw_if_ne_f (tgt := 9) C dX11_placeLack_4 (by decide) g2 c3 ?_
    refine mw_iconst C dX11_placeLack_7 ?_
    cases hF
    exact mw_iret C dX11_placeLack_8 rfl rfl
def F_X11_placeLack (x1 : Int) (x2 : Int) (h : MH) : Option (Int × MH) := F_X11_placeLack_0 x1 x2 h
theorem T_X11_placeLack (l : Launch) (X : XT) (x1 : Int) (x2 : Int) (h : MH) (t : (Int × MH)) (hF : F_X11_placeLack x1 x2 h = some t) : Ct l X yX11_placeLack cX11_placeLack 3 (some .int) 2 [rfv (xd X) 0, iv x1, iv x2] zN zG h (some (iv t.1)) zN zG t.2 0 0 := by
  refine Ct.head (by decide) (Nat.le_of_ble_eq_true rfl) (fun Z hX hl _ _ _ C => ?_)
  subst hX
  subst hl
  exact (T_X11_placeLack_0 C x1 x2 _ _ hF)
/-! BottleLine.cut(JI)J -/
def F_X11_cut_0 (x0 : Int) (x2 : Int) (h : MH) : Option (Int × MH) :=
  ck (in32 x2) <|
  if x2 = 0 then
    ck (in32 (w8 (w32 x0))) <|
    some ((w8 (w32 x0)), h)
  else
  if x2 = 1 then
    ck (in32 (w16 (w32 x0))) <|
    some ((w16 (w32 x0)), h)
  else
  if x2 = 2 then
    ck (in32 (w32 x0)) <|
    some ((w32 x0), h)
  else
  some (x0, h)
set_option maxRecDepth 100000 in
theorem T_X11_cut_0 {Z : ZT} (C : Cx Z cX11_cut 3 RX11 1 (some .long)) (x0 : Int) (x2 : Int) (h : MH) (t : (Int × MH)) (hF : F_X11_cut_0 x0 x2 h = some t) : MW Z (Qm Z (some (lvv t.1)) zN zG t.2 0 0) 3 zN zG h 0 0 0 [(0, lvv x0), (2, iv x2)] [] := by
  unfold F_X11_cut_0 at hF
  refine mw_iload_n 1 C dX11_cut_0 rfl rfl ?_
  obtain ⟨g1, hF⟩ := ck_some hF
  rcases ite_some hF with ⟨c2, hF⟩ | ⟨c2, hF⟩
  · refine mw_tabI (tgt := 28) 0 C dX11_cut_1 (by decide) c2 (by decide) (by decide) rfl (by decide) ?_
    refine mw_lload_n 0 C dX11_cut_28 rfl rfl ?_
    refine mw_l2iw C dX11_cut_29 ?_
    refine mw_i2b C dX11_cut_30 ?_
    obtain ⟨g3, hF⟩ := ck_some hF
    refine mw_i2l C dX11_cut_31 g3 ?_
    cases hF
    exact mw_lret C dX11_cut_32 rfl rfl
  rcases ite_some hF with ⟨c4, hF⟩ | ⟨c4, hF⟩
  · refine mw_tabI (tgt := 33) 1 C dX11_cut_1 (by decide) c4 (by decide) (by decide) rfl (by decide) ?_
    refine mw_lload_n 0 C dX11_cut_33 rfl rfl ?_
    refine mw_l2iw C dX11_cut_34 ?_
    refine mw_i2s C dX11_cut_35 ?_
    obtain ⟨g5, hF⟩ := ck_some hF
    refine mw_i2l C dX11_cut_36 g5 ?_
    cases hF
    exact mw_lret C dX11_cut_37 rfl rfl
  rcases ite_some hF with ⟨c6, hF⟩ | ⟨c6, hF⟩
  · refine mw_tabI (tgt := 38) 2 C dX11_cut_1 (by decide) c6 (by decide) (by decide) rfl (by decide) ?_
    refine mw_lload_n 0 C dX11_cut_38 rfl rfl ?_
    refine mw_l2iw C dX11_cut_39 ?_
    obtain ⟨g7, hF⟩ := ck_some hF
    refine mw_i2l C dX11_cut_40 g7 ?_
    cases hF
    exact mw_lret C dX11_cut_41 rfl rfl
  refine mw_tabO (tgt := 42) C dX11_cut_1 g1 (by omega) (by decide) ?_
  refine mw_lload_n 0 C dX11_cut_42 rfl rfl ?_
  cases hF
  exact mw_lret C dX11_cut_43 rfl rfl
def F_X11_cut (x0 : Int) (x2 : Int) (h : MH) : Option (Int × MH) := F_X11_cut_0 x0 x2 h
theorem T_X11_cut (l : Launch) (X : XT) (x0 : Int) (x2 : Int) (h : MH) (t : (Int × MH)) (hF : F_X11_cut x0 x2 h = some t) : Ct l X yX11_cut cX11_cut 3 (some .long) 1 [lvv x0, iv x2] zN zG h (some (lvv t.1)) zN zG t.2 0 0 := by
  refine Ct.head (by decide) (Nat.le_of_ble_eq_true rfl) (fun Z hX hl _ _ _ C => ?_)
  subst hX
  subst hl
  exact (T_X11_cut_0 C x0 x2 _ _ hF)
/-! BottleLine.write(IIJ)Z -/
def F_X11_write_0 (x1 : Int) (x2 : Int) (x3 : Int) (h : MH) : Option (Int × MH) :=
  (F_X11_placeLack x1 x2 h).bind fun q1 =>
  ck (in32 q1.1) <|
  if q1.1 = 0 then
    ck (0 ≤ x1 ∧ x1 < 4) <|
    (F_X11_cut x3 (q1.2 6 x1.toNat) q1.2).bind fun q5 =>
    ck (0 ≤ x2 ∧ x2 < 60) <|
    nx (hup q5.2 (2 + x1.toNat) x2.toNat q5.1) fun h7 =>
    (F_X11_granted h7).bind fun q8 =>
    ck (q8.1 = 0 ∨ q8.1 = 1) <|
    some (q8.1, q8.2)
  else
    (F_X11_refused q1.1 q1.2).bind fun q10 =>
    ck (q10.1 = 0 ∨ q10.1 = 1) <|
    some (q10.1, q10.2)
set_option maxRecDepth 100000 in
theorem T_X11_write_0 {Z : ZT} (C : Cx Z cX11_write 6 RX11 3 (some .boolean)) (x1 : Int) (x2 : Int) (x3 : Int) (h : MH) (t : (Int × MH)) (hF : F_X11_write_0 x1 x2 x3 h = some t) : MW Z (Qm Z (some (iv t.1)) zN zG t.2 0 0) 6 zN zG h 0 0 0 [(0, rfv (xd (zX Z)) 0), (1, iv x1), (2, iv x2), (3, lvv x3)] [] := by
  unfold F_X11_write_0 at hF
  refine mw_aload_n 0 C dX11_write_0 rfl rfl ?_
  refine mw_iload_n 1 C dX11_write_1 rfl rfl ?_
  refine mw_iload_n 2 C dX11_write_2 rfl rfl ?_
  obtain ⟨q1, hq1, hF⟩ := bind_some hF
  refine mw_callV (c := 0) [iv x1, iv x2] [] C dX11_write_3 (T_X11_placeLack (zl Z) (zX Z) x1 x2 _ _ hq1) rfl zn0 zk0 (by decide) rfl wd305 wd306 wd1310 wd1 wd307 hd_X11_placeLack rfl (by decide) (by decide) (Nat.le_of_ble_eq_true rfl) ⟨Nat.zero_le _, Nat.zero_le _⟩ ?_
  refine mw_istore [(5, iv q1.1), (0, rfv (xd (zX Z)) 0), (1, iv x1), (2, iv x2), (3, lvv x3)] C dX11_write_6 (by decide) rfl ?_
  refine mw_iload 0 C dX11_write_8 rfl ?_
  obtain ⟨g2, hF⟩ := ck_some hF
  rcases ite_some hF with ⟨c3, hF⟩ | ⟨c3, hF⟩
  · refine mw_if_eq_t (tgt := 20) C dX11_write_10 (by decide) g2 c3 ?_
    refine mw_aload_n 1 C dX11_write_20 rfl rfl ?_
    refine mw_get (k := 3) (T := TX11) (v := rfv (xd (zX Z)) 1) C dX11_write_21 zn0 zk0 (by decide) rfl inX11 (by decide) wd252 rfl (zfv_r rfl zg_0_3) ?_
    refine mw_iload_n 2 C dX11_write_24 rfl rfl ?_
    obtain ⟨g4, hF⟩ := ck_some hF
    refine mw_aald (t := 6) (c2 := (2 + x1.toNat)) (ty := .array .long) C dX11_write_25 zn1 zk1 (by decide) (fun _ => rfl) rfl (by decide) g4 (zg_26 _) ?_
    refine mw_iload_n 3 C dX11_write_26 rfl rfl ?_
    refine mw_lload_n 4 C dX11_write_27 rfl rfl ?_
    refine mw_aload_n 1 C dX11_write_28 rfl rfl ?_
    refine mw_get (k := 4) (T := TX11) (v := rfv (xd (zX Z)) 6) C dX11_write_29 zn0 zk0 (by decide) rfl inX11 (by decide) wd253 rfl (zfv_r rfl zg_0_4) ?_
    refine mw_iload_n 2 C dX11_write_32 rfl rfl ?_
    refine mw_iald C dX11_write_33 zn6 zk6 (by decide) g4 ?_
    obtain ⟨q5, hq5, hF⟩ := bind_some hF
    refine mw_callS [lvv x3, iv (q1.2 6 x1.toNat)] [iv x2, rfv (xd (zX Z)) (2 + x1.toNat)] C dX11_write_34 (T_X11_cut (zl Z) (zX Z) x3 (q1.2 6 x1.toNat) _ _ hq5) rfl wd308 wd309 wd1 wd310 hd_X11_cut rfl (by decide) (by decide) (Nat.le_of_ble_eq_true rfl) ⟨Nat.zero_le _, Nat.zero_le _⟩ ?_
    obtain ⟨g6, hF⟩ := ck_some hF
    obtain ⟨h7, eh7, hF⟩ := nx_some hF
    refine mw_last C dX11_write_37 (ok_row _ (ix_lt g4)).2.1 (ok_row _ (ix_lt g4)).1 (ok_row _ (ix_lt g4)).2.2 g6 (mw_h eh7 ?_)
    refine mw_aload_n 1 C dX11_write_38 rfl rfl ?_
    obtain ⟨q8, hq8, hF⟩ := bind_some hF
    refine mw_callV (c := 0) [] [] C dX11_write_39 (T_X11_granted (zl Z) (zX Z) _ _ hq8) rfl zn0 zk0 (by decide) rfl wd298 wd299 wd1309 wd1 wd300 hd_X11_granted rfl (by decide) (by decide) (Nat.le_of_ble_eq_true rfl) ⟨Nat.zero_le _, Nat.zero_le _⟩ ?_
    obtain ⟨g9, hF⟩ := ck_some hF
    cases hF
    exact mw_zret C dX11_write_42 g9 rfl rfl
  · refine mw_if_eq_f (tgt := 20) C dX11_write_10 (by decide) g2 c3 ?_
    refine mw_aload_n 1 C dX11_write_13 rfl rfl ?_
    refine mw_iload 0 C dX11_write_14 rfl ?_
    obtain ⟨q10, hq10, hF⟩ := bind_some hF
    refine mw_callV (c := 0) [iv q1.1] [] C dX11_write_16 (T_X11_refused (zl Z) (zX Z) q1.1 _ _ hq10) rfl zn0 zk0 (by decide) rfl wd292 wd293 wd1308 wd1 wd294 hd_X11_refused rfl (by decide) (by decide) (Nat.le_of_ble_eq_true rfl) ⟨Nat.zero_le _, Nat.zero_le _⟩ ?_
    obtain ⟨g11, hF⟩ := ck_some hF
    cases hF
    exact mw_zret C dX11_write_19 g11 rfl rfl
def F_X11_write (x1 : Int) (x2 : Int) (x3 : Int) (h : MH) : Option (Int × MH) := F_X11_write_0 x1 x2 x3 h
theorem T_X11_write (l : Launch) (X : XT) (x1 : Int) (x2 : Int) (x3 : Int) (h : MH) (t : (Int × MH)) (hF : F_X11_write x1 x2 x3 h = some t) : Ct l X yX11_write cX11_write 6 (some .boolean) 3 [rfv (xd X) 0, iv x1, iv x2, lvv x3] zN zG h (some (iv t.1)) zN zG t.2 0 0 := by
  refine Ct.head (by decide) (Nat.le_of_ble_eq_true rfl) (fun Z hX hl _ _ _ C => ?_)
  subst hX
  subst hl
  exact (T_X11_write_0 C x1 x2 x3 _ _ hF)
/-! BottleLine.none(I)I -/
def F_X11_none_0 (x1 : Int) (h : MH) : Option (Int × MH) :=
  nx (hup h 0 0 x1) fun h1 =>
  some ((-1), h1)
set_option maxRecDepth 100000 in
theorem T_X11_none_0 {Z : ZT} (C : Cx Z cX11_none 2 RX11 1 (some .int)) (x1 : Int) (h : MH) (t : (Int × MH)) (hF : F_X11_none_0 x1 h = some t) : MW Z (Qm Z (some (iv t.1)) zN zG t.2 0 0) 2 zN zG h 0 0 0 [(0, rfv (xd (zX Z)) 0), (1, iv x1)] [] := by
  unfold F_X11_none_0 at hF
  refine mw_aload_n 0 C dX11_none_0 rfl rfl ?_
  refine mw_iload_n 1 C dX11_none_1 rfl rfl ?_
  obtain ⟨h1, eh1, hF⟩ := nx_some hF
  refine mw_put (k := 0) (T := TX11) (ty0 := tyX11) (x := x1) C dX11_none_2 zn0 zk0 (by decide) rfl inX11 tyX11_ok nmX11 (by decide) wd249 rfl rfl rfl rfl rfl (by decide) (mw_h eh1 ?_)
  refine mw_iconst C dX11_none_5 ?_
  cases hF
  exact mw_iret C dX11_none_6 rfl rfl
def F_X11_none (x1 : Int) (h : MH) : Option (Int × MH) := F_X11_none_0 x1 h
theorem T_X11_none (l : Launch) (X : XT) (x1 : Int) (h : MH) (t : (Int × MH)) (hF : F_X11_none x1 h = some t) : Ct l X yX11_none cX11_none 2 (some .int) 1 [rfv (xd X) 0, iv x1] zN zG h (some (iv t.1)) zN zG t.2 0 0 := by
  refine Ct.head (by decide) (Nat.le_of_ble_eq_true rfl) (fun Z hX hl _ _ _ C => ?_)
  subst hX
  subst hl
  exact (T_X11_none_0 C x1 _ _ hF)
/-! BottleLine.read(II)J -/
def F_X11_read_0 (x1 : Int) (x2 : Int) (h : MH) : Option (Int × MH) :=
  (F_X11_placeLack x1 x2 h).bind fun q1 =>
  ck (in32 q1.1) <|
  if q1.1 = 0 then
    nx (hup q1.2 0 0 0) fun h4 =>
    ck (0 ≤ x1 ∧ x1 < 4) <|
    ck (0 ≤ x2 ∧ x2 < 60) <|
    some ((h4 (2 + x1.toNat) x2.toNat), h4)
  else
    (F_X11_none q1.1 q1.2).bind fun q7 =>
    ck (in32 q7.1) <|
    some (q7.1, q7.2)
set_option maxRecDepth 100000 in
theorem T_X11_read_0 {Z : ZT} (C : Cx Z cX11_read 4 RX11 3 (some .long)) (x1 : Int) (x2 : Int) (h : MH) (t : (Int × MH)) (hF : F_X11_read_0 x1 x2 h = some t) : MW Z (Qm Z (some (lvv t.1)) zN zG t.2 0 0) 4 zN zG h 0 0 0 [(0, rfv (xd (zX Z)) 0), (1, iv x1), (2, iv x2)] [] := by
  unfold F_X11_read_0 at hF
  refine mw_aload_n 0 C dX11_read_0 rfl rfl ?_
  refine mw_iload_n 1 C dX11_read_1 rfl rfl ?_
  refine mw_iload_n 2 C dX11_read_2 rfl rfl ?_
  obtain ⟨q1, hq1, hF⟩ := bind_some hF
  refine mw_callV (c := 0) [iv x1, iv x2] [] C dX11_read_3 (T_X11_placeLack (zl Z) (zX Z) x1 x2 _ _ hq1) rfl zn0 zk0 (by decide) rfl wd305 wd306 wd1310 wd1 wd307 hd_X11_placeLack rfl (by decide) (by decide) (Nat.le_of_ble_eq_true rfl) ⟨Nat.zero_le _, Nat.zero_le _⟩ ?_
  refine mw_istore_n [(3, iv q1.1), (0, rfv (xd (zX Z)) 0), (1, iv x1), (2, iv x2)] C dX11_read_6 rfl (by decide) rfl ?_
  refine mw_iload_n 0 C dX11_read_7 rfl rfl ?_
  obtain ⟨g2, hF⟩ := ck_some hF
  rcases ite_some hF with ⟨c3, hF⟩ | ⟨c3, hF⟩
  · refine mw_if_eq_t (tgt := 18) C dX11_read_8 (by decide) g2 c3 ?_
    refine mw_aload_n 1 C dX11_read_18 rfl rfl ?_
    refine mw_iconst C dX11_read_19 ?_
    obtain ⟨h4, eh4, hF⟩ := nx_some hF
    refine mw_put (k := 0) (T := TX11) (ty0 := tyX11) (x := 0) C dX11_read_20 zn0 zk0 (by decide) rfl inX11 tyX11_ok nmX11 (by decide) wd249 rfl rfl rfl rfl rfl (by decide) (mw_h eh4 ?_)
    refine mw_aload_n 1 C dX11_read_23 rfl rfl ?_
    refine mw_get (k := 3) (T := TX11) (v := rfv (xd (zX Z)) 1) C dX11_read_24 zn0 zk0 (by decide) rfl inX11 (by decide) wd252 rfl (zfv_r rfl zg_0_3) ?_
    refine mw_iload_n 2 C dX11_read_27 rfl rfl ?_
    obtain ⟨g5, hF⟩ := ck_some hF
    refine mw_aald (t := 6) (c2 := (2 + x1.toNat)) (ty := .array .long) C dX11_read_28 zn1 zk1 (by decide) (fun _ => rfl) rfl (by decide) g5 (zg_26 _) ?_
    refine mw_iload_n 3 C dX11_read_29 rfl rfl ?_
    obtain ⟨g6, hF⟩ := ck_some hF
    refine mw_lald C dX11_read_30 (ok_row _ (ix_lt g5)).2.1 (ok_row _ (ix_lt g5)).1 (ok_row _ (ix_lt g5)).2.2 g6 ?_
    cases hF
    exact mw_lret C dX11_read_31 rfl rfl
  · refine mw_if_eq_f (tgt := 18) C dX11_read_8 (by decide) g2 c3 ?_
    refine mw_aload_n 1 C dX11_read_11 rfl rfl ?_
    refine mw_iload_n 0 C dX11_read_12 rfl rfl ?_
    obtain ⟨q7, hq7, hF⟩ := bind_some hF
    refine mw_callV (c := 0) [iv q1.1] [] C dX11_read_13 (T_X11_none (zl Z) (zX Z) q1.1 _ _ hq7) rfl zn0 zk0 (by decide) rfl wd315 wd316 wd1311 wd1 wd317 hd_X11_none rfl (by decide) (by decide) (Nat.le_of_ble_eq_true rfl) ⟨Nat.zero_le _, Nat.zero_le _⟩ ?_
    obtain ⟨g8, hF⟩ := ck_some hF
    refine mw_i2l C dX11_read_16 g8 ?_
    cases hF
    exact mw_lret C dX11_read_17 rfl rfl
def F_X11_read (x1 : Int) (x2 : Int) (h : MH) : Option (Int × MH) := F_X11_read_0 x1 x2 h
theorem T_X11_read (l : Launch) (X : XT) (x1 : Int) (x2 : Int) (h : MH) (t : (Int × MH)) (hF : F_X11_read x1 x2 h = some t) : Ct l X yX11_read cX11_read 4 (some .long) 3 [rfv (xd X) 0, iv x1, iv x2] zN zG h (some (lvv t.1)) zN zG t.2 0 0 := by
  refine Ct.head (by decide) (Nat.le_of_ble_eq_true rfl) (fun Z hX hl _ _ _ C => ?_)
  subst hX
  subst hl
  exact (T_X11_read_0 C x1 x2 _ _ hF)
/-! BottleLine.pour(IIIII)Z -/
def F_X11_pour_28 (h : MH) : Option (Int × MH) :=
  (F_X11_refused 1 h).bind fun q1 =>
  ck (q1.1 = 0 ∨ q1.1 = 1) <|
  some (q1.1, q1.2)
set_option maxRecDepth 100000 in
theorem T_X11_pour_28 {Z : ZT} (C : Cx Z cX11_pour 6 RX11 2 (some .boolean)) (h : MH) (t : (Int × MH)) (hF : F_X11_pour_28 h = some t) : MW Z (Qm Z (some (iv t.1)) zN zG t.2 0 0) 6 zN zG h 0 0 28 [(0, rfv (xd (zX Z)) 0)] [] := by
  unfold F_X11_pour_28 at hF
  refine mw_aload_n 0 C dX11_pour_28 rfl rfl ?_
  refine mw_iconst C dX11_pour_29 ?_
  obtain ⟨q1, hq1, hF⟩ := bind_some hF
  refine mw_callV (c := 0) [iv 1] [] C dX11_pour_30 (T_X11_refused (zl Z) (zX Z) 1 _ _ hq1) rfl zn0 zk0 (by decide) rfl wd292 wd293 wd1308 wd1 wd294 hd_X11_refused rfl (by decide) (by decide) (Nat.le_of_ble_eq_true rfl) ⟨Nat.zero_le _, Nat.zero_le _⟩ ?_
  obtain ⟨g2, hF⟩ := ck_some hF
  cases hF
  exact mw_zret C dX11_pour_33 g2 rfl rfl
def F_X11_pour_54 (h : MH) : Option (Int × MH) :=
  (F_X11_refused 2 h).bind fun q1 =>
  ck (q1.1 = 0 ∨ q1.1 = 1) <|
  some (q1.1, q1.2)
set_option maxRecDepth 100000 in
theorem T_X11_pour_54 {Z : ZT} (C : Cx Z cX11_pour 6 RX11 2 (some .boolean)) (h : MH) (t : (Int × MH)) (hF : F_X11_pour_54 h = some t) : MW Z (Qm Z (some (iv t.1)) zN zG t.2 0 0) 6 zN zG h 0 0 54 [(0, rfv (xd (zX Z)) 0)] [] := by
  unfold F_X11_pour_54 at hF
  refine mw_aload_n 0 C dX11_pour_54 rfl rfl ?_
  refine mw_iconst C dX11_pour_55 ?_
  obtain ⟨q1, hq1, hF⟩ := bind_some hF
  refine mw_callV (c := 0) [iv 2] [] C dX11_pour_56 (T_X11_refused (zl Z) (zX Z) 2 _ _ hq1) rfl zn0 zk0 (by decide) rfl wd292 wd293 wd1308 wd1 wd294 hd_X11_refused rfl (by decide) (by decide) (Nat.le_of_ble_eq_true rfl) ⟨Nat.zero_le _, Nat.zero_le _⟩ ?_
  obtain ⟨g2, hF⟩ := ck_some hF
  cases hF
  exact mw_zret C dX11_pour_59 g2 rfl rfl
def F_X11_pour_109 (h : MH) : Option (Int × MH) :=
  (F_X11_refused 3 h).bind fun q1 =>
  ck (q1.1 = 0 ∨ q1.1 = 1) <|
  some (q1.1, q1.2)
set_option maxRecDepth 100000 in
theorem T_X11_pour_109 {Z : ZT} (C : Cx Z cX11_pour 6 RX11 2 (some .boolean)) (h : MH) (t : (Int × MH)) (hF : F_X11_pour_109 h = some t) : MW Z (Qm Z (some (iv t.1)) zN zG t.2 0 0) 6 zN zG h 0 0 109 [(0, rfv (xd (zX Z)) 0)] [] := by
  unfold F_X11_pour_109 at hF
  refine mw_aload_n 0 C dX11_pour_109 rfl rfl ?_
  refine mw_iconst C dX11_pour_110 ?_
  obtain ⟨q1, hq1, hF⟩ := bind_some hF
  refine mw_callV (c := 0) [iv 3] [] C dX11_pour_111 (T_X11_refused (zl Z) (zX Z) 3 _ _ hq1) rfl zn0 zk0 (by decide) rfl wd292 wd293 wd1308 wd1 wd294 hd_X11_refused rfl (by decide) (by decide) (Nat.le_of_ble_eq_true rfl) ⟨Nat.zero_le _, Nat.zero_le _⟩ ?_
  obtain ⟨g2, hF⟩ := ck_some hF
  cases hF
  exact mw_zret C dX11_pour_114 g2 rfl rfl
def F_X11_pour_0 (x1 : Int) (x2 : Int) (x3 : Int) (x4 : Int) (x5 : Int) (h : MH) : Option (Int × MH) :=
  (F_X11_isTray x1 h).bind fun q1 =>
  ck (in32 q1.1) <|
  if q1.1 = 0 then
    F_X11_pour_28 q1.2
  else
    (F_X11_isTray x3 q1.2).bind fun q4 =>
    ck (in32 q4.1) <|
    if q4.1 = 0 then
      F_X11_pour_28 q4.2
    else
      ck (in32 x2) <|
      if x2 < 0 then
        F_X11_pour_28 q4.2
      else
        ck (in32 x4) <|
        if x4 < 0 then
          F_X11_pour_28 q4.2
        else
          ck (in32 x5) <|
          if 0 ≤ x5 then
            ck (0 ≤ x1 ∧ x1 < 4) <|
            ck (in32 (q4.2 7 x1.toNat)) <|
            if (q4.2 7 x1.toNat) = (-1) then
              F_X11_pour_54 q4.2
            else
              ck (0 ≤ x3 ∧ x3 < 4) <|
              ck (in32 (q4.2 7 x3.toNat)) <|
              if (q4.2 7 x3.toNat) ≠ (-1) then
                ck (in32 (q4.2 6 x1.toNat)) <|
                ck (in32 (q4.2 6 x3.toNat)) <|
                if (q4.2 6 x1.toNat) = (q4.2 6 x3.toNat) then
                  ck (in32 ((q4.2 7 x1.toNat) - x5)) <|
                  if ((q4.2 7 x1.toNat) - x5) < x2 then
                    F_X11_pour_109 q4.2
                  else
                    ck (in32 ((q4.2 7 x3.toNat) - x5)) <|
                    if x4 ≤ ((q4.2 7 x3.toNat) - x5) then
                      ck (((0 : Int) ≤ x2 ∧ (0 : Int) ≤ x4 ∧ (0 : Int) ≤ x5) ∧ x2 + x5 ≤ 60 ∧ x4 + x5 ≤ 60) <|
                      nx (hcp q4.2 (2 + x1.toNat) x2.toNat (2 + x3.toNat) x4.toNat x5.toNat) fun h27 =>
                      (F_X11_granted h27).bind fun q28 =>
                      ck (q28.1 = 0 ∨ q28.1 = 1) <|
                      some (q28.1, q28.2)
                    else
                      F_X11_pour_109 q4.2
                else
                  (F_X11_refused 8 q4.2).bind fun q30 =>
                  ck (q30.1 = 0 ∨ q30.1 = 1) <|
                  some (q30.1, q30.2)
              else
                F_X11_pour_54 q4.2
          else
            F_X11_pour_28 q4.2
set_option maxRecDepth 100000 in
theorem T_X11_pour_0 {Z : ZT} (C : Cx Z cX11_pour 6 RX11 2 (some .boolean)) (x1 : Int) (x2 : Int) (x3 : Int) (x4 : Int) (x5 : Int) (h : MH) (t : (Int × MH)) (hF : F_X11_pour_0 x1 x2 x3 x4 x5 h = some t) : MW Z (Qm Z (some (iv t.1)) zN zG t.2 0 0) 6 zN zG h 0 0 0 [(0, rfv (xd (zX Z)) 0), (1, iv x1), (2, iv x2), (3, iv x3), (4, iv x4), (5, iv x5)] [] := by
  unfold F_X11_pour_0 at hF
  refine mw_iload_n 1 C dX11_pour_0 rfl rfl ?_
  obtain ⟨q1, hq1, hF⟩ := bind_some hF
  refine mw_callS [iv x1] [] C dX11_pour_1 (T_X11_isTray (zl Z) (zX Z) x1 _ _ hq1) rfl wd284 wd285 wd1 wd286 hd_X11_isTray rfl (by decide) (by decide) (Nat.le_of_ble_eq_true rfl) ⟨Nat.zero_le _, Nat.zero_le _⟩ ?_
  obtain ⟨g2, hF⟩ := ck_some hF
  rcases ite_some hF with ⟨c3, hF⟩ | ⟨c3, hF⟩
  · refine mw_if_eq_t (tgt := 28) C dX11_pour_4 (by decide) g2 c3 ?_
    refine mw_sub [0] rfl ?_
    exact T_X11_pour_28 C _ _ hF
  · refine mw_if_eq_f (tgt := 28) C dX11_pour_4 (by decide) g2 c3 ?_
    refine mw_iload_n 3 C dX11_pour_7 rfl rfl ?_
    obtain ⟨q4, hq4, hF⟩ := bind_some hF
    refine mw_callS [iv x3] [] C dX11_pour_8 (T_X11_isTray (zl Z) (zX Z) x3 _ _ hq4) rfl wd284 wd285 wd1 wd286 hd_X11_isTray rfl (by decide) (by decide) (Nat.le_of_ble_eq_true rfl) ⟨Nat.zero_le _, Nat.zero_le _⟩ ?_
    obtain ⟨g5, hF⟩ := ck_some hF
    rcases ite_some hF with ⟨c6, hF⟩ | ⟨c6, hF⟩
    · refine mw_if_eq_t (tgt := 28) C dX11_pour_11 (by decide) g5 c6 ?_
      refine mw_sub [0] rfl ?_
      exact T_X11_pour_28 C _ _ hF
    · refine mw_if_eq_f (tgt := 28) C dX11_pour_11 (by decide) g5 c6 ?_
      refine mw_iload_n 2 C dX11_pour_14 rfl rfl ?_
      obtain ⟨g7, hF⟩ := ck_some hF
      rcases ite_some hF with ⟨c8, hF⟩ | ⟨c8, hF⟩
      · refine mw_if_lt_t (tgt := 28) C dX11_pour_15 (by decide) g7 c8 ?_
        refine mw_sub [0] rfl ?_
        exact T_X11_pour_28 C _ _ hF
      · refine mw_if_lt_f (tgt := 28) C dX11_pour_15 (by decide) g7 c8 ?_
        refine mw_iload 4 C dX11_pour_18 rfl ?_
        obtain ⟨g9, hF⟩ := ck_some hF
        rcases ite_some hF with ⟨c10, hF⟩ | ⟨c10, hF⟩
        · refine mw_if_lt_t (tgt := 28) C dX11_pour_20 (by decide) g9 c10 ?_
          refine mw_sub [0] rfl ?_
          exact T_X11_pour_28 C _ _ hF
        · refine mw_if_lt_f (tgt := 28) C dX11_pour_20 (by decide) g9 c10 ?_
          refine mw_iload 5 C dX11_pour_23 rfl ?_
          obtain ⟨g11, hF⟩ := ck_some hF
          rcases ite_some hF with ⟨c12, hF⟩ | ⟨c12, hF⟩
          · refine mw_if_ge_t (tgt := 34) C dX11_pour_25 (by decide) g11 c12 ?_
            refine mw_aload_n 0 C dX11_pour_34 rfl rfl ?_
            refine mw_get (k := 5) (T := TX11) (v := rfv (xd (zX Z)) 7) C dX11_pour_35 zn0 zk0 (by decide) rfl inX11 (by decide) wd254 rfl (zfv_r rfl zg_0_5) ?_
            refine mw_iload_n 1 C dX11_pour_38 rfl rfl ?_
            obtain ⟨g13, hF⟩ := ck_some hF
            refine mw_iald C dX11_pour_39 zn7 zk7 (by decide) g13 ?_
            refine mw_iconst C dX11_pour_40 ?_
            obtain ⟨g14, hF⟩ := ck_some hF
            rcases ite_some hF with ⟨c15, hF⟩ | ⟨c15, hF⟩
            · refine mw_icmp_eq_t (tgt := 54) C dX11_pour_41 (by decide) g14 (by decide) c15 ?_
              refine mw_sub [0] rfl ?_
              exact T_X11_pour_54 C _ _ hF
            · refine mw_icmp_eq_f (tgt := 54) C dX11_pour_41 (by decide) g14 (by decide) c15 ?_
              refine mw_aload_n 0 C dX11_pour_44 rfl rfl ?_
              refine mw_get (k := 5) (T := TX11) (v := rfv (xd (zX Z)) 7) C dX11_pour_45 zn0 zk0 (by decide) rfl inX11 (by decide) wd254 rfl (zfv_r rfl zg_0_5) ?_
              refine mw_iload_n 3 C dX11_pour_48 rfl rfl ?_
              obtain ⟨g16, hF⟩ := ck_some hF
              refine mw_iald C dX11_pour_49 zn7 zk7 (by decide) g16 ?_
              refine mw_iconst C dX11_pour_50 ?_
              obtain ⟨g17, hF⟩ := ck_some hF
              rcases ite_some hF with ⟨c18, hF⟩ | ⟨c18, hF⟩
              · refine mw_icmp_ne_t (tgt := 60) C dX11_pour_51 (by decide) g17 (by decide) c18 ?_
                refine mw_aload_n 0 C dX11_pour_60 rfl rfl ?_
                refine mw_get (k := 4) (T := TX11) (v := rfv (xd (zX Z)) 6) C dX11_pour_61 zn0 zk0 (by decide) rfl inX11 (by decide) wd253 rfl (zfv_r rfl zg_0_4) ?_
                refine mw_iload_n 1 C dX11_pour_64 rfl rfl ?_
                refine mw_iald C dX11_pour_65 zn6 zk6 (by decide) g13 ?_
                refine mw_aload_n 0 C dX11_pour_66 rfl rfl ?_
                refine mw_get (k := 4) (T := TX11) (v := rfv (xd (zX Z)) 6) C dX11_pour_67 zn0 zk0 (by decide) rfl inX11 (by decide) wd253 rfl (zfv_r rfl zg_0_4) ?_
                refine mw_iload_n 3 C dX11_pour_70 rfl rfl ?_
                refine mw_iald C dX11_pour_71 zn6 zk6 (by decide) g16 ?_
                obtain ⟨g19, hF⟩ := ck_some hF
                obtain ⟨g20, hF⟩ := ck_some hF
                rcases ite_some hF with ⟨c21, hF⟩ | ⟨c21, hF⟩
                · refine mw_icmp_eq_t (tgt := 82) C dX11_pour_72 (by decide) g19 g20 c21 ?_
                  refine mw_iload_n 2 C dX11_pour_82 rfl rfl ?_
                  refine mw_aload_n 0 C dX11_pour_83 rfl rfl ?_
                  refine mw_get (k := 5) (T := TX11) (v := rfv (xd (zX Z)) 7) C dX11_pour_84 zn0 zk0 (by decide) rfl inX11 (by decide) wd254 rfl (zfv_r rfl zg_0_5) ?_
                  refine mw_iload_n 1 C dX11_pour_87 rfl rfl ?_
                  refine mw_iald C dX11_pour_88 zn7 zk7 (by decide) g13 ?_
                  refine mw_iload 5 C dX11_pour_89 rfl ?_
                  refine mw_isub C dX11_pour_91 ?_
                  obtain ⟨g22, hF⟩ := ck_some hF
                  rcases ite_some hF with ⟨c23, hF⟩ | ⟨c23, hF⟩
                  · refine mw_icmp_gt_t (tgt := 109) C dX11_pour_92 (by decide) g7 g22 c23 ?_
                    refine mw_sub [0] rfl ?_
                    exact T_X11_pour_109 C _ _ hF
                  · refine mw_icmp_gt_f (tgt := 109) C dX11_pour_92 (by decide) g7 g22 c23 ?_
                    refine mw_iload 4 C dX11_pour_95 rfl ?_
                    refine mw_aload_n 0 C dX11_pour_97 rfl rfl ?_
                    refine mw_get (k := 5) (T := TX11) (v := rfv (xd (zX Z)) 7) C dX11_pour_98 zn0 zk0 (by decide) rfl inX11 (by decide) wd254 rfl (zfv_r rfl zg_0_5) ?_
                    refine mw_iload_n 3 C dX11_pour_101 rfl rfl ?_
                    refine mw_iald C dX11_pour_102 zn7 zk7 (by decide) g16 ?_
                    refine mw_iload 5 C dX11_pour_103 rfl ?_
                    refine mw_isub C dX11_pour_105 ?_
                    obtain ⟨g24, hF⟩ := ck_some hF
                    rcases ite_some hF with ⟨c25, hF⟩ | ⟨c25, hF⟩
                    · refine mw_icmp_le_t (tgt := 115) C dX11_pour_106 (by decide) g9 g24 c25 ?_
                      refine mw_aload_n 0 C dX11_pour_115 rfl rfl ?_
                      refine mw_get (k := 3) (T := TX11) (v := rfv (xd (zX Z)) 1) C dX11_pour_116 zn0 zk0 (by decide) rfl inX11 (by decide) wd252 rfl (zfv_r rfl zg_0_3) ?_
                      refine mw_iload_n 1 C dX11_pour_119 rfl rfl ?_
                      refine mw_aald (t := 6) (c2 := (2 + x1.toNat)) (ty := .array .long) C dX11_pour_120 zn1 zk1 (by decide) (fun _ => rfl) rfl (by decide) g13 (zg_26 _) ?_
                      refine mw_iload_n 2 C dX11_pour_121 rfl rfl ?_
                      refine mw_aload_n 0 C dX11_pour_122 rfl rfl ?_
                      refine mw_get (k := 3) (T := TX11) (v := rfv (xd (zX Z)) 1) C dX11_pour_123 zn0 zk0 (by decide) rfl inX11 (by decide) wd252 rfl (zfv_r rfl zg_0_3) ?_
                      refine mw_iload_n 3 C dX11_pour_126 rfl rfl ?_
                      refine mw_aald (t := 6) (c2 := (2 + x3.toNat)) (ty := .array .long) C dX11_pour_127 zn1 zk1 (by decide) (fun _ => rfl) rfl (by decide) g16 (zg_26 _) ?_
                      refine mw_iload 4 C dX11_pour_128 rfl ?_
                      refine mw_iload 5 C dX11_pour_130 rfl ?_
                      obtain ⟨g26, hF⟩ := ck_some hF
                      obtain ⟨h27, eh27, hF⟩ := nx_some hF
                      refine mw_copyL C dX11_pour_132 wd322 wd323 wd15 wd324 (by decide) (Nat.le_of_ble_eq_true rfl) (ok_row _ (ix_lt g13)).2.1 (ok_row _ (ix_lt g16)).2.1 (ok_row _ (ix_lt g13)).1 (ok_row _ (ix_lt g16)).1 (ok_row _ (ix_lt g13)).2.2 (ok_row _ (ix_lt g16)).2.2 g26 (mw_h eh27 ?_)
                      refine mw_aload_n 0 C dX11_pour_135 rfl rfl ?_
                      obtain ⟨q28, hq28, hF⟩ := bind_some hF
                      refine mw_callV (c := 0) [] [] C dX11_pour_136 (T_X11_granted (zl Z) (zX Z) _ _ hq28) rfl zn0 zk0 (by decide) rfl wd298 wd299 wd1309 wd1 wd300 hd_X11_granted rfl (by decide) (by decide) (Nat.le_of_ble_eq_true rfl) ⟨Nat.zero_le _, Nat.zero_le _⟩ ?_
                      obtain ⟨g29, hF⟩ := ck_some hF
                      cases hF
                      exact mw_zret C dX11_pour_139 g29 rfl rfl
                    · refine mw_icmp_le_f (tgt := 115) C dX11_pour_106 (by decide) g9 g24 c25 ?_
                      refine mw_sub [0] rfl ?_
                      exact T_X11_pour_109 C _ _ hF
                · refine mw_icmp_eq_f (tgt := 82) C dX11_pour_72 (by decide) g19 g20 c21 ?_
                  refine mw_aload_n 0 C dX11_pour_75 rfl rfl ?_
                  refine mw_bipush C dX11_pour_76 bp_8 ?_
                  obtain ⟨q30, hq30, hF⟩ := bind_some hF
                  refine mw_callV (c := 0) [iv 8] [] C dX11_pour_78 (T_X11_refused (zl Z) (zX Z) 8 _ _ hq30) rfl zn0 zk0 (by decide) rfl wd292 wd293 wd1308 wd1 wd294 hd_X11_refused rfl (by decide) (by decide) (Nat.le_of_ble_eq_true rfl) ⟨Nat.zero_le _, Nat.zero_le _⟩ ?_
                  obtain ⟨g31, hF⟩ := ck_some hF
                  cases hF
                  exact mw_zret C dX11_pour_81 g31 rfl rfl
              · refine mw_icmp_ne_f (tgt := 60) C dX11_pour_51 (by decide) g17 (by decide) c18 ?_
                refine mw_sub [0] rfl ?_
                exact T_X11_pour_54 C _ _ hF
          · refine mw_if_ge_f (tgt := 34) C dX11_pour_25 (by decide) g11 c12 ?_
            refine mw_sub [0] rfl ?_
            exact T_X11_pour_28 C _ _ hF
def F_X11_pour (x1 : Int) (x2 : Int) (x3 : Int) (x4 : Int) (x5 : Int) (h : MH) : Option (Int × MH) := F_X11_pour_0 x1 x2 x3 x4 x5 h
theorem T_X11_pour (l : Launch) (X : XT) (x1 : Int) (x2 : Int) (x3 : Int) (x4 : Int) (x5 : Int) (h : MH) (t : (Int × MH)) (hF : F_X11_pour x1 x2 x3 x4 x5 h = some t) : Ct l X yX11_pour cX11_pour 6 (some .boolean) 2 [rfv (xd X) 0, iv x1, iv x2, iv x3, iv x4, iv x5] zN zG h (some (iv t.1)) zN zG t.2 0 0 := by
  refine Ct.head (by decide) (Nat.le_of_ble_eq_true rfl) (fun Z hX hl _ _ _ C => ?_)
  subst hX
  subst hl
  exact (T_X11_pour_0 C x1 x2 x3 x4 x5 _ _ hF)
/-! BottleLine.feed(IIIII)I -/
def F_X11_feed_0 (x1 : Int) (x2 : Int) (x3 : Int) (x4 : Int) (x5 : Int) (h : MH) : Option (Int × MH) :=
  ck (in32 (h 8 1)) <|
  if (h 8 1) ≤ 680 then
    (F_X8_lay x1 h).bind fun q3 =>
    (F_X8_lay x2 q3).bind fun q4 =>
    (F_X8_lay x3 q4).bind fun q5 =>
    (F_X8_lay x4 q5).bind fun q6 =>
    (F_X8_lay x5 q6).bind fun q7 =>
    some ((q7 8 1), q7)
  else
    some ((-1), h)
set_option maxRecDepth 100000 in
theorem T_X11_feed_0 {Z : ZT} (C : Cx Z cX11_feed 6 RX11 2 (some .int)) (x1 : Int) (x2 : Int) (x3 : Int) (x4 : Int) (x5 : Int) (h : MH) (t : (Int × MH)) (hF : F_X11_feed_0 x1 x2 x3 x4 x5 h = some t) : MW Z (Qm Z (some (iv t.1)) zN zG t.2 0 0) 6 zN zG h 0 0 0 [(0, rfv (xd (zX Z)) 0), (1, iv x1), (2, iv x2), (3, iv x3), (4, iv x4), (5, iv x5)] [] := by
  unfold F_X11_feed_0 at hF
  refine mw_aload_n 0 C dX11_feed_0 rfl rfl ?_
  refine mw_get (k := 6) (T := TX11) (v := rfv (xd (zX Z)) 8) C dX11_feed_1 zn0 zk0 (by decide) rfl inX11 (by decide) wd255 rfl (zfv_r rfl zg_0_6) ?_
  refine mw_get (k := 1) (T := TX8) (v := iv (h 8 1)) C dX11_feed_4 zn8 zk8 (by decide) rfl inX8 (by decide) wd39 rfl rfl ?_
  refine mw_sipush C dX11_feed_7 sp_680 ?_
  obtain ⟨g1, hF⟩ := ck_some hF
  rcases ite_some hF with ⟨c2, hF⟩ | ⟨c2, hF⟩
  · refine mw_icmp_le_t (tgt := 15) C dX11_feed_10 (by decide) g1 (by decide) c2 ?_
    refine mw_aload_n 0 C dX11_feed_15 rfl rfl ?_
    refine mw_get (k := 6) (T := TX11) (v := rfv (xd (zX Z)) 8) C dX11_feed_16 zn0 zk0 (by decide) rfl inX11 (by decide) wd255 rfl (zfv_r rfl zg_0_6) ?_
    refine mw_iload_n 1 C dX11_feed_19 rfl rfl ?_
    obtain ⟨q3, hq3, hF⟩ := bind_some hF
    refine mw_callV (c := 8) [iv x1] [] C dX11_feed_20 (T_X8_lay (zl Z) (zX Z) x1 _ _ hq3) rfl zn8 zk8 (by decide) rfl wd329 wd330 wd331 wd2 wd332 hd_X8_lay rfl (by decide) (by decide) (Nat.le_of_ble_eq_true rfl) ⟨Nat.zero_le _, Nat.zero_le _⟩ ?_
    refine mw_aload_n 0 C dX11_feed_23 rfl rfl ?_
    refine mw_get (k := 6) (T := TX11) (v := rfv (xd (zX Z)) 8) C dX11_feed_24 zn0 zk0 (by decide) rfl inX11 (by decide) wd255 rfl (zfv_r rfl zg_0_6) ?_
    refine mw_iload_n 2 C dX11_feed_27 rfl rfl ?_
    obtain ⟨q4, hq4, hF⟩ := bind_some hF
    refine mw_callV (c := 8) [iv x2] [] C dX11_feed_28 (T_X8_lay (zl Z) (zX Z) x2 _ _ hq4) rfl zn8 zk8 (by decide) rfl wd329 wd330 wd331 wd2 wd332 hd_X8_lay rfl (by decide) (by decide) (Nat.le_of_ble_eq_true rfl) ⟨Nat.zero_le _, Nat.zero_le _⟩ ?_
    refine mw_aload_n 0 C dX11_feed_31 rfl rfl ?_
    refine mw_get (k := 6) (T := TX11) (v := rfv (xd (zX Z)) 8) C dX11_feed_32 zn0 zk0 (by decide) rfl inX11 (by decide) wd255 rfl (zfv_r rfl zg_0_6) ?_
    refine mw_iload_n 3 C dX11_feed_35 rfl rfl ?_
    obtain ⟨q5, hq5, hF⟩ := bind_some hF
    refine mw_callV (c := 8) [iv x3] [] C dX11_feed_36 (T_X8_lay (zl Z) (zX Z) x3 _ _ hq5) rfl zn8 zk8 (by decide) rfl wd329 wd330 wd331 wd2 wd332 hd_X8_lay rfl (by decide) (by decide) (Nat.le_of_ble_eq_true rfl) ⟨Nat.zero_le _, Nat.zero_le _⟩ ?_
    refine mw_aload_n 0 C dX11_feed_39 rfl rfl ?_
    refine mw_get (k := 6) (T := TX11) (v := rfv (xd (zX Z)) 8) C dX11_feed_40 zn0 zk0 (by decide) rfl inX11 (by decide) wd255 rfl (zfv_r rfl zg_0_6) ?_
    refine mw_iload 4 C dX11_feed_43 rfl ?_
    obtain ⟨q6, hq6, hF⟩ := bind_some hF
    refine mw_callV (c := 8) [iv x4] [] C dX11_feed_45 (T_X8_lay (zl Z) (zX Z) x4 _ _ hq6) rfl zn8 zk8 (by decide) rfl wd329 wd330 wd331 wd2 wd332 hd_X8_lay rfl (by decide) (by decide) (Nat.le_of_ble_eq_true rfl) ⟨Nat.zero_le _, Nat.zero_le _⟩ ?_
    refine mw_aload_n 0 C dX11_feed_48 rfl rfl ?_
    refine mw_get (k := 6) (T := TX11) (v := rfv (xd (zX Z)) 8) C dX11_feed_49 zn0 zk0 (by decide) rfl inX11 (by decide) wd255 rfl (zfv_r rfl zg_0_6) ?_
    refine mw_iload 5 C dX11_feed_52 rfl ?_
    obtain ⟨q7, hq7, hF⟩ := bind_some hF
    refine mw_callV (c := 8) [iv x5] [] C dX11_feed_54 (T_X8_lay (zl Z) (zX Z) x5 _ _ hq7) rfl zn8 zk8 (by decide) rfl wd329 wd330 wd331 wd2 wd332 hd_X8_lay rfl (by decide) (by decide) (Nat.le_of_ble_eq_true rfl) ⟨Nat.zero_le _, Nat.zero_le _⟩ ?_
    refine mw_aload_n 0 C dX11_feed_57 rfl rfl ?_
    refine mw_get (k := 6) (T := TX11) (v := rfv (xd (zX Z)) 8) C dX11_feed_58 zn0 zk0 (by decide) rfl inX11 (by decide) wd255 rfl (zfv_r rfl zg_0_6) ?_
    refine mw_get (k := 1) (T := TX8) (v := iv (q7 8 1)) C dX11_feed_61 zn8 zk8 (by decide) rfl inX8 (by decide) wd39 rfl rfl ?_
    cases hF
    exact mw_iret C dX11_feed_64 rfl rfl
  · refine mw_icmp_le_f (tgt := 15) C dX11_feed_10 (by decide) g1 (by decide) c2 ?_
    refine mw_iconst C dX11_feed_13 ?_
    cases hF
    exact mw_iret C dX11_feed_14 rfl rfl
def F_X11_feed (x1 : Int) (x2 : Int) (x3 : Int) (x4 : Int) (x5 : Int) (h : MH) : Option (Int × MH) := F_X11_feed_0 x1 x2 x3 x4 x5 h
theorem T_X11_feed (l : Launch) (X : XT) (x1 : Int) (x2 : Int) (x3 : Int) (x4 : Int) (x5 : Int) (h : MH) (t : (Int × MH)) (hF : F_X11_feed x1 x2 x3 x4 x5 h = some t) : Ct l X yX11_feed cX11_feed 6 (some .int) 2 [rfv (xd X) 0, iv x1, iv x2, iv x3, iv x4, iv x5] zN zG h (some (iv t.1)) zN zG t.2 0 0 := by
  refine Ct.head (by decide) (Nat.le_of_ble_eq_true rfl) (fun Z hX hl _ _ _ C => ?_)
  subst hX
  subst hl
  exact (T_X11_feed_0 C x1 x2 x3 x4 x5 _ _ hF)
/-! BottleLine.answer(I)I -/
def F_X11_answer_0 (x1 : Int) (h : MH) : Option (Int × MH) :=
  nx (hup h 0 0 0) fun h1 =>
  some (x1, h1)
set_option maxRecDepth 100000 in
theorem T_X11_answer_0 {Z : ZT} (C : Cx Z cX11_answer 2 RX11 1 (some .int)) (x1 : Int) (h : MH) (t : (Int × MH)) (hF : F_X11_answer_0 x1 h = some t) : MW Z (Qm Z (some (iv t.1)) zN zG t.2 0 0) 2 zN zG h 0 0 0 [(0, rfv (xd (zX Z)) 0), (1, iv x1)] [] := by
  unfold F_X11_answer_0 at hF
  refine mw_aload_n 0 C dX11_answer_0 rfl rfl ?_
  refine mw_iconst C dX11_answer_1 ?_
  obtain ⟨h1, eh1, hF⟩ := nx_some hF
  refine mw_put (k := 0) (T := TX11) (ty0 := tyX11) (x := 0) C dX11_answer_2 zn0 zk0 (by decide) rfl inX11 tyX11_ok nmX11 (by decide) wd249 rfl rfl rfl rfl rfl (by decide) (mw_h eh1 ?_)
  refine mw_iload_n 1 C dX11_answer_5 rfl rfl ?_
  cases hF
  exact mw_iret C dX11_answer_6 rfl rfl
def F_X11_answer (x1 : Int) (h : MH) : Option (Int × MH) := F_X11_answer_0 x1 h
theorem T_X11_answer (l : Launch) (X : XT) (x1 : Int) (h : MH) (t : (Int × MH)) (hF : F_X11_answer x1 h = some t) : Ct l X yX11_answer cX11_answer 2 (some .int) 1 [rfv (xd X) 0, iv x1] zN zG h (some (iv t.1)) zN zG t.2 0 0 := by
  refine Ct.head (by decide) (Nat.le_of_ble_eq_true rfl) (fun Z hX hl _ _ _ C => ?_)
  subst hX
  subst hl
  exact (T_X11_answer_0 C x1 _ _ hF)
/-! BottleLine.line(I)I -/
def F_X11_line_0 (x1 : Int) (h : MH) : Option (Int × MH) :=
  ck (in32 x1) <|
  ck (in32 (h 8 1)) <|
  (F_X11_outside x1 0 (h 8 1) h).bind fun q3 =>
  ck (in32 q3.1) <|
  if q3.1 = 0 then
    (F_X3_takesAll x1 q3.2).bind fun q6 =>
    ck (in32 q6.1) <|
    if q6.1 ≠ 0 then
      (F_X5_copy 34 11 q6.2).bind fun q9 =>
      (F_X11_answer (q9 35 0) q9).bind fun q10 =>
      some (q10.1, q10.2)
    else
      (F_X11_none 9 q6.2).bind fun q11 =>
      some (q11.1, q11.2)
  else
    (F_X11_none 1 q3.2).bind fun q12 =>
    some (q12.1, q12.2)
set_option maxRecDepth 100000 in
theorem T_X11_line_0 {Z : ZT} (C : Cx Z cX11_line 2 RX11 12 (some .int)) (x1 : Int) (h : MH) (t : (Int × MH)) (hF : F_X11_line_0 x1 h = some t) : MW Z (Qm Z (some (iv t.1)) zN zG t.2 0 0) 2 zN zG h 0 0 0 [(0, rfv (xd (zX Z)) 0), (1, iv x1)] [] := by
  unfold F_X11_line_0 at hF
  refine mw_iload_n 1 C dX11_line_0 rfl rfl ?_
  obtain ⟨g1, hF⟩ := ck_some hF
  refine mw_i2l C dX11_line_1 g1 ?_
  refine mw_lconst (a := 0) C dX11_line_2 lc_0 ?_
  refine mw_aload_n 0 C dX11_line_3 rfl rfl ?_
  refine mw_get (k := 6) (T := TX11) (v := rfv (xd (zX Z)) 8) C dX11_line_4 zn0 zk0 (by decide) rfl inX11 (by decide) wd255 rfl (zfv_r rfl zg_0_6) ?_
  refine mw_get (k := 1) (T := TX8) (v := iv (h 8 1)) C dX11_line_7 zn8 zk8 (by decide) rfl inX8 (by decide) wd39 rfl rfl ?_
  obtain ⟨g2, hF⟩ := ck_some hF
  refine mw_i2l C dX11_line_10 g2 ?_
  obtain ⟨q3, hq3, hF⟩ := bind_some hF
  refine mw_callS [lvv x1, lvv 0, lvv (h 8 1)] [] C dX11_line_11 (T_X11_outside (zl Z) (zX Z) x1 0 (h 8 1) _ _ hq3) rfl wd288 wd289 wd1 wd290 hd_X11_outside rfl (by decide) (by decide) (Nat.le_of_ble_eq_true rfl) ⟨Nat.zero_le _, Nat.zero_le _⟩ ?_
  obtain ⟨g4, hF⟩ := ck_some hF
  rcases ite_some hF with ⟨c5, hF⟩ | ⟨c5, hF⟩
  · refine mw_if_eq_t (tgt := 23) C dX11_line_14 (by decide) g4 c5 ?_
    refine mw_aload_n 0 C dX11_line_23 rfl rfl ?_
    refine mw_get (k := 7) (T := TX11) (v := rfv (xd (zX Z)) 10) C dX11_line_24 zn0 zk0 (by decide) rfl inX11 (by decide) wd256 rfl (zfv_r rfl zg_0_7) ?_
    refine mw_iload_n 1 C dX11_line_27 rfl rfl ?_
    obtain ⟨q6, hq6, hF⟩ := bind_some hF
    refine mw_callV (c := 10) [iv x1] [] C dX11_line_28 (T_X3_takesAll (zl Z) (zX Z) x1 _ _ hq6) rfl zn10 zk10 (by decide) rfl wd337 wd338 wd339 wd3 wd340 hd_X3_takesAll rfl (by decide) (by decide) (Nat.le_of_ble_eq_true rfl) ⟨Nat.zero_le _, Nat.zero_le _⟩ ?_
    obtain ⟨g7, hF⟩ := ck_some hF
    rcases ite_some hF with ⟨c8, hF⟩ | ⟨c8, hF⟩
    · refine mw_if_ne_t (tgt := 41) C dX11_line_31 (by decide) g7 c8 ?_
      refine mw_aload_n 0 C dX11_line_41 rfl rfl ?_
      refine mw_get (k := 9) (T := TX11) (v := rfv (xd (zX Z)) 34) C dX11_line_42 zn0 zk0 (by decide) rfl inX11 (by decide) wd258 rfl (zfv_r rfl zg_0_9) ?_
      refine mw_aload_n 0 C dX11_line_45 rfl rfl ?_
      refine mw_get (k := 7) (T := TX11) (v := rfv (xd (zX Z)) 10) C dX11_line_46 zn0 zk0 (by decide) rfl inX11 (by decide) wd256 rfl (zfv_r rfl zg_0_7) ?_
      refine mw_get (k := 1) (T := TX3) (v := rfv (xd (zX Z)) 11) C dX11_line_49 zn10 zk10 (by decide) rfl inX3 (by decide) wd136 rfl (zfv_r rfl zg_10_1) ?_
      obtain ⟨q9, hq9, hF⟩ := bind_some hF
      refine mw_callV (c := 34) [rfv (xd (zX Z)) 11] [] C dX11_line_52 (T_X5_copy (zl Z) (zX Z) 34 11 ok_34 ok_11 _ _ hq9) rfl zn34 zk34 (by decide) rfl wd484 wd485 wd486 wd4 wd487 hd_X5_copy rfl (by decide) (by decide) (Nat.le_of_ble_eq_true rfl) ⟨Nat.zero_le _, Nat.zero_le _⟩ ?_
      refine mw_aload_n 0 C dX11_line_55 rfl rfl ?_
      refine mw_aload_n 0 C dX11_line_56 rfl rfl ?_
      refine mw_get (k := 9) (T := TX11) (v := rfv (xd (zX Z)) 34) C dX11_line_57 zn0 zk0 (by decide) rfl inX11 (by decide) wd258 rfl (zfv_r rfl zg_0_9) ?_
      refine mw_get (k := 0) (T := TX5) (v := rfv (xd (zX Z)) 35) C dX11_line_60 zn34 zk34 (by decide) rfl inX5 (by decide) wd121 rfl (zfv_r rfl zg_34_0) ?_
      refine mw_get (k := 0) (T := TX1) (v := iv (q9 35 0)) C dX11_line_63 zn35 zk35 (by decide) rfl inX1 (by decide) wd81 rfl rfl ?_
      obtain ⟨q10, hq10, hF⟩ := bind_some hF
      refine mw_callV (c := 0) [iv (q9 35 0)] [] C dX11_line_66 (T_X11_answer (zl Z) (zX Z) (q9 35 0) _ _ hq10) rfl zn0 zk0 (by decide) rfl wd494 wd495 wd1325 wd1 wd496 hd_X11_answer rfl (by decide) (by decide) (Nat.le_of_ble_eq_true rfl) ⟨Nat.zero_le _, Nat.zero_le _⟩ ?_
      cases hF
      exact mw_iret C dX11_line_69 rfl rfl
    · refine mw_if_ne_f (tgt := 41) C dX11_line_31 (by decide) g7 c8 ?_
      refine mw_aload_n 0 C dX11_line_34 rfl rfl ?_
      refine mw_bipush C dX11_line_35 bp_9 ?_
      obtain ⟨q11, hq11, hF⟩ := bind_some hF
      refine mw_callV (c := 0) [iv 9] [] C dX11_line_37 (T_X11_none (zl Z) (zX Z) 9 _ _ hq11) rfl zn0 zk0 (by decide) rfl wd315 wd316 wd1311 wd1 wd317 hd_X11_none rfl (by decide) (by decide) (Nat.le_of_ble_eq_true rfl) ⟨Nat.zero_le _, Nat.zero_le _⟩ ?_
      cases hF
      exact mw_iret C dX11_line_40 rfl rfl
  · refine mw_if_eq_f (tgt := 23) C dX11_line_14 (by decide) g4 c5 ?_
    refine mw_aload_n 0 C dX11_line_17 rfl rfl ?_
    refine mw_iconst C dX11_line_18 ?_
    obtain ⟨q12, hq12, hF⟩ := bind_some hF
    refine mw_callV (c := 0) [iv 1] [] C dX11_line_19 (T_X11_none (zl Z) (zX Z) 1 _ _ hq12) rfl zn0 zk0 (by decide) rfl wd315 wd316 wd1311 wd1 wd317 hd_X11_none rfl (by decide) (by decide) (Nat.le_of_ble_eq_true rfl) ⟨Nat.zero_le _, Nat.zero_le _⟩ ?_
    cases hF
    exact mw_iret C dX11_line_22 rfl rfl
def F_X11_line (x1 : Int) (h : MH) : Option (Int × MH) := F_X11_line_0 x1 h
theorem T_X11_line (l : Launch) (X : XT) (x1 : Int) (h : MH) (t : (Int × MH)) (hF : F_X11_line x1 h = some t) : Ct l X yX11_line cX11_line 2 (some .int) 12 [rfv (xd X) 0, iv x1] zN zG h (some (iv t.1)) zN zG t.2 0 0 := by
  refine Ct.head (by decide) (Nat.le_of_ble_eq_true rfl) (fun Z hX hl _ _ _ C => ?_)
  subst hX
  subst hl
  exact (T_X11_line_0 C x1 _ _ hF)
/-! BottleLine.shift(I)I -/
def F_X11_shift_0 (x1 : Int) (h : MH) : Option (Int × MH) :=
  ck (in32 x1) <|
  ck (in32 (h 8 1)) <|
  ck (in32 (min 300 (h 8 1))) <|
  (F_X11_outside x1 0 (min 300 (h 8 1)) h).bind fun q4 =>
  ck (in32 q4.1) <|
  if q4.1 = 0 then
    (F_X7_takesAll x1 q4.2).bind fun q7 =>
    ck (in32 q7.1) <|
    if q7.1 ≠ 0 then
      (F_X6_copy 49 28 q7.2).bind fun q10 =>
      (F_X11_answer (q10 49 0) q10).bind fun q11 =>
      some (q11.1, q11.2)
    else
      (F_X11_none 9 q7.2).bind fun q12 =>
      some (q12.1, q12.2)
  else
    (F_X11_none 1 q4.2).bind fun q13 =>
    some (q13.1, q13.2)
set_option maxRecDepth 100000 in
theorem T_X11_shift_0 {Z : ZT} (C : Cx Z cX11_shift 2 RX11 12 (some .int)) (x1 : Int) (h : MH) (t : (Int × MH)) (hF : F_X11_shift_0 x1 h = some t) : MW Z (Qm Z (some (iv t.1)) zN zG t.2 0 0) 2 zN zG h 0 0 0 [(0, rfv (xd (zX Z)) 0), (1, iv x1)] [] := by
  unfold F_X11_shift_0 at hF
  refine mw_iload_n 1 C dX11_shift_0 rfl rfl ?_
  obtain ⟨g1, hF⟩ := ck_some hF
  refine mw_i2l C dX11_shift_1 g1 ?_
  refine mw_lconst (a := 0) C dX11_shift_2 lc_0 ?_
  refine mw_sipush C dX11_shift_3 sp_300 ?_
  refine mw_aload_n 0 C dX11_shift_6 rfl rfl ?_
  refine mw_get (k := 6) (T := TX11) (v := rfv (xd (zX Z)) 8) C dX11_shift_7 zn0 zk0 (by decide) rfl inX11 (by decide) wd255 rfl (zfv_r rfl zg_0_6) ?_
  refine mw_get (k := 1) (T := TX8) (v := iv (h 8 1)) C dX11_shift_10 zn8 zk8 (by decide) rfl inX8 (by decide) wd39 rfl rfl ?_
  obtain ⟨g2, hF⟩ := ck_some hF
  refine mw_mmin C dX11_shift_13 wd501 wd356 wd16 wd357 (by decide) (Nat.le_of_ble_eq_true rfl) ⟨Nat.zero_le _, Nat.zero_le _⟩ (by decide) g2 ?_
  obtain ⟨g3, hF⟩ := ck_some hF
  refine mw_i2l C dX11_shift_16 g3 ?_
  obtain ⟨q4, hq4, hF⟩ := bind_some hF
  refine mw_callS [lvv x1, lvv 0, lvv (min 300 (h 8 1))] [] C dX11_shift_17 (T_X11_outside (zl Z) (zX Z) x1 0 (min 300 (h 8 1)) _ _ hq4) rfl wd288 wd289 wd1 wd290 hd_X11_outside rfl (by decide) (by decide) (Nat.le_of_ble_eq_true rfl) ⟨Nat.zero_le _, Nat.zero_le _⟩ ?_
  obtain ⟨g5, hF⟩ := ck_some hF
  rcases ite_some hF with ⟨c6, hF⟩ | ⟨c6, hF⟩
  · refine mw_if_eq_t (tgt := 29) C dX11_shift_20 (by decide) g5 c6 ?_
    refine mw_aload_n 0 C dX11_shift_29 rfl rfl ?_
    refine mw_get (k := 8) (T := TX11) (v := rfv (xd (zX Z)) 27) C dX11_shift_30 zn0 zk0 (by decide) rfl inX11 (by decide) wd257 rfl (zfv_r rfl zg_0_8) ?_
    refine mw_iload_n 1 C dX11_shift_33 rfl rfl ?_
    obtain ⟨q7, hq7, hF⟩ := bind_some hF
    refine mw_callV (c := 27) [iv x1] [] C dX11_shift_34 (T_X7_takesAll (zl Z) (zX Z) x1 _ _ hq7) rfl zn27 zk27 (by decide) rfl wd502 wd503 wd504 wd6 wd505 hd_X7_takesAll rfl (by decide) (by decide) (Nat.le_of_ble_eq_true rfl) ⟨Nat.zero_le _, Nat.zero_le _⟩ ?_
    obtain ⟨g8, hF⟩ := ck_some hF
    rcases ite_some hF with ⟨c9, hF⟩ | ⟨c9, hF⟩
    · refine mw_if_ne_t (tgt := 47) C dX11_shift_37 (by decide) g8 c9 ?_
      refine mw_aload_n 0 C dX11_shift_47 rfl rfl ?_
      refine mw_get (k := 10) (T := TX11) (v := rfv (xd (zX Z)) 49) C dX11_shift_48 zn0 zk0 (by decide) rfl inX11 (by decide) wd259 rfl (zfv_r rfl zg_0_10) ?_
      refine mw_aload_n 0 C dX11_shift_51 rfl rfl ?_
      refine mw_get (k := 8) (T := TX11) (v := rfv (xd (zX Z)) 27) C dX11_shift_52 zn0 zk0 (by decide) rfl inX11 (by decide) wd257 rfl (zfv_r rfl zg_0_8) ?_
      refine mw_get (k := 1) (T := TX7) (v := rfv (xd (zX Z)) 28) C dX11_shift_55 zn27 zk27 (by decide) rfl inX7 (by decide) wd170 rfl (zfv_r rfl zg_27_1) ?_
      obtain ⟨q10, hq10, hF⟩ := bind_some hF
      refine mw_callV (c := 49) [rfv (xd (zX Z)) 28] [] C dX11_shift_58 (T_X6_copy (zl Z) (zX Z) 49 28 ok_49 ok_28 _ _ hq10) rfl zn49 zk49 (by decide) rfl wd538 wd539 wd540 wd7 wd541 hd_X6_copy rfl (by decide) (by decide) (Nat.le_of_ble_eq_true rfl) ⟨Nat.zero_le _, Nat.zero_le _⟩ ?_
      refine mw_aload_n 0 C dX11_shift_61 rfl rfl ?_
      refine mw_aload_n 0 C dX11_shift_62 rfl rfl ?_
      refine mw_get (k := 10) (T := TX11) (v := rfv (xd (zX Z)) 49) C dX11_shift_63 zn0 zk0 (by decide) rfl inX11 (by decide) wd259 rfl (zfv_r rfl zg_0_10) ?_
      refine mw_get (k := 0) (T := TX6) (v := iv (q10 49 0)) C dX11_shift_66 zn49 zk49 (by decide) rfl inX6 (by decide) wd155 rfl rfl ?_
      obtain ⟨q11, hq11, hF⟩ := bind_some hF
      refine mw_callV (c := 0) [iv (q10 49 0)] [] C dX11_shift_69 (T_X11_answer (zl Z) (zX Z) (q10 49 0) _ _ hq11) rfl zn0 zk0 (by decide) rfl wd494 wd495 wd1325 wd1 wd496 hd_X11_answer rfl (by decide) (by decide) (Nat.le_of_ble_eq_true rfl) ⟨Nat.zero_le _, Nat.zero_le _⟩ ?_
      cases hF
      exact mw_iret C dX11_shift_72 rfl rfl
    · refine mw_if_ne_f (tgt := 47) C dX11_shift_37 (by decide) g8 c9 ?_
      refine mw_aload_n 0 C dX11_shift_40 rfl rfl ?_
      refine mw_bipush C dX11_shift_41 bp_9 ?_
      obtain ⟨q12, hq12, hF⟩ := bind_some hF
      refine mw_callV (c := 0) [iv 9] [] C dX11_shift_43 (T_X11_none (zl Z) (zX Z) 9 _ _ hq12) rfl zn0 zk0 (by decide) rfl wd315 wd316 wd1311 wd1 wd317 hd_X11_none rfl (by decide) (by decide) (Nat.le_of_ble_eq_true rfl) ⟨Nat.zero_le _, Nat.zero_le _⟩ ?_
      cases hF
      exact mw_iret C dX11_shift_46 rfl rfl
  · refine mw_if_eq_f (tgt := 29) C dX11_shift_20 (by decide) g5 c6 ?_
    refine mw_aload_n 0 C dX11_shift_23 rfl rfl ?_
    refine mw_iconst C dX11_shift_24 ?_
    obtain ⟨q13, hq13, hF⟩ := bind_some hF
    refine mw_callV (c := 0) [iv 1] [] C dX11_shift_25 (T_X11_none (zl Z) (zX Z) 1 _ _ hq13) rfl zn0 zk0 (by decide) rfl wd315 wd316 wd1311 wd1 wd317 hd_X11_none rfl (by decide) (by decide) (Nat.le_of_ble_eq_true rfl) ⟨Nat.zero_le _, Nat.zero_le _⟩ ?_
    cases hF
    exact mw_iret C dX11_shift_28 rfl rfl
def F_X11_shift (x1 : Int) (h : MH) : Option (Int × MH) := F_X11_shift_0 x1 h
theorem T_X11_shift (l : Launch) (X : XT) (x1 : Int) (h : MH) (t : (Int × MH)) (hF : F_X11_shift x1 h = some t) : Ct l X yX11_shift cX11_shift 2 (some .int) 12 [rfv (xd X) 0, iv x1] zN zG h (some (iv t.1)) zN zG t.2 0 0 := by
  refine Ct.head (by decide) (Nat.le_of_ble_eq_true rfl) (fun Z hX hl _ _ _ C => ?_)
  subst hX
  subst hl
  exact (T_X11_shift_0 C x1 _ _ hF)
/-! BottleLine.fault(I)I -/
def F_X11_fault_0 (x1 : Int) (h : MH) : Option (Int × MH) :=
  ck (in32 x1) <|
  if x1 ≠ 0 then
    if x1 ≠ 1 then
      some ((-1), h)
    else
      some ((h 8 10), h)
  else
    some ((h 8 9), h)
set_option maxRecDepth 100000 in
theorem T_X11_fault_0 {Z : ZT} (C : Cx Z cX11_fault 2 RX11 1 (some .int)) (x1 : Int) (h : MH) (t : (Int × MH)) (hF : F_X11_fault_0 x1 h = some t) : MW Z (Qm Z (some (iv t.1)) zN zG t.2 0 0) 2 zN zG h 0 0 0 [(0, rfv (xd (zX Z)) 0), (1, iv x1)] [] := by
  unfold F_X11_fault_0 at hF
  refine mw_iload_n 1 C dX11_fault_0 rfl rfl ?_
  obtain ⟨g1, hF⟩ := ck_some hF
  rcases ite_some hF with ⟨c2, hF⟩ | ⟨c2, hF⟩
  · refine mw_if_ne_t (tgt := 12) C dX11_fault_1 (by decide) g1 c2 ?_
    refine mw_iload_n 1 C dX11_fault_12 rfl rfl ?_
    refine mw_iconst C dX11_fault_13 ?_
    rcases ite_some hF with ⟨c3, hF⟩ | ⟨c3, hF⟩
    · refine mw_icmp_ne_t (tgt := 27) C dX11_fault_14 (by decide) g1 (by decide) c3 ?_
      refine mw_iconst C dX11_fault_27 ?_
      cases hF
      exact mw_iret C dX11_fault_28 rfl rfl
    · refine mw_icmp_ne_f (tgt := 27) C dX11_fault_14 (by decide) g1 (by decide) c3 ?_
      refine mw_aload_n 0 C dX11_fault_17 rfl rfl ?_
      refine mw_get (k := 6) (T := TX11) (v := rfv (xd (zX Z)) 8) C dX11_fault_18 zn0 zk0 (by decide) rfl inX11 (by decide) wd255 rfl (zfv_r rfl zg_0_6) ?_
      refine mw_get (k := 10) (T := TX8) (v := iv (h 8 10)) C dX11_fault_21 zn8 zk8 (by decide) rfl inX8 (by decide) wd56 rfl rfl ?_
      refine mw_goto (tgt := 28) C dX11_fault_24 (by decide) ?_
      cases hF
      exact mw_iret C dX11_fault_28 rfl rfl
  · refine mw_if_ne_f (tgt := 12) C dX11_fault_1 (by decide) g1 c2 ?_
    refine mw_aload_n 0 C dX11_fault_4 rfl rfl ?_
    refine mw_get (k := 6) (T := TX11) (v := rfv (xd (zX Z)) 8) C dX11_fault_5 zn0 zk0 (by decide) rfl inX11 (by decide) wd255 rfl (zfv_r rfl zg_0_6) ?_
    refine mw_get (k := 9) (T := TX8) (v := iv (h 8 9)) C dX11_fault_8 zn8 zk8 (by decide) rfl inX8 (by decide) wd54 rfl rfl ?_
    cases hF
    exact mw_iret C dX11_fault_11 rfl rfl
def F_X11_fault (x1 : Int) (h : MH) : Option (Int × MH) := F_X11_fault_0 x1 h
theorem T_X11_fault (l : Launch) (X : XT) (x1 : Int) (h : MH) (t : (Int × MH)) (hF : F_X11_fault x1 h = some t) : Ct l X yX11_fault cX11_fault 2 (some .int) 1 [rfv (xd X) 0, iv x1] zN zG h (some (iv t.1)) zN zG t.2 0 0 := by
  refine Ct.head (by decide) (Nat.le_of_ble_eq_true rfl) (fun Z hX hl _ _ _ C => ?_)
  subst hX
  subst hl
  exact (T_X11_fault_0 C x1 _ _ hF)
/-! BottleLine.many(I)I -/
def F_X11_many_0 (x1 : Int) (h : MH) : Option (Int × MH) :=
  ck (in32 x1) <|
  if x1 = 0 then
    (F_X11_answer (h 35 0) h).bind fun q3 =>
    some (q3.1, q3.2)
  else
  if x1 = 1 then
    (F_X11_answer (h 34 4) h).bind fun q5 =>
    some (q5.1, q5.2)
  else
  if x1 = 2 then
    (F_X11_answer (h 35 7) h).bind fun q7 =>
    some (q7.1, q7.2)
  else
  if x1 = 3 then
    (F_X1_made 35 h).bind fun q9 =>
    (F_X11_answer q9.1 q9.2).bind fun q10 =>
    some (q10.1, q10.2)
  else
  (F_X11_none 1 h).bind fun q11 =>
  some (q11.1, q11.2)
set_option maxRecDepth 100000 in
theorem T_X11_many_0 {Z : ZT} (C : Cx Z cX11_many 2 RX11 2 (some .int)) (x1 : Int) (h : MH) (t : (Int × MH)) (hF : F_X11_many_0 x1 h = some t) : MW Z (Qm Z (some (iv t.1)) zN zG t.2 0 0) 2 zN zG h 0 0 0 [(0, rfv (xd (zX Z)) 0), (1, iv x1)] [] := by
  unfold F_X11_many_0 at hF
  refine mw_iload_n 1 C dX11_many_0 rfl rfl ?_
  obtain ⟨g1, hF⟩ := ck_some hF
  rcases ite_some hF with ⟨c2, hF⟩ | ⟨c2, hF⟩
  · refine mw_tabI (tgt := 32) 0 C dX11_many_1 (by decide) c2 (by decide) (by decide) rfl (by decide) ?_
    refine mw_aload_n 0 C dX11_many_32 rfl rfl ?_
    refine mw_aload_n 0 C dX11_many_33 rfl rfl ?_
    refine mw_get (k := 9) (T := TX11) (v := rfv (xd (zX Z)) 34) C dX11_many_34 zn0 zk0 (by decide) rfl inX11 (by decide) wd258 rfl (zfv_r rfl zg_0_9) ?_
    refine mw_get (k := 0) (T := TX5) (v := rfv (xd (zX Z)) 35) C dX11_many_37 zn34 zk34 (by decide) rfl inX5 (by decide) wd121 rfl (zfv_r rfl zg_34_0) ?_
    refine mw_get (k := 0) (T := TX1) (v := iv (h 35 0)) C dX11_many_40 zn35 zk35 (by decide) rfl inX1 (by decide) wd81 rfl rfl ?_
    obtain ⟨q3, hq3, hF⟩ := bind_some hF
    refine mw_callV (c := 0) [iv (h 35 0)] [] C dX11_many_43 (T_X11_answer (zl Z) (zX Z) (h 35 0) _ _ hq3) rfl zn0 zk0 (by decide) rfl wd494 wd495 wd1325 wd1 wd496 hd_X11_answer rfl (by decide) (by decide) (Nat.le_of_ble_eq_true rfl) ⟨Nat.zero_le _, Nat.zero_le _⟩ ?_
    cases hF
    exact mw_iret C dX11_many_46 rfl rfl
  rcases ite_some hF with ⟨c4, hF⟩ | ⟨c4, hF⟩
  · refine mw_tabI (tgt := 47) 1 C dX11_many_1 (by decide) c4 (by decide) (by decide) rfl (by decide) ?_
    refine mw_aload_n 0 C dX11_many_47 rfl rfl ?_
    refine mw_aload_n 0 C dX11_many_48 rfl rfl ?_
    refine mw_get (k := 9) (T := TX11) (v := rfv (xd (zX Z)) 34) C dX11_many_49 zn0 zk0 (by decide) rfl inX11 (by decide) wd258 rfl (zfv_r rfl zg_0_9) ?_
    refine mw_get (k := 4) (T := TX5) (v := iv (h 34 4)) C dX11_many_52 zn34 zk34 (by decide) rfl inX5 (by decide) wd133 rfl rfl ?_
    obtain ⟨q5, hq5, hF⟩ := bind_some hF
    refine mw_callV (c := 0) [iv (h 34 4)] [] C dX11_many_55 (T_X11_answer (zl Z) (zX Z) (h 34 4) _ _ hq5) rfl zn0 zk0 (by decide) rfl wd494 wd495 wd1325 wd1 wd496 hd_X11_answer rfl (by decide) (by decide) (Nat.le_of_ble_eq_true rfl) ⟨Nat.zero_le _, Nat.zero_le _⟩ ?_
    cases hF
    exact mw_iret C dX11_many_58 rfl rfl
  rcases ite_some hF with ⟨c6, hF⟩ | ⟨c6, hF⟩
  · refine mw_tabI (tgt := 59) 2 C dX11_many_1 (by decide) c6 (by decide) (by decide) rfl (by decide) ?_
    refine mw_aload_n 0 C dX11_many_59 rfl rfl ?_
    refine mw_aload_n 0 C dX11_many_60 rfl rfl ?_
    refine mw_get (k := 9) (T := TX11) (v := rfv (xd (zX Z)) 34) C dX11_many_61 zn0 zk0 (by decide) rfl inX11 (by decide) wd258 rfl (zfv_r rfl zg_0_9) ?_
    refine mw_get (k := 0) (T := TX5) (v := rfv (xd (zX Z)) 35) C dX11_many_64 zn34 zk34 (by decide) rfl inX5 (by decide) wd121 rfl (zfv_r rfl zg_34_0) ?_
    refine mw_get (k := 7) (T := TX1) (v := iv (h 35 7)) C dX11_many_67 zn35 zk35 (by decide) rfl inX1 (by decide) wd101 rfl rfl ?_
    obtain ⟨q7, hq7, hF⟩ := bind_some hF
    refine mw_callV (c := 0) [iv (h 35 7)] [] C dX11_many_70 (T_X11_answer (zl Z) (zX Z) (h 35 7) _ _ hq7) rfl zn0 zk0 (by decide) rfl wd494 wd495 wd1325 wd1 wd496 hd_X11_answer rfl (by decide) (by decide) (Nat.le_of_ble_eq_true rfl) ⟨Nat.zero_le _, Nat.zero_le _⟩ ?_
    cases hF
    exact mw_iret C dX11_many_73 rfl rfl
  rcases ite_some hF with ⟨c8, hF⟩ | ⟨c8, hF⟩
  · refine mw_tabI (tgt := 74) 3 C dX11_many_1 (by decide) c8 (by decide) (by decide) rfl (by decide) ?_
    refine mw_aload_n 0 C dX11_many_74 rfl rfl ?_
    refine mw_aload_n 0 C dX11_many_75 rfl rfl ?_
    refine mw_get (k := 9) (T := TX11) (v := rfv (xd (zX Z)) 34) C dX11_many_76 zn0 zk0 (by decide) rfl inX11 (by decide) wd258 rfl (zfv_r rfl zg_0_9) ?_
    refine mw_get (k := 0) (T := TX5) (v := rfv (xd (zX Z)) 35) C dX11_many_79 zn34 zk34 (by decide) rfl inX5 (by decide) wd121 rfl (zfv_r rfl zg_34_0) ?_
    obtain ⟨q9, hq9, hF⟩ := bind_some hF
    refine mw_callV (c := 35) [] [rfv (xd (zX Z)) 0] C dX11_many_82 (T_X1_made (zl Z) (zX Z) 35 ok_35 _ _ hq9) rfl zn35 zk35 (by decide) rfl wd551 wd552 wd553 wd5 wd554 hd_X1_made rfl (by decide) (by decide) (Nat.le_of_ble_eq_true rfl) ⟨Nat.zero_le _, Nat.zero_le _⟩ ?_
    obtain ⟨q10, hq10, hF⟩ := bind_some hF
    refine mw_callV (c := 0) [iv q9.1] [] C dX11_many_85 (T_X11_answer (zl Z) (zX Z) q9.1 _ _ hq10) rfl zn0 zk0 (by decide) rfl wd494 wd495 wd1325 wd1 wd496 hd_X11_answer rfl (by decide) (by decide) (Nat.le_of_ble_eq_true rfl) ⟨Nat.zero_le _, Nat.zero_le _⟩ ?_
    cases hF
    exact mw_iret C dX11_many_88 rfl rfl
  refine mw_tabO (tgt := 89) C dX11_many_1 g1 (by omega) (by decide) ?_
  refine mw_aload_n 0 C dX11_many_89 rfl rfl ?_
  refine mw_iconst C dX11_many_90 ?_
  obtain ⟨q11, hq11, hF⟩ := bind_some hF
  refine mw_callV (c := 0) [iv 1] [] C dX11_many_91 (T_X11_none (zl Z) (zX Z) 1 _ _ hq11) rfl zn0 zk0 (by decide) rfl wd315 wd316 wd1311 wd1 wd317 hd_X11_none rfl (by decide) (by decide) (Nat.le_of_ble_eq_true rfl) ⟨Nat.zero_le _, Nat.zero_le _⟩ ?_
  cases hF
  exact mw_iret C dX11_many_94 rfl rfl
def F_X11_many (x1 : Int) (h : MH) : Option (Int × MH) := F_X11_many_0 x1 h
theorem T_X11_many (l : Launch) (X : XT) (x1 : Int) (h : MH) (t : (Int × MH)) (hF : F_X11_many x1 h = some t) : Ct l X yX11_many cX11_many 2 (some .int) 2 [rfv (xd X) 0, iv x1] zN zG h (some (iv t.1)) zN zG t.2 0 0 := by
  refine Ct.head (by decide) (Nat.le_of_ble_eq_true rfl) (fun Z hX hl _ _ _ C => ?_)
  subst hX
  subst hl
  exact (T_X11_many_0 C x1 _ _ hF)
/-! BottleLine.isMachine(I)Z -/
def F_X11_isMachine_0 (x1 : Int) (h : MH) : Option (Int × MH) :=
  ck (in32 x1) <|
  if x1 < 0 then
    some (0, h)
  else
    ck (in32 (h 35 0)) <|
    if (h 35 0) ≤ x1 then
      some (0, h)
    else
      some (1, h)
set_option maxRecDepth 100000 in
theorem T_X11_isMachine_0 {Z : ZT} (C : Cx Z cX11_isMachine 2 RX11 1 (some .boolean)) (x1 : Int) (h : MH) (t : (Int × MH)) (hF : F_X11_isMachine_0 x1 h = some t) : MW Z (Qm Z (some (iv t.1)) zN zG t.2 0 0) 2 zN zG h 0 0 0 [(0, rfv (xd (zX Z)) 0), (1, iv x1)] [] := by
  unfold F_X11_isMachine_0 at hF
  refine mw_iload_n 1 C dX11_isMachine_0 rfl rfl ?_
  obtain ⟨g1, hF⟩ := ck_some hF
  rcases ite_some hF with ⟨c2, hF⟩ | ⟨c2, hF⟩
  · refine mw_if_lt_t (tgt := 22) C dX11_isMachine_1 (by decide) g1 c2 ?_
    refine mw_iconst C dX11_isMachine_22 ?_
    cases hF
    exact mw_zret C dX11_isMachine_23 (Or.inl rfl) rfl rfl
  · refine mw_if_lt_f (tgt := 22) C dX11_isMachine_1 (by decide) g1 c2 ?_
    refine mw_iload_n 1 C dX11_isMachine_4 rfl rfl ?_
    refine mw_aload_n 0 C dX11_isMachine_5 rfl rfl ?_
    refine mw_get (k := 9) (T := TX11) (v := rfv (xd (zX Z)) 34) C dX11_isMachine_6 zn0 zk0 (by decide) rfl inX11 (by decide) wd258 rfl (zfv_r rfl zg_0_9) ?_
    refine mw_get (k := 0) (T := TX5) (v := rfv (xd (zX Z)) 35) C dX11_isMachine_9 zn34 zk34 (by decide) rfl inX5 (by decide) wd121 rfl (zfv_r rfl zg_34_0) ?_
    refine mw_get (k := 0) (T := TX1) (v := iv (h 35 0)) C dX11_isMachine_12 zn35 zk35 (by decide) rfl inX1 (by decide) wd81 rfl rfl ?_
    obtain ⟨g3, hF⟩ := ck_some hF
    rcases ite_some hF with ⟨c4, hF⟩ | ⟨c4, hF⟩
    · refine mw_icmp_ge_t (tgt := 22) C dX11_isMachine_15 (by decide) g1 g3 c4 ?_
      refine mw_iconst C dX11_isMachine_22 ?_
      cases hF
      exact mw_zret C dX11_isMachine_23 (Or.inl rfl) rfl rfl
    · refine mw_icmp_ge_f (tgt := 22) C dX11_isMachine_15 (by decide) g1 g3 c4 ?_
      refine mw_iconst C dX11_isMachine_18 ?_
      refine mw_goto (tgt := 23) C dX11_isMachine_19 (by decide) ?_
      cases hF
      exact mw_zret C dX11_isMachine_23 (Or.inr rfl) rfl rfl
def F_X11_isMachine (x1 : Int) (h : MH) : Option (Int × MH) := F_X11_isMachine_0 x1 h
theorem T_X11_isMachine (l : Launch) (X : XT) (x1 : Int) (h : MH) (t : (Int × MH)) (hF : F_X11_isMachine x1 h = some t) : Ct l X yX11_isMachine cX11_isMachine 2 (some .boolean) 1 [rfv (xd X) 0, iv x1] zN zG h (some (iv t.1)) zN zG t.2 0 0 := by
  refine Ct.head (by decide) (Nat.le_of_ble_eq_true rfl) (fun Z hX hl _ _ _ C => ?_)
  subst hX
  subst hl
  exact (T_X11_isMachine_0 C x1 _ _ hF)
/-! BottleLine.machine(II)I -/
def F_X11_machine_0 (x1 : Int) (x2 : Int) (h : MH) : Option (Int × MH) :=
  (F_X11_isMachine x1 h).bind fun q1 =>
  ck (in32 q1.1) <|
  if q1.1 ≠ 0 then
    ck (in32 x2) <|
    if x2 = 0 then
      ck (0 ≤ x1 ∧ x1 < 6) <|
      (F_X11_answer (q1.2 36 x1.toNat) q1.2).bind fun q7 =>
      some (q7.1, q7.2)
    else
    if x2 = 1 then
      ck (0 ≤ x1 ∧ x1 < 6) <|
      (F_X11_answer (q1.2 47 x1.toNat) q1.2).bind fun q10 =>
      some (q10.1, q10.2)
    else
    if x2 = 2 then
      ck (0 ≤ x1 ∧ x1 < 6) <|
      (F_X11_answer (q1.2 37 x1.toNat) q1.2).bind fun q13 =>
      some (q13.1, q13.2)
    else
    if x2 = 3 then
      ck (0 ≤ x1 ∧ x1 < 6) <|
      (F_X11_answer (q1.2 38 x1.toNat) q1.2).bind fun q16 =>
      some (q16.1, q16.2)
    else
    if x2 = 4 then
      ck (0 ≤ x1 ∧ x1 < 6) <|
      (F_X11_answer (q1.2 40 x1.toNat) q1.2).bind fun q19 =>
      some (q19.1, q19.2)
    else
    if x2 = 5 then
      ck (in32 (q1.2 35 7)) <|
      if (q1.2 35 7) ≠ 0 then
        ck (0 ≤ x1 ∧ x1 < 6) <|
        (F_X11_answer (q1.2 41 x1.toNat) q1.2).bind fun q24 =>
        some (q24.1, q24.2)
      else
        (F_X11_none 6 q1.2).bind fun q25 =>
        some (q25.1, q25.2)
    else
    if x2 = 6 then
      ck (0 ≤ x1 ∧ x1 < 6) <|
      (F_X11_answer (q1.2 42 x1.toNat) q1.2).bind fun q28 =>
      some (q28.1, q28.2)
    else
    (F_X11_none 1 q1.2).bind fun q29 =>
    some (q29.1, q29.2)
  else
    (F_X11_none 1 q1.2).bind fun q30 =>
    some (q30.1, q30.2)
set_option maxRecDepth 100000 in
theorem T_X11_machine_0 {Z : ZT} (C : Cx Z cX11_machine 4 RX11 2 (some .int)) (x1 : Int) (x2 : Int) (h : MH) (t : (Int × MH)) (hF : F_X11_machine_0 x1 x2 h = some t) : MW Z (Qm Z (some (iv t.1)) zN zG t.2 0 0) 4 zN zG h 0 0 0 [(0, rfv (xd (zX Z)) 0), (1, iv x1), (2, iv x2)] [] := by
  unfold F_X11_machine_0 at hF
  refine mw_aload_n 0 C dX11_machine_0 rfl rfl ?_
  refine mw_iload_n 1 C dX11_machine_1 rfl rfl ?_
  obtain ⟨q1, hq1, hF⟩ := bind_some hF
  refine mw_callV (c := 0) [iv x1] [] C dX11_machine_2 (T_X11_isMachine (zl Z) (zX Z) x1 _ _ hq1) rfl zn0 zk0 (by decide) rfl wd559 wd560 wd1334 wd1 wd561 hd_X11_isMachine rfl (by decide) (by decide) (Nat.le_of_ble_eq_true rfl) ⟨Nat.zero_le _, Nat.zero_le _⟩ ?_
  obtain ⟨g2, hF⟩ := ck_some hF
  rcases ite_some hF with ⟨c3, hF⟩ | ⟨c3, hF⟩
  · refine mw_if_ne_t (tgt := 14) C dX11_machine_5 (by decide) g2 c3 ?_
    refine mw_aload_n 0 C dX11_machine_14 rfl rfl ?_
    refine mw_get (k := 9) (T := TX11) (v := rfv (xd (zX Z)) 34) C dX11_machine_15 zn0 zk0 (by decide) rfl inX11 (by decide) wd258 rfl (zfv_r rfl zg_0_9) ?_
    refine mw_get (k := 0) (T := TX5) (v := rfv (xd (zX Z)) 35) C dX11_machine_18 zn34 zk34 (by decide) rfl inX5 (by decide) wd121 rfl (zfv_r rfl zg_34_0) ?_
    refine mw_astore_n [(3, rfv (xd (zX Z)) 35), (0, rfv (xd (zX Z)) 0), (1, iv x1), (2, iv x2)] C dX11_machine_21 rfl (by decide) rfl ?_
    refine mw_iload_n 3 C dX11_machine_22 rfl rfl ?_
    obtain ⟨g4, hF⟩ := ck_some hF
    rcases ite_some hF with ⟨c5, hF⟩ | ⟨c5, hF⟩
    · refine mw_tabI (tgt := 64) 0 C dX11_machine_23 (by decide) c5 (by decide) (by decide) rfl (by decide) ?_
      refine mw_aload_n 1 C dX11_machine_64 rfl rfl ?_
      refine mw_aload_n 0 C dX11_machine_65 rfl rfl ?_
      refine mw_get (k := 1) (T := TX1) (v := rfv (xd (zX Z)) 36) C dX11_machine_66 zn35 zk35 (by decide) rfl inX1 (by decide) wd86 rfl (zfv_r rfl zg_35_1) ?_
      refine mw_iload_n 2 C dX11_machine_69 rfl rfl ?_
      obtain ⟨g6, hF⟩ := ck_some hF
      refine mw_iald C dX11_machine_70 zn36 zk36 (by decide) g6 ?_
      obtain ⟨q7, hq7, hF⟩ := bind_some hF
      refine mw_callV (c := 0) [iv (q1.2 36 x1.toNat)] [] C dX11_machine_71 (T_X11_answer (zl Z) (zX Z) (q1.2 36 x1.toNat) _ _ hq7) rfl zn0 zk0 (by decide) rfl wd494 wd495 wd1325 wd1 wd496 hd_X11_answer rfl (by decide) (by decide) (Nat.le_of_ble_eq_true rfl) ⟨Nat.zero_le _, Nat.zero_le _⟩ ?_
      cases hF
      exact mw_iret C dX11_machine_74 rfl rfl
    rcases ite_some hF with ⟨c8, hF⟩ | ⟨c8, hF⟩
    · refine mw_tabI (tgt := 75) 1 C dX11_machine_23 (by decide) c8 (by decide) (by decide) rfl (by decide) ?_
      refine mw_aload_n 1 C dX11_machine_75 rfl rfl ?_
      refine mw_aload_n 1 C dX11_machine_76 rfl rfl ?_
      refine mw_get (k := 9) (T := TX11) (v := rfv (xd (zX Z)) 34) C dX11_machine_77 zn0 zk0 (by decide) rfl inX11 (by decide) wd258 rfl (zfv_r rfl zg_0_9) ?_
      refine mw_get (k := 2) (T := TX5) (v := rfv (xd (zX Z)) 47) C dX11_machine_80 zn34 zk34 (by decide) rfl inX5 (by decide) wd127 rfl (zfv_r rfl zg_34_2) ?_
      refine mw_iload_n 2 C dX11_machine_83 rfl rfl ?_
      obtain ⟨g9, hF⟩ := ck_some hF
      refine mw_iald C dX11_machine_84 zn47 zk47 (by decide) g9 ?_
      obtain ⟨q10, hq10, hF⟩ := bind_some hF
      refine mw_callV (c := 0) [iv (q1.2 47 x1.toNat)] [] C dX11_machine_85 (T_X11_answer (zl Z) (zX Z) (q1.2 47 x1.toNat) _ _ hq10) rfl zn0 zk0 (by decide) rfl wd494 wd495 wd1325 wd1 wd496 hd_X11_answer rfl (by decide) (by decide) (Nat.le_of_ble_eq_true rfl) ⟨Nat.zero_le _, Nat.zero_le _⟩ ?_
      cases hF
      exact mw_iret C dX11_machine_88 rfl rfl
    rcases ite_some hF with ⟨c11, hF⟩ | ⟨c11, hF⟩
    · refine mw_tabI (tgt := 89) 2 C dX11_machine_23 (by decide) c11 (by decide) (by decide) rfl (by decide) ?_
      refine mw_aload_n 1 C dX11_machine_89 rfl rfl ?_
      refine mw_aload_n 0 C dX11_machine_90 rfl rfl ?_
      refine mw_get (k := 2) (T := TX1) (v := rfv (xd (zX Z)) 37) C dX11_machine_91 zn35 zk35 (by decide) rfl inX1 (by decide) wd89 rfl (zfv_r rfl zg_35_2) ?_
      refine mw_iload_n 2 C dX11_machine_94 rfl rfl ?_
      obtain ⟨g12, hF⟩ := ck_some hF
      refine mw_iald C dX11_machine_95 zn37 zk37 (by decide) g12 ?_
      obtain ⟨q13, hq13, hF⟩ := bind_some hF
      refine mw_callV (c := 0) [iv (q1.2 37 x1.toNat)] [] C dX11_machine_96 (T_X11_answer (zl Z) (zX Z) (q1.2 37 x1.toNat) _ _ hq13) rfl zn0 zk0 (by decide) rfl wd494 wd495 wd1325 wd1 wd496 hd_X11_answer rfl (by decide) (by decide) (Nat.le_of_ble_eq_true rfl) ⟨Nat.zero_le _, Nat.zero_le _⟩ ?_
      cases hF
      exact mw_iret C dX11_machine_99 rfl rfl
    rcases ite_some hF with ⟨c14, hF⟩ | ⟨c14, hF⟩
    · refine mw_tabI (tgt := 100) 3 C dX11_machine_23 (by decide) c14 (by decide) (by decide) rfl (by decide) ?_
      refine mw_aload_n 1 C dX11_machine_100 rfl rfl ?_
      refine mw_aload_n 0 C dX11_machine_101 rfl rfl ?_
      refine mw_get (k := 3) (T := TX1) (v := rfv (xd (zX Z)) 38) C dX11_machine_102 zn35 zk35 (by decide) rfl inX1 (by decide) wd92 rfl (zfv_r rfl zg_35_3) ?_
      refine mw_iload_n 2 C dX11_machine_105 rfl rfl ?_
      obtain ⟨g15, hF⟩ := ck_some hF
      refine mw_iald C dX11_machine_106 zn38 zk38 (by decide) g15 ?_
      obtain ⟨q16, hq16, hF⟩ := bind_some hF
      refine mw_callV (c := 0) [iv (q1.2 38 x1.toNat)] [] C dX11_machine_107 (T_X11_answer (zl Z) (zX Z) (q1.2 38 x1.toNat) _ _ hq16) rfl zn0 zk0 (by decide) rfl wd494 wd495 wd1325 wd1 wd496 hd_X11_answer rfl (by decide) (by decide) (Nat.le_of_ble_eq_true rfl) ⟨Nat.zero_le _, Nat.zero_le _⟩ ?_
      cases hF
      exact mw_iret C dX11_machine_110 rfl rfl
    rcases ite_some hF with ⟨c17, hF⟩ | ⟨c17, hF⟩
    · refine mw_tabI (tgt := 111) 4 C dX11_machine_23 (by decide) c17 (by decide) (by decide) rfl (by decide) ?_
      refine mw_aload_n 1 C dX11_machine_111 rfl rfl ?_
      refine mw_aload_n 0 C dX11_machine_112 rfl rfl ?_
      refine mw_get (k := 8) (T := TX1) (v := rfv (xd (zX Z)) 40) C dX11_machine_113 zn35 zk35 (by decide) rfl inX1 (by decide) wd104 rfl (zfv_r rfl zg_35_8) ?_
      refine mw_iload_n 2 C dX11_machine_116 rfl rfl ?_
      obtain ⟨g18, hF⟩ := ck_some hF
      refine mw_iald C dX11_machine_117 zn40 zk40 (by decide) g18 ?_
      obtain ⟨q19, hq19, hF⟩ := bind_some hF
      refine mw_callV (c := 0) [iv (q1.2 40 x1.toNat)] [] C dX11_machine_118 (T_X11_answer (zl Z) (zX Z) (q1.2 40 x1.toNat) _ _ hq19) rfl zn0 zk0 (by decide) rfl wd494 wd495 wd1325 wd1 wd496 hd_X11_answer rfl (by decide) (by decide) (Nat.le_of_ble_eq_true rfl) ⟨Nat.zero_le _, Nat.zero_le _⟩ ?_
      cases hF
      exact mw_iret C dX11_machine_121 rfl rfl
    rcases ite_some hF with ⟨c20, hF⟩ | ⟨c20, hF⟩
    · refine mw_tabI (tgt := 122) 5 C dX11_machine_23 (by decide) c20 (by decide) (by decide) rfl (by decide) ?_
      refine mw_aload_n 0 C dX11_machine_122 rfl rfl ?_
      refine mw_get (k := 7) (T := TX1) (v := iv (q1.2 35 7)) C dX11_machine_123 zn35 zk35 (by decide) rfl inX1 (by decide) wd101 rfl rfl ?_
      obtain ⟨g21, hF⟩ := ck_some hF
      rcases ite_some hF with ⟨c22, hF⟩ | ⟨c22, hF⟩
      · refine mw_if_ne_t (tgt := 138) C dX11_machine_126 (by decide) g21 c22 ?_
        refine mw_aload_n 1 C dX11_machine_138 rfl rfl ?_
        refine mw_aload_n 0 C dX11_machine_139 rfl rfl ?_
        refine mw_get (k := 9) (T := TX1) (v := rfv (xd (zX Z)) 41) C dX11_machine_140 zn35 zk35 (by decide) rfl inX1 (by decide) wd108 rfl (zfv_r rfl zg_35_9) ?_
        refine mw_iload_n 2 C dX11_machine_143 rfl rfl ?_
        obtain ⟨g23, hF⟩ := ck_some hF
        refine mw_iald C dX11_machine_144 zn41 zk41 (by decide) g23 ?_
        obtain ⟨q24, hq24, hF⟩ := bind_some hF
        refine mw_callV (c := 0) [iv (q1.2 41 x1.toNat)] [] C dX11_machine_145 (T_X11_answer (zl Z) (zX Z) (q1.2 41 x1.toNat) _ _ hq24) rfl zn0 zk0 (by decide) rfl wd494 wd495 wd1325 wd1 wd496 hd_X11_answer rfl (by decide) (by decide) (Nat.le_of_ble_eq_true rfl) ⟨Nat.zero_le _, Nat.zero_le _⟩ ?_
        cases hF
        exact mw_iret C dX11_machine_148 rfl rfl
      · refine mw_if_ne_f (tgt := 138) C dX11_machine_126 (by decide) g21 c22 ?_
        refine mw_aload_n 1 C dX11_machine_129 rfl rfl ?_
        refine mw_bipush C dX11_machine_130 bp_6 ?_
        obtain ⟨q25, hq25, hF⟩ := bind_some hF
        refine mw_callV (c := 0) [iv 6] [] C dX11_machine_132 (T_X11_none (zl Z) (zX Z) 6 _ _ hq25) rfl zn0 zk0 (by decide) rfl wd315 wd316 wd1311 wd1 wd317 hd_X11_none rfl (by decide) (by decide) (Nat.le_of_ble_eq_true rfl) ⟨Nat.zero_le _, Nat.zero_le _⟩ ?_
        refine mw_goto (tgt := 148) C dX11_machine_135 (by decide) ?_
        cases hF
        exact mw_iret C dX11_machine_148 rfl rfl
    rcases ite_some hF with ⟨c26, hF⟩ | ⟨c26, hF⟩
    · refine mw_tabI (tgt := 149) 6 C dX11_machine_23 (by decide) c26 (by decide) (by decide) rfl (by decide) ?_
      refine mw_aload_n 1 C dX11_machine_149 rfl rfl ?_
      refine mw_aload_n 0 C dX11_machine_150 rfl rfl ?_
      refine mw_get (k := 10) (T := TX1) (v := rfv (xd (zX Z)) 42) C dX11_machine_151 zn35 zk35 (by decide) rfl inX1 (by decide) wd110 rfl (zfv_r rfl zg_35_10) ?_
      refine mw_iload_n 2 C dX11_machine_154 rfl rfl ?_
      obtain ⟨g27, hF⟩ := ck_some hF
      refine mw_iald C dX11_machine_155 zn42 zk42 (by decide) g27 ?_
      obtain ⟨q28, hq28, hF⟩ := bind_some hF
      refine mw_callV (c := 0) [iv (q1.2 42 x1.toNat)] [] C dX11_machine_156 (T_X11_answer (zl Z) (zX Z) (q1.2 42 x1.toNat) _ _ hq28) rfl zn0 zk0 (by decide) rfl wd494 wd495 wd1325 wd1 wd496 hd_X11_answer rfl (by decide) (by decide) (Nat.le_of_ble_eq_true rfl) ⟨Nat.zero_le _, Nat.zero_le _⟩ ?_
      cases hF
      exact mw_iret C dX11_machine_159 rfl rfl
    refine mw_tabO (tgt := 160) C dX11_machine_23 g4 (by omega) (by decide) ?_
    refine mw_aload_n 1 C dX11_machine_160 rfl rfl ?_
    refine mw_iconst C dX11_machine_161 ?_
    obtain ⟨q29, hq29, hF⟩ := bind_some hF
    refine mw_callV (c := 0) [iv 1] [] C dX11_machine_162 (T_X11_none (zl Z) (zX Z) 1 _ _ hq29) rfl zn0 zk0 (by decide) rfl wd315 wd316 wd1311 wd1 wd317 hd_X11_none rfl (by decide) (by decide) (Nat.le_of_ble_eq_true rfl) ⟨Nat.zero_le _, Nat.zero_le _⟩ ?_
    cases hF
    exact mw_iret C dX11_machine_165 rfl rfl
  · refine mw_if_ne_f (tgt := 14) C dX11_machine_5 (by decide) g2 c3 ?_
    refine mw_aload_n 0 C dX11_machine_8 rfl rfl ?_
    refine mw_iconst C dX11_machine_9 ?_
    obtain ⟨q30, hq30, hF⟩ := bind_some hF
    refine mw_callV (c := 0) [iv 1] [] C dX11_machine_10 (T_X11_none (zl Z) (zX Z) 1 _ _ hq30) rfl zn0 zk0 (by decide) rfl wd315 wd316 wd1311 wd1 wd317 hd_X11_none rfl (by decide) (by decide) (Nat.le_of_ble_eq_true rfl) ⟨Nat.zero_le _, Nat.zero_le _⟩ ?_
    cases hF
    exact mw_iret C dX11_machine_13 rfl rfl
def F_X11_machine (x1 : Int) (x2 : Int) (h : MH) : Option (Int × MH) := F_X11_machine_0 x1 x2 h
theorem T_X11_machine (l : Launch) (X : XT) (x1 : Int) (x2 : Int) (h : MH) (t : (Int × MH)) (hF : F_X11_machine x1 x2 h = some t) : Ct l X yX11_machine cX11_machine 4 (some .int) 2 [rfv (xd X) 0, iv x1, iv x2] zN zG h (some (iv t.1)) zN zG t.2 0 0 := by
  refine Ct.head (by decide) (Nat.le_of_ble_eq_true rfl) (fun Z hX hl _ _ _ C => ?_)
  subst hX
  subst hl
  exact (T_X11_machine_0 C x1 x2 _ _ hF)
/-! BottleLine.table(II)I -/
def F_X11_table_32 (h : MH) : Option (Int × MH) :=
  (F_X11_none 1 h).bind fun q1 =>
  some (q1.1, q1.2)
set_option maxRecDepth 100000 in
theorem T_X11_table_32 {Z : ZT} (C : Cx Z cX11_table 3 RX11 2 (some .int)) (h : MH) (t : (Int × MH)) (hF : F_X11_table_32 h = some t) : MW Z (Qm Z (some (iv t.1)) zN zG t.2 0 0) 3 zN zG h 0 0 32 [(0, rfv (xd (zX Z)) 0)] [] := by
  unfold F_X11_table_32 at hF
  refine mw_aload_n 0 C dX11_table_32 rfl rfl ?_
  refine mw_iconst C dX11_table_33 ?_
  obtain ⟨q1, hq1, hF⟩ := bind_some hF
  refine mw_callV (c := 0) [iv 1] [] C dX11_table_34 (T_X11_none (zl Z) (zX Z) 1 _ _ hq1) rfl zn0 zk0 (by decide) rfl wd315 wd316 wd1311 wd1 wd317 hd_X11_none rfl (by decide) (by decide) (Nat.le_of_ble_eq_true rfl) ⟨Nat.zero_le _, Nat.zero_le _⟩ ?_
  cases hF
  exact mw_iret C dX11_table_37 rfl rfl
def F_X11_table_70 (s1 : Int) (h : MH) : Option (Int × MH) :=
  (F_X11_answer s1 h).bind fun q1 =>
  some (q1.1, q1.2)
set_option maxRecDepth 100000 in
theorem T_X11_table_70 {Z : ZT} (C : Cx Z cX11_table 3 RX11 2 (some .int)) (s1 : Int) (h : MH) (t : (Int × MH)) (hF : F_X11_table_70 s1 h = some t) : MW Z (Qm Z (some (iv t.1)) zN zG t.2 0 0) 3 zN zG h 0 0 70 [] [iv s1, rfv (xd (zX Z)) 0] := by
  unfold F_X11_table_70 at hF
  obtain ⟨q1, hq1, hF⟩ := bind_some hF
  refine mw_callV (c := 0) [iv s1] [] C dX11_table_70 (T_X11_answer (zl Z) (zX Z) s1 _ _ hq1) rfl zn0 zk0 (by decide) rfl wd494 wd495 wd1325 wd1 wd496 hd_X11_answer rfl (by decide) (by decide) (Nat.le_of_ble_eq_true rfl) ⟨Nat.zero_le _, Nat.zero_le _⟩ ?_
  cases hF
  exact mw_iret C dX11_table_73 rfl rfl
def F_X11_table_0 (x1 : Int) (x2 : Int) (h : MH) : Option (Int × MH) :=
  ck (in32 x1) <|
  (F_X1_tables 35 h).bind fun q2 =>
  ck (in32 (q2.1 - 1)) <|
  (F_X11_outside x1 0 (q2.1 - 1) q2.2).bind fun q4 =>
  ck (in32 q4.1) <|
  if q4.1 ≠ 0 then
    F_X11_table_32 q4.2
  else
    ck (in32 x2) <|
    (F_X11_outside x2 0 1 q4.2).bind fun q8 =>
    ck (in32 q8.1) <|
    if q8.1 = 0 then
      if x2 ≠ 0 then
        ck (0 ≤ x1 ∧ x1 < 6) <|
        F_X11_table_70 (q8.2 43 x1.toNat) q8.2
      else
        ck (0 ≤ x1 ∧ x1 < 6) <|
        F_X11_table_70 (q8.2 39 x1.toNat) q8.2
    else
      F_X11_table_32 q8.2
set_option maxRecDepth 100000 in
theorem T_X11_table_0 {Z : ZT} (C : Cx Z cX11_table 3 RX11 2 (some .int)) (x1 : Int) (x2 : Int) (h : MH) (t : (Int × MH)) (hF : F_X11_table_0 x1 x2 h = some t) : MW Z (Qm Z (some (iv t.1)) zN zG t.2 0 0) 3 zN zG h 0 0 0 [(0, rfv (xd (zX Z)) 0), (1, iv x1), (2, iv x2)] [] := by
  unfold F_X11_table_0 at hF
  refine mw_iload_n 1 C dX11_table_0 rfl rfl ?_
  obtain ⟨g1, hF⟩ := ck_some hF
  refine mw_i2l C dX11_table_1 g1 ?_
  refine mw_lconst (a := 0) C dX11_table_2 lc_0 ?_
  refine mw_aload_n 0 C dX11_table_3 rfl rfl ?_
  refine mw_get (k := 9) (T := TX11) (v := rfv (xd (zX Z)) 34) C dX11_table_4 zn0 zk0 (by decide) rfl inX11 (by decide) wd258 rfl (zfv_r rfl zg_0_9) ?_
  refine mw_get (k := 0) (T := TX5) (v := rfv (xd (zX Z)) 35) C dX11_table_7 zn34 zk34 (by decide) rfl inX5 (by decide) wd121 rfl (zfv_r rfl zg_34_0) ?_
  obtain ⟨q2, hq2, hF⟩ := bind_some hF
  refine mw_callV (c := 35) [] [lvv 0, lvv x1] C dX11_table_10 (T_X1_tables (zl Z) (zX Z) 35 ok_35 _ _ hq2) rfl zn35 zk35 (by decide) rfl wd566 wd567 wd568 wd5 wd569 hd_X1_tables rfl (by decide) (by decide) (Nat.le_of_ble_eq_true rfl) ⟨Nat.zero_le _, Nat.zero_le _⟩ ?_
  refine mw_iconst C dX11_table_13 ?_
  refine mw_isub C dX11_table_14 ?_
  obtain ⟨g3, hF⟩ := ck_some hF
  refine mw_i2l C dX11_table_15 g3 ?_
  obtain ⟨q4, hq4, hF⟩ := bind_some hF
  refine mw_callS [lvv x1, lvv 0, lvv (q2.1 - 1)] [] C dX11_table_16 (T_X11_outside (zl Z) (zX Z) x1 0 (q2.1 - 1) _ _ hq4) rfl wd288 wd289 wd1 wd290 hd_X11_outside rfl (by decide) (by decide) (Nat.le_of_ble_eq_true rfl) ⟨Nat.zero_le _, Nat.zero_le _⟩ ?_
  obtain ⟨g5, hF⟩ := ck_some hF
  rcases ite_some hF with ⟨c6, hF⟩ | ⟨c6, hF⟩
  · refine mw_if_ne_t (tgt := 32) C dX11_table_19 (by decide) g5 c6 ?_
    refine mw_sub [0] rfl ?_
    exact T_X11_table_32 C _ _ hF
  · refine mw_if_ne_f (tgt := 32) C dX11_table_19 (by decide) g5 c6 ?_
    refine mw_iload_n 2 C dX11_table_22 rfl rfl ?_
    obtain ⟨g7, hF⟩ := ck_some hF
    refine mw_i2l C dX11_table_23 g7 ?_
    refine mw_lconst (a := 0) C dX11_table_24 lc_0 ?_
    refine mw_lconst (a := 1) C dX11_table_25 lc_1 ?_
    obtain ⟨q8, hq8, hF⟩ := bind_some hF
    refine mw_callS [lvv x2, lvv 0, lvv 1] [] C dX11_table_26 (T_X11_outside (zl Z) (zX Z) x2 0 1 _ _ hq8) rfl wd288 wd289 wd1 wd290 hd_X11_outside rfl (by decide) (by decide) (Nat.le_of_ble_eq_true rfl) ⟨Nat.zero_le _, Nat.zero_le _⟩ ?_
    obtain ⟨g9, hF⟩ := ck_some hF
    rcases ite_some hF with ⟨c10, hF⟩ | ⟨c10, hF⟩
    · refine mw_if_eq_t (tgt := 38) C dX11_table_29 (by decide) g9 c10 ?_
      refine mw_aload_n 0 C dX11_table_38 rfl rfl ?_
      refine mw_iload_n 2 C dX11_table_39 rfl rfl ?_
      rcases ite_some hF with ⟨c11, hF⟩ | ⟨c11, hF⟩
      · refine mw_if_ne_t (tgt := 58) C dX11_table_40 (by decide) g7 c11 ?_
        refine mw_aload_n 0 C dX11_table_58 rfl rfl ?_
        refine mw_get (k := 9) (T := TX11) (v := rfv (xd (zX Z)) 34) C dX11_table_59 zn0 zk0 (by decide) rfl inX11 (by decide) wd258 rfl (zfv_r rfl zg_0_9) ?_
        refine mw_get (k := 0) (T := TX5) (v := rfv (xd (zX Z)) 35) C dX11_table_62 zn34 zk34 (by decide) rfl inX5 (by decide) wd121 rfl (zfv_r rfl zg_34_0) ?_
        refine mw_get (k := 11) (T := TX1) (v := rfv (xd (zX Z)) 43) C dX11_table_65 zn35 zk35 (by decide) rfl inX1 (by decide) wd112 rfl (zfv_r rfl zg_35_11) ?_
        refine mw_iload_n 1 C dX11_table_68 rfl rfl ?_
        obtain ⟨g12, hF⟩ := ck_some hF
        refine mw_iald C dX11_table_69 zn43 zk43 (by decide) g12 ?_
        refine mw_sub [] rfl ?_
        exact T_X11_table_70 C (q8.2 43 x1.toNat) _ _ hF
      · refine mw_if_ne_f (tgt := 58) C dX11_table_40 (by decide) g7 c11 ?_
        refine mw_aload_n 0 C dX11_table_43 rfl rfl ?_
        refine mw_get (k := 9) (T := TX11) (v := rfv (xd (zX Z)) 34) C dX11_table_44 zn0 zk0 (by decide) rfl inX11 (by decide) wd258 rfl (zfv_r rfl zg_0_9) ?_
        refine mw_get (k := 0) (T := TX5) (v := rfv (xd (zX Z)) 35) C dX11_table_47 zn34 zk34 (by decide) rfl inX5 (by decide) wd121 rfl (zfv_r rfl zg_34_0) ?_
        refine mw_get (k := 4) (T := TX1) (v := rfv (xd (zX Z)) 39) C dX11_table_50 zn35 zk35 (by decide) rfl inX1 (by decide) wd96 rfl (zfv_r rfl zg_35_4) ?_
        refine mw_iload_n 1 C dX11_table_53 rfl rfl ?_
        obtain ⟨g13, hF⟩ := ck_some hF
        refine mw_iald C dX11_table_54 zn39 zk39 (by decide) g13 ?_
        refine mw_goto (tgt := 70) C dX11_table_55 (by decide) ?_
        refine mw_sub [] rfl ?_
        exact T_X11_table_70 C (q8.2 39 x1.toNat) _ _ hF
    · refine mw_if_eq_f (tgt := 38) C dX11_table_29 (by decide) g9 c10 ?_
      refine mw_sub [0] rfl ?_
      exact T_X11_table_32 C _ _ hF
def F_X11_table (x1 : Int) (x2 : Int) (h : MH) : Option (Int × MH) := F_X11_table_0 x1 x2 h
theorem T_X11_table (l : Launch) (X : XT) (x1 : Int) (x2 : Int) (h : MH) (t : (Int × MH)) (hF : F_X11_table x1 x2 h = some t) : Ct l X yX11_table cX11_table 3 (some .int) 2 [rfv (xd X) 0, iv x1, iv x2] zN zG h (some (iv t.1)) zN zG t.2 0 0 := by
  refine Ct.head (by decide) (Nat.le_of_ble_eq_true rfl) (fun Z hX hl _ _ _ C => ?_)
  subst hX
  subst hl
  exact (T_X11_table_0 C x1 x2 _ _ hF)
/-! BottleLine.isSort(I)Z -/
def F_X11_isSort_0 (x1 : Int) (h : MH) : Option (Int × MH) :=
  ck (in32 x1) <|
  if x1 < 0 then
    some (0, h)
  else
    ck (in32 (h 34 4)) <|
    if (h 34 4) ≤ x1 then
      some (0, h)
    else
      some (1, h)
set_option maxRecDepth 100000 in
theorem T_X11_isSort_0 {Z : ZT} (C : Cx Z cX11_isSort 2 RX11 1 (some .boolean)) (x1 : Int) (h : MH) (t : (Int × MH)) (hF : F_X11_isSort_0 x1 h = some t) : MW Z (Qm Z (some (iv t.1)) zN zG t.2 0 0) 2 zN zG h 0 0 0 [(0, rfv (xd (zX Z)) 0), (1, iv x1)] [] := by
  unfold F_X11_isSort_0 at hF
  refine mw_iload_n 1 C dX11_isSort_0 rfl rfl ?_
  obtain ⟨g1, hF⟩ := ck_some hF
  rcases ite_some hF with ⟨c2, hF⟩ | ⟨c2, hF⟩
  · refine mw_if_lt_t (tgt := 19) C dX11_isSort_1 (by decide) g1 c2 ?_
    refine mw_iconst C dX11_isSort_19 ?_
    cases hF
    exact mw_zret C dX11_isSort_20 (Or.inl rfl) rfl rfl
  · refine mw_if_lt_f (tgt := 19) C dX11_isSort_1 (by decide) g1 c2 ?_
    refine mw_iload_n 1 C dX11_isSort_4 rfl rfl ?_
    refine mw_aload_n 0 C dX11_isSort_5 rfl rfl ?_
    refine mw_get (k := 9) (T := TX11) (v := rfv (xd (zX Z)) 34) C dX11_isSort_6 zn0 zk0 (by decide) rfl inX11 (by decide) wd258 rfl (zfv_r rfl zg_0_9) ?_
    refine mw_get (k := 4) (T := TX5) (v := iv (h 34 4)) C dX11_isSort_9 zn34 zk34 (by decide) rfl inX5 (by decide) wd133 rfl rfl ?_
    obtain ⟨g3, hF⟩ := ck_some hF
    rcases ite_some hF with ⟨c4, hF⟩ | ⟨c4, hF⟩
    · refine mw_icmp_ge_t (tgt := 19) C dX11_isSort_12 (by decide) g1 g3 c4 ?_
      refine mw_iconst C dX11_isSort_19 ?_
      cases hF
      exact mw_zret C dX11_isSort_20 (Or.inl rfl) rfl rfl
    · refine mw_icmp_ge_f (tgt := 19) C dX11_isSort_12 (by decide) g1 g3 c4 ?_
      refine mw_iconst C dX11_isSort_15 ?_
      refine mw_goto (tgt := 20) C dX11_isSort_16 (by decide) ?_
      cases hF
      exact mw_zret C dX11_isSort_20 (Or.inr rfl) rfl rfl
def F_X11_isSort (x1 : Int) (h : MH) : Option (Int × MH) := F_X11_isSort_0 x1 h
theorem T_X11_isSort (l : Launch) (X : XT) (x1 : Int) (h : MH) (t : (Int × MH)) (hF : F_X11_isSort x1 h = some t) : Ct l X yX11_isSort cX11_isSort 2 (some .boolean) 1 [rfv (xd X) 0, iv x1] zN zG h (some (iv t.1)) zN zG t.2 0 0 := by
  refine Ct.head (by decide) (Nat.le_of_ble_eq_true rfl) (fun Z hX hl _ _ _ C => ?_)
  subst hX
  subst hl
  exact (T_X11_isSort_0 C x1 _ _ hF)
/-! BottleLine.wash(II)I -/
def F_X11_wash_21 (h : MH) : Option (Int × MH) :=
  (F_X11_none 1 h).bind fun q1 =>
  some (q1.1, q1.2)
set_option maxRecDepth 100000 in
theorem T_X11_wash_21 {Z : ZT} (C : Cx Z cX11_wash 3 RX11 3 (some .int)) (h : MH) (t : (Int × MH)) (hF : F_X11_wash_21 h = some t) : MW Z (Qm Z (some (iv t.1)) zN zG t.2 0 0) 3 zN zG h 0 0 21 [(0, rfv (xd (zX Z)) 0)] [] := by
  unfold F_X11_wash_21 at hF
  refine mw_aload_n 0 C dX11_wash_21 rfl rfl ?_
  refine mw_iconst C dX11_wash_22 ?_
  obtain ⟨q1, hq1, hF⟩ := bind_some hF
  refine mw_callV (c := 0) [iv 1] [] C dX11_wash_23 (T_X11_none (zl Z) (zX Z) 1 _ _ hq1) rfl zn0 zk0 (by decide) rfl wd315 wd316 wd1311 wd1 wd317 hd_X11_none rfl (by decide) (by decide) (Nat.le_of_ble_eq_true rfl) ⟨Nat.zero_le _, Nat.zero_le _⟩ ?_
  cases hF
  exact mw_iret C dX11_wash_26 rfl rfl
def F_X11_wash_0 (x1 : Int) (x2 : Int) (h : MH) : Option (Int × MH) :=
  (F_X11_isSort x1 h).bind fun q1 =>
  ck (in32 q1.1) <|
  if q1.1 = 0 then
    F_X11_wash_21 q1.2
  else
    (F_X11_isSort x2 q1.2).bind fun q4 =>
    ck (in32 q4.1) <|
    if q4.1 = 0 then
      F_X11_wash_21 q4.2
    else
      ck (in32 x1) <|
      ck (in32 x2) <|
      if x1 ≠ x2 then
        (F_X5_washMinutes 34 x1 x2 q4.2).bind fun q10 =>
        (F_X11_answer q10.1 q10.2).bind fun q11 =>
        some (q11.1, q11.2)
      else
        F_X11_wash_21 q4.2
set_option maxRecDepth 100000 in
theorem T_X11_wash_0 {Z : ZT} (C : Cx Z cX11_wash 3 RX11 3 (some .int)) (x1 : Int) (x2 : Int) (h : MH) (t : (Int × MH)) (hF : F_X11_wash_0 x1 x2 h = some t) : MW Z (Qm Z (some (iv t.1)) zN zG t.2 0 0) 3 zN zG h 0 0 0 [(0, rfv (xd (zX Z)) 0), (1, iv x1), (2, iv x2)] [] := by
  unfold F_X11_wash_0 at hF
  refine mw_aload_n 0 C dX11_wash_0 rfl rfl ?_
  refine mw_iload_n 1 C dX11_wash_1 rfl rfl ?_
  obtain ⟨q1, hq1, hF⟩ := bind_some hF
  refine mw_callV (c := 0) [iv x1] [] C dX11_wash_2 (T_X11_isSort (zl Z) (zX Z) x1 _ _ hq1) rfl zn0 zk0 (by decide) rfl wd577 wd578 wd1335 wd1 wd579 hd_X11_isSort rfl (by decide) (by decide) (Nat.le_of_ble_eq_true rfl) ⟨Nat.zero_le _, Nat.zero_le _⟩ ?_
  obtain ⟨g2, hF⟩ := ck_some hF
  rcases ite_some hF with ⟨c3, hF⟩ | ⟨c3, hF⟩
  · refine mw_if_eq_t (tgt := 21) C dX11_wash_5 (by decide) g2 c3 ?_
    refine mw_sub [0] rfl ?_
    exact T_X11_wash_21 C _ _ hF
  · refine mw_if_eq_f (tgt := 21) C dX11_wash_5 (by decide) g2 c3 ?_
    refine mw_aload_n 0 C dX11_wash_8 rfl rfl ?_
    refine mw_iload_n 2 C dX11_wash_9 rfl rfl ?_
    obtain ⟨q4, hq4, hF⟩ := bind_some hF
    refine mw_callV (c := 0) [iv x2] [] C dX11_wash_10 (T_X11_isSort (zl Z) (zX Z) x2 _ _ hq4) rfl zn0 zk0 (by decide) rfl wd577 wd578 wd1335 wd1 wd579 hd_X11_isSort rfl (by decide) (by decide) (Nat.le_of_ble_eq_true rfl) ⟨Nat.zero_le _, Nat.zero_le _⟩ ?_
    obtain ⟨g5, hF⟩ := ck_some hF
    rcases ite_some hF with ⟨c6, hF⟩ | ⟨c6, hF⟩
    · refine mw_if_eq_t (tgt := 21) C dX11_wash_13 (by decide) g5 c6 ?_
      refine mw_sub [0] rfl ?_
      exact T_X11_wash_21 C _ _ hF
    · refine mw_if_eq_f (tgt := 21) C dX11_wash_13 (by decide) g5 c6 ?_
      refine mw_iload_n 1 C dX11_wash_16 rfl rfl ?_
      refine mw_iload_n 2 C dX11_wash_17 rfl rfl ?_
      obtain ⟨g7, hF⟩ := ck_some hF
      obtain ⟨g8, hF⟩ := ck_some hF
      rcases ite_some hF with ⟨c9, hF⟩ | ⟨c9, hF⟩
      · refine mw_icmp_ne_t (tgt := 27) C dX11_wash_18 (by decide) g7 g8 c9 ?_
        refine mw_aload_n 0 C dX11_wash_27 rfl rfl ?_
        refine mw_aload_n 0 C dX11_wash_28 rfl rfl ?_
        refine mw_get (k := 9) (T := TX11) (v := rfv (xd (zX Z)) 34) C dX11_wash_29 zn0 zk0 (by decide) rfl inX11 (by decide) wd258 rfl (zfv_r rfl zg_0_9) ?_
        refine mw_iload_n 1 C dX11_wash_32 rfl rfl ?_
        refine mw_iload_n 2 C dX11_wash_33 rfl rfl ?_
        obtain ⟨q10, hq10, hF⟩ := bind_some hF
        refine mw_callV (c := 34) [iv x1, iv x2] [rfv (xd (zX Z)) 0] C dX11_wash_34 (T_X5_washMinutes (zl Z) (zX Z) 34 x1 x2 ok_34 _ _ hq10) rfl zn34 zk34 (by decide) rfl wd580 wd581 wd582 wd4 wd583 hd_X5_washMinutes rfl (by decide) (by decide) (Nat.le_of_ble_eq_true rfl) ⟨Nat.zero_le _, Nat.zero_le _⟩ ?_
        obtain ⟨q11, hq11, hF⟩ := bind_some hF
        refine mw_callV (c := 0) [iv q10.1] [] C dX11_wash_37 (T_X11_answer (zl Z) (zX Z) q10.1 _ _ hq11) rfl zn0 zk0 (by decide) rfl wd494 wd495 wd1325 wd1 wd496 hd_X11_answer rfl (by decide) (by decide) (Nat.le_of_ble_eq_true rfl) ⟨Nat.zero_le _, Nat.zero_le _⟩ ?_
        cases hF
        exact mw_iret C dX11_wash_40 rfl rfl
      · refine mw_icmp_ne_f (tgt := 27) C dX11_wash_18 (by decide) g7 g8 c9 ?_
        refine mw_sub [0] rfl ?_
        exact T_X11_wash_21 C _ _ hF
def F_X11_wash (x1 : Int) (x2 : Int) (h : MH) : Option (Int × MH) := F_X11_wash_0 x1 x2 h
theorem T_X11_wash (l : Launch) (X : XT) (x1 : Int) (x2 : Int) (h : MH) (t : (Int × MH)) (hF : F_X11_wash x1 x2 h = some t) : Ct l X yX11_wash cX11_wash 3 (some .int) 3 [rfv (xd X) 0, iv x1, iv x2] zN zG h (some (iv t.1)) zN zG t.2 0 0 := by
  refine Ct.head (by decide) (Nat.le_of_ble_eq_true rfl) (fun Z hX hl _ _ _ C => ?_)
  subst hX
  subst hl
  exact (T_X11_wash_0 C x1 x2 _ _ hF)
/-! BottleLine.begin(I)Z -/
def F_X11_begin_0 (x1 : Int) (h : MH) : Option (Int × MH) :=
  ck (in32 x1) <|
  (F_X11_outside x1 0 9999 h).bind fun q2 =>
  ck (in32 q2.1) <|
  if q2.1 = 0 then
    (F_X1_start 35 x1 q2.2).bind fun q5 =>
    (F_X11_granted q5).bind fun q6 =>
    ck (q6.1 = 0 ∨ q6.1 = 1) <|
    some (q6.1, q6.2)
  else
    (F_X11_refused 1 q2.2).bind fun q8 =>
    ck (q8.1 = 0 ∨ q8.1 = 1) <|
    some (q8.1, q8.2)
set_option maxRecDepth 100000 in
theorem T_X11_begin_0 {Z : ZT} (C : Cx Z cX11_begin 2 RX11 3 (some .boolean)) (x1 : Int) (h : MH) (t : (Int × MH)) (hF : F_X11_begin_0 x1 h = some t) : MW Z (Qm Z (some (iv t.1)) zN zG t.2 0 0) 2 zN zG h 0 0 0 [(0, rfv (xd (zX Z)) 0), (1, iv x1)] [] := by
  unfold F_X11_begin_0 at hF
  refine mw_iload_n 1 C dX11_begin_0 rfl rfl ?_
  obtain ⟨g1, hF⟩ := ck_some hF
  refine mw_i2l C dX11_begin_1 g1 ?_
  refine mw_lconst (a := 0) C dX11_begin_2 lc_0 ?_
  refine mw_ldc2 (a := 9999) C dX11_begin_3 wd589 rfl ?_
  obtain ⟨q2, hq2, hF⟩ := bind_some hF
  refine mw_callS [lvv x1, lvv 0, lvv 9999] [] C dX11_begin_6 (T_X11_outside (zl Z) (zX Z) x1 0 9999 _ _ hq2) rfl wd288 wd289 wd1 wd290 hd_X11_outside rfl (by decide) (by decide) (Nat.le_of_ble_eq_true rfl) ⟨Nat.zero_le _, Nat.zero_le _⟩ ?_
  obtain ⟨g3, hF⟩ := ck_some hF
  rcases ite_some hF with ⟨c4, hF⟩ | ⟨c4, hF⟩
  · refine mw_if_eq_t (tgt := 18) C dX11_begin_9 (by decide) g3 c4 ?_
    refine mw_aload_n 0 C dX11_begin_18 rfl rfl ?_
    refine mw_get (k := 9) (T := TX11) (v := rfv (xd (zX Z)) 34) C dX11_begin_19 zn0 zk0 (by decide) rfl inX11 (by decide) wd258 rfl (zfv_r rfl zg_0_9) ?_
    refine mw_get (k := 0) (T := TX5) (v := rfv (xd (zX Z)) 35) C dX11_begin_22 zn34 zk34 (by decide) rfl inX5 (by decide) wd121 rfl (zfv_r rfl zg_34_0) ?_
    refine mw_iload_n 1 C dX11_begin_25 rfl rfl ?_
    obtain ⟨q5, hq5, hF⟩ := bind_some hF
    refine mw_callV (c := 35) [iv x1] [] C dX11_begin_26 (T_X1_start (zl Z) (zX Z) 35 x1 ok_35 _ _ hq5) rfl zn35 zk35 (by decide) rfl wd590 wd346 wd347 wd5 wd348 hd_X1_start rfl (by decide) (by decide) (Nat.le_of_ble_eq_true rfl) ⟨Nat.zero_le _, Nat.zero_le _⟩ ?_
    refine mw_aload_n 0 C dX11_begin_29 rfl rfl ?_
    obtain ⟨q6, hq6, hF⟩ := bind_some hF
    refine mw_callV (c := 0) [] [] C dX11_begin_30 (T_X11_granted (zl Z) (zX Z) _ _ hq6) rfl zn0 zk0 (by decide) rfl wd298 wd299 wd1309 wd1 wd300 hd_X11_granted rfl (by decide) (by decide) (Nat.le_of_ble_eq_true rfl) ⟨Nat.zero_le _, Nat.zero_le _⟩ ?_
    obtain ⟨g7, hF⟩ := ck_some hF
    cases hF
    exact mw_zret C dX11_begin_33 g7 rfl rfl
  · refine mw_if_eq_f (tgt := 18) C dX11_begin_9 (by decide) g3 c4 ?_
    refine mw_aload_n 0 C dX11_begin_12 rfl rfl ?_
    refine mw_iconst C dX11_begin_13 ?_
    obtain ⟨q8, hq8, hF⟩ := bind_some hF
    refine mw_callV (c := 0) [iv 1] [] C dX11_begin_14 (T_X11_refused (zl Z) (zX Z) 1 _ _ hq8) rfl zn0 zk0 (by decide) rfl wd292 wd293 wd1308 wd1 wd294 hd_X11_refused rfl (by decide) (by decide) (Nat.le_of_ble_eq_true rfl) ⟨Nat.zero_le _, Nat.zero_le _⟩ ?_
    obtain ⟨g9, hF⟩ := ck_some hF
    cases hF
    exact mw_zret C dX11_begin_17 g9 rfl rfl
def F_X11_begin (x1 : Int) (h : MH) : Option (Int × MH) := F_X11_begin_0 x1 h
theorem T_X11_begin (l : Launch) (X : XT) (x1 : Int) (h : MH) (t : (Int × MH)) (hF : F_X11_begin x1 h = some t) : Ct l X yX11_begin cX11_begin 2 (some .boolean) 3 [rfv (xd X) 0, iv x1] zN zG h (some (iv t.1)) zN zG t.2 0 0 := by
  refine Ct.head (by decide) (Nat.le_of_ble_eq_true rfl) (fun Z hX hl _ _ _ C => ?_)
  subst hX
  subst hl
  exact (T_X11_begin_0 C x1 _ _ hF)
/-! BottleLine.run(I)I -/
def F_X11_run_0 (x1 : Int) (h : MH) : Option (Int × MH) :=
  ck (in32 x1) <|
  (F_X11_outside x1 1 600 h).bind fun q2 =>
  ck (in32 q2.1) <|
  if q2.1 = 0 then
    ck (in32 (q2.2 35 0)) <|
    if (q2.2 35 0) ≠ 0 then
      (F_X1_spend 35 x1 q2.2).bind fun q7 =>
      (F_X11_answer q7.1 q7.2).bind fun q8 =>
      some (q8.1, q8.2)
    else
      (F_X11_none 6 q2.2).bind fun q9 =>
      some (q9.1, q9.2)
  else
    (F_X11_none 1 q2.2).bind fun q10 =>
    some (q10.1, q10.2)
set_option maxRecDepth 100000 in
theorem T_X11_run_0 {Z : ZT} (C : Cx Z cX11_run 2 RX11 5 (some .int)) (x1 : Int) (h : MH) (t : (Int × MH)) (hF : F_X11_run_0 x1 h = some t) : MW Z (Qm Z (some (iv t.1)) zN zG t.2 0 0) 2 zN zG h 0 0 0 [(0, rfv (xd (zX Z)) 0), (1, iv x1)] [] := by
  unfold F_X11_run_0 at hF
  refine mw_iload_n 1 C dX11_run_0 rfl rfl ?_
  obtain ⟨g1, hF⟩ := ck_some hF
  refine mw_i2l C dX11_run_1 g1 ?_
  refine mw_lconst (a := 1) C dX11_run_2 lc_1 ?_
  refine mw_ldc2 (a := 600) C dX11_run_3 wd595 rfl ?_
  obtain ⟨q2, hq2, hF⟩ := bind_some hF
  refine mw_callS [lvv x1, lvv 1, lvv 600] [] C dX11_run_6 (T_X11_outside (zl Z) (zX Z) x1 1 600 _ _ hq2) rfl wd288 wd289 wd1 wd290 hd_X11_outside rfl (by decide) (by decide) (Nat.le_of_ble_eq_true rfl) ⟨Nat.zero_le _, Nat.zero_le _⟩ ?_
  obtain ⟨g3, hF⟩ := ck_some hF
  rcases ite_some hF with ⟨c4, hF⟩ | ⟨c4, hF⟩
  · refine mw_if_eq_t (tgt := 18) C dX11_run_9 (by decide) g3 c4 ?_
    refine mw_aload_n 0 C dX11_run_18 rfl rfl ?_
    refine mw_get (k := 9) (T := TX11) (v := rfv (xd (zX Z)) 34) C dX11_run_19 zn0 zk0 (by decide) rfl inX11 (by decide) wd258 rfl (zfv_r rfl zg_0_9) ?_
    refine mw_get (k := 0) (T := TX5) (v := rfv (xd (zX Z)) 35) C dX11_run_22 zn34 zk34 (by decide) rfl inX5 (by decide) wd121 rfl (zfv_r rfl zg_34_0) ?_
    refine mw_get (k := 0) (T := TX1) (v := iv (q2.2 35 0)) C dX11_run_25 zn35 zk35 (by decide) rfl inX1 (by decide) wd81 rfl rfl ?_
    obtain ⟨g5, hF⟩ := ck_some hF
    rcases ite_some hF with ⟨c6, hF⟩ | ⟨c6, hF⟩
    · refine mw_if_ne_t (tgt := 38) C dX11_run_28 (by decide) g5 c6 ?_
      refine mw_aload_n 0 C dX11_run_38 rfl rfl ?_
      refine mw_aload_n 0 C dX11_run_39 rfl rfl ?_
      refine mw_get (k := 9) (T := TX11) (v := rfv (xd (zX Z)) 34) C dX11_run_40 zn0 zk0 (by decide) rfl inX11 (by decide) wd258 rfl (zfv_r rfl zg_0_9) ?_
      refine mw_get (k := 0) (T := TX5) (v := rfv (xd (zX Z)) 35) C dX11_run_43 zn34 zk34 (by decide) rfl inX5 (by decide) wd121 rfl (zfv_r rfl zg_34_0) ?_
      refine mw_iload_n 1 C dX11_run_46 rfl rfl ?_
      obtain ⟨q7, hq7, hF⟩ := bind_some hF
      refine mw_callV (c := 35) [iv x1] [rfv (xd (zX Z)) 0] C dX11_run_47 (T_X1_spend (zl Z) (zX Z) 35 x1 ok_35 _ _ hq7) rfl zn35 zk35 (by decide) rfl wd596 wd597 wd598 wd5 wd599 hd_X1_spend rfl (by decide) (by decide) (Nat.le_of_ble_eq_true rfl) ⟨Nat.zero_le _, Nat.zero_le _⟩ ?_
      obtain ⟨q8, hq8, hF⟩ := bind_some hF
      refine mw_callV (c := 0) [iv q7.1] [] C dX11_run_50 (T_X11_answer (zl Z) (zX Z) q7.1 _ _ hq8) rfl zn0 zk0 (by decide) rfl wd494 wd495 wd1325 wd1 wd496 hd_X11_answer rfl (by decide) (by decide) (Nat.le_of_ble_eq_true rfl) ⟨Nat.zero_le _, Nat.zero_le _⟩ ?_
      cases hF
      exact mw_iret C dX11_run_53 rfl rfl
    · refine mw_if_ne_f (tgt := 38) C dX11_run_28 (by decide) g5 c6 ?_
      refine mw_aload_n 0 C dX11_run_31 rfl rfl ?_
      refine mw_bipush C dX11_run_32 bp_6 ?_
      obtain ⟨q9, hq9, hF⟩ := bind_some hF
      refine mw_callV (c := 0) [iv 6] [] C dX11_run_34 (T_X11_none (zl Z) (zX Z) 6 _ _ hq9) rfl zn0 zk0 (by decide) rfl wd315 wd316 wd1311 wd1 wd317 hd_X11_none rfl (by decide) (by decide) (Nat.le_of_ble_eq_true rfl) ⟨Nat.zero_le _, Nat.zero_le _⟩ ?_
      cases hF
      exact mw_iret C dX11_run_37 rfl rfl
  · refine mw_if_eq_f (tgt := 18) C dX11_run_9 (by decide) g3 c4 ?_
    refine mw_aload_n 0 C dX11_run_12 rfl rfl ?_
    refine mw_iconst C dX11_run_13 ?_
    obtain ⟨q10, hq10, hF⟩ := bind_some hF
    refine mw_callV (c := 0) [iv 1] [] C dX11_run_14 (T_X11_none (zl Z) (zX Z) 1 _ _ hq10) rfl zn0 zk0 (by decide) rfl wd315 wd316 wd1311 wd1 wd317 hd_X11_none rfl (by decide) (by decide) (Nat.le_of_ble_eq_true rfl) ⟨Nat.zero_le _, Nat.zero_le _⟩ ?_
    cases hF
    exact mw_iret C dX11_run_17 rfl rfl
def F_X11_run (x1 : Int) (h : MH) : Option (Int × MH) := F_X11_run_0 x1 h
theorem T_X11_run (l : Launch) (X : XT) (x1 : Int) (h : MH) (t : (Int × MH)) (hF : F_X11_run x1 h = some t) : Ct l X yX11_run cX11_run 2 (some .int) 5 [rfv (xd X) 0, iv x1] zN zG h (some (iv t.1)) zN zG t.2 0 0 := by
  refine Ct.head (by decide) (Nat.le_of_ble_eq_true rfl) (fun Z hX hl _ _ _ C => ?_)
  subst hX
  subst hl
  exact (T_X11_run_0 C x1 _ _ hF)
/-! BottleLine.minutes(II)I -/
def F_X11_minutes_20 (h : MH) : Option (Int × MH) :=
  (F_X11_none 1 h).bind fun q1 =>
  some (q1.1, q1.2)
set_option maxRecDepth 100000 in
theorem T_X11_minutes_20 {Z : ZT} (C : Cx Z cX11_minutes 3 RX11 2 (some .int)) (h : MH) (t : (Int × MH)) (hF : F_X11_minutes_20 h = some t) : MW Z (Qm Z (some (iv t.1)) zN zG t.2 0 0) 3 zN zG h 0 0 20 [(0, rfv (xd (zX Z)) 0)] [] := by
  unfold F_X11_minutes_20 at hF
  refine mw_aload_n 0 C dX11_minutes_20 rfl rfl ?_
  refine mw_iconst C dX11_minutes_21 ?_
  obtain ⟨q1, hq1, hF⟩ := bind_some hF
  refine mw_callV (c := 0) [iv 1] [] C dX11_minutes_22 (T_X11_none (zl Z) (zX Z) 1 _ _ hq1) rfl zn0 zk0 (by decide) rfl wd315 wd316 wd1311 wd1 wd317 hd_X11_none rfl (by decide) (by decide) (Nat.le_of_ble_eq_true rfl) ⟨Nat.zero_le _, Nat.zero_le _⟩ ?_
  cases hF
  exact mw_iret C dX11_minutes_25 rfl rfl
def F_X11_minutes_0 (x1 : Int) (x2 : Int) (h : MH) : Option (Int × MH) :=
  (F_X11_isMachine x1 h).bind fun q1 =>
  ck (in32 q1.1) <|
  if q1.1 = 0 then
    F_X11_minutes_20 q1.2
  else
    ck (in32 x2) <|
    (F_X11_outside x2 0 3 q1.2).bind fun q5 =>
    ck (in32 q5.1) <|
    if q5.1 = 0 then
      ck (0 ≤ ((x1 * 4) + x2) ∧ ((x1 * 4) + x2) < 24) <|
      (F_X11_answer (q5.2 44 ((x1 * 4) + x2).toNat) q5.2).bind fun q9 =>
      some (q9.1, q9.2)
    else
      F_X11_minutes_20 q5.2
set_option maxRecDepth 100000 in
theorem T_X11_minutes_0 {Z : ZT} (C : Cx Z cX11_minutes 3 RX11 2 (some .int)) (x1 : Int) (x2 : Int) (h : MH) (t : (Int × MH)) (hF : F_X11_minutes_0 x1 x2 h = some t) : MW Z (Qm Z (some (iv t.1)) zN zG t.2 0 0) 3 zN zG h 0 0 0 [(0, rfv (xd (zX Z)) 0), (1, iv x1), (2, iv x2)] [] := by
  unfold F_X11_minutes_0 at hF
  refine mw_aload_n 0 C dX11_minutes_0 rfl rfl ?_
  refine mw_iload_n 1 C dX11_minutes_1 rfl rfl ?_
  obtain ⟨q1, hq1, hF⟩ := bind_some hF
  refine mw_callV (c := 0) [iv x1] [] C dX11_minutes_2 (T_X11_isMachine (zl Z) (zX Z) x1 _ _ hq1) rfl zn0 zk0 (by decide) rfl wd559 wd560 wd1334 wd1 wd561 hd_X11_isMachine rfl (by decide) (by decide) (Nat.le_of_ble_eq_true rfl) ⟨Nat.zero_le _, Nat.zero_le _⟩ ?_
  obtain ⟨g2, hF⟩ := ck_some hF
  rcases ite_some hF with ⟨c3, hF⟩ | ⟨c3, hF⟩
  · refine mw_if_eq_t (tgt := 20) C dX11_minutes_5 (by decide) g2 c3 ?_
    refine mw_sub [0] rfl ?_
    exact T_X11_minutes_20 C _ _ hF
  · refine mw_if_eq_f (tgt := 20) C dX11_minutes_5 (by decide) g2 c3 ?_
    refine mw_iload_n 2 C dX11_minutes_8 rfl rfl ?_
    obtain ⟨g4, hF⟩ := ck_some hF
    refine mw_i2l C dX11_minutes_9 g4 ?_
    refine mw_lconst (a := 0) C dX11_minutes_10 lc_0 ?_
    refine mw_ldc2 (a := 3) C dX11_minutes_11 wd287 rfl ?_
    obtain ⟨q5, hq5, hF⟩ := bind_some hF
    refine mw_callS [lvv x2, lvv 0, lvv 3] [] C dX11_minutes_14 (T_X11_outside (zl Z) (zX Z) x2 0 3 _ _ hq5) rfl wd288 wd289 wd1 wd290 hd_X11_outside rfl (by decide) (by decide) (Nat.le_of_ble_eq_true rfl) ⟨Nat.zero_le _, Nat.zero_le _⟩ ?_
    obtain ⟨g6, hF⟩ := ck_some hF
    rcases ite_some hF with ⟨c7, hF⟩ | ⟨c7, hF⟩
    · refine mw_if_eq_t (tgt := 26) C dX11_minutes_17 (by decide) g6 c7 ?_
      refine mw_aload_n 0 C dX11_minutes_26 rfl rfl ?_
      refine mw_aload_n 0 C dX11_minutes_27 rfl rfl ?_
      refine mw_get (k := 9) (T := TX11) (v := rfv (xd (zX Z)) 34) C dX11_minutes_28 zn0 zk0 (by decide) rfl inX11 (by decide) wd258 rfl (zfv_r rfl zg_0_9) ?_
      refine mw_get (k := 0) (T := TX5) (v := rfv (xd (zX Z)) 35) C dX11_minutes_31 zn34 zk34 (by decide) rfl inX5 (by decide) wd121 rfl (zfv_r rfl zg_34_0) ?_
      refine mw_get (k := 12) (T := TX1) (v := rfv (xd (zX Z)) 44) C dX11_minutes_34 zn35 zk35 (by decide) rfl inX1 (by decide) wd114 rfl (zfv_r rfl zg_35_12) ?_
      refine mw_iload_n 1 C dX11_minutes_37 rfl rfl ?_
      refine mw_iconst C dX11_minutes_38 ?_
      refine mw_imul C dX11_minutes_39 ?_
      refine mw_iload_n 2 C dX11_minutes_40 rfl rfl ?_
      refine mw_iadd C dX11_minutes_41 ?_
      obtain ⟨g8, hF⟩ := ck_some hF
      refine mw_iald C dX11_minutes_42 zn44 zk44 (by decide) g8 ?_
      obtain ⟨q9, hq9, hF⟩ := bind_some hF
      refine mw_callV (c := 0) [iv (q5.2 44 ((x1 * 4) + x2).toNat)] [] C dX11_minutes_43 (T_X11_answer (zl Z) (zX Z) (q5.2 44 ((x1 * 4) + x2).toNat) _ _ hq9) rfl zn0 zk0 (by decide) rfl wd494 wd495 wd1325 wd1 wd496 hd_X11_answer rfl (by decide) (by decide) (Nat.le_of_ble_eq_true rfl) ⟨Nat.zero_le _, Nat.zero_le _⟩ ?_
      cases hF
      exact mw_iret C dX11_minutes_46 rfl rfl
    · refine mw_if_eq_f (tgt := 26) C dX11_minutes_17 (by decide) g6 c7 ?_
      refine mw_sub [0] rfl ?_
      exact T_X11_minutes_20 C _ _ hF
def F_X11_minutes (x1 : Int) (x2 : Int) (h : MH) : Option (Int × MH) := F_X11_minutes_0 x1 x2 h
theorem T_X11_minutes (l : Launch) (X : XT) (x1 : Int) (x2 : Int) (h : MH) (t : (Int × MH)) (hF : F_X11_minutes x1 x2 h = some t) : Ct l X yX11_minutes cX11_minutes 3 (some .int) 2 [rfv (xd X) 0, iv x1, iv x2] zN zG h (some (iv t.1)) zN zG t.2 0 0 := by
  refine Ct.head (by decide) (Nat.le_of_ble_eq_true rfl) (fun Z hX hl _ _ _ C => ?_)
  subst hX
  subst hl
  exact (T_X11_minutes_0 C x1 x2 _ _ hF)
/-! BottleLine.blame(II)I -/
def F_X11_blame_16 (h : MH) : Option (Int × MH) :=
  (F_X11_none 1 h).bind fun q1 =>
  some (q1.1, q1.2)
set_option maxRecDepth 100000 in
theorem T_X11_blame_16 {Z : ZT} (C : Cx Z cX11_blame 3 RX11 2 (some .int)) (h : MH) (t : (Int × MH)) (hF : F_X11_blame_16 h = some t) : MW Z (Qm Z (some (iv t.1)) zN zG t.2 0 0) 3 zN zG h 0 0 16 [(0, rfv (xd (zX Z)) 0)] [] := by
  unfold F_X11_blame_16 at hF
  refine mw_aload_n 0 C dX11_blame_16 rfl rfl ?_
  refine mw_iconst C dX11_blame_17 ?_
  obtain ⟨q1, hq1, hF⟩ := bind_some hF
  refine mw_callV (c := 0) [iv 1] [] C dX11_blame_18 (T_X11_none (zl Z) (zX Z) 1 _ _ hq1) rfl zn0 zk0 (by decide) rfl wd315 wd316 wd1311 wd1 wd317 hd_X11_none rfl (by decide) (by decide) (Nat.le_of_ble_eq_true rfl) ⟨Nat.zero_le _, Nat.zero_le _⟩ ?_
  cases hF
  exact mw_iret C dX11_blame_21 rfl rfl
def F_X11_blame_0 (x1 : Int) (x2 : Int) (h : MH) : Option (Int × MH) :=
  (F_X11_isMachine x1 h).bind fun q1 =>
  ck (in32 q1.1) <|
  if q1.1 = 0 then
    F_X11_blame_16 q1.2
  else
    (F_X11_isMachine x2 q1.2).bind fun q4 =>
    ck (in32 q4.1) <|
    if q4.1 ≠ 0 then
      ck (0 ≤ ((x1 * 6) + x2) ∧ ((x1 * 6) + x2) < 36) <|
      (F_X11_answer (q4.2 45 ((x1 * 6) + x2).toNat) q4.2).bind fun q8 =>
      some (q8.1, q8.2)
    else
      F_X11_blame_16 q4.2
set_option maxRecDepth 100000 in
theorem T_X11_blame_0 {Z : ZT} (C : Cx Z cX11_blame 3 RX11 2 (some .int)) (x1 : Int) (x2 : Int) (h : MH) (t : (Int × MH)) (hF : F_X11_blame_0 x1 x2 h = some t) : MW Z (Qm Z (some (iv t.1)) zN zG t.2 0 0) 3 zN zG h 0 0 0 [(0, rfv (xd (zX Z)) 0), (1, iv x1), (2, iv x2)] [] := by
  unfold F_X11_blame_0 at hF
  refine mw_aload_n 0 C dX11_blame_0 rfl rfl ?_
  refine mw_iload_n 1 C dX11_blame_1 rfl rfl ?_
  obtain ⟨q1, hq1, hF⟩ := bind_some hF
  refine mw_callV (c := 0) [iv x1] [] C dX11_blame_2 (T_X11_isMachine (zl Z) (zX Z) x1 _ _ hq1) rfl zn0 zk0 (by decide) rfl wd559 wd560 wd1334 wd1 wd561 hd_X11_isMachine rfl (by decide) (by decide) (Nat.le_of_ble_eq_true rfl) ⟨Nat.zero_le _, Nat.zero_le _⟩ ?_
  obtain ⟨g2, hF⟩ := ck_some hF
  rcases ite_some hF with ⟨c3, hF⟩ | ⟨c3, hF⟩
  · refine mw_if_eq_t (tgt := 16) C dX11_blame_5 (by decide) g2 c3 ?_
    refine mw_sub [0] rfl ?_
    exact T_X11_blame_16 C _ _ hF
  · refine mw_if_eq_f (tgt := 16) C dX11_blame_5 (by decide) g2 c3 ?_
    refine mw_aload_n 0 C dX11_blame_8 rfl rfl ?_
    refine mw_iload_n 2 C dX11_blame_9 rfl rfl ?_
    obtain ⟨q4, hq4, hF⟩ := bind_some hF
    refine mw_callV (c := 0) [iv x2] [] C dX11_blame_10 (T_X11_isMachine (zl Z) (zX Z) x2 _ _ hq4) rfl zn0 zk0 (by decide) rfl wd559 wd560 wd1334 wd1 wd561 hd_X11_isMachine rfl (by decide) (by decide) (Nat.le_of_ble_eq_true rfl) ⟨Nat.zero_le _, Nat.zero_le _⟩ ?_
    obtain ⟨g5, hF⟩ := ck_some hF
    rcases ite_some hF with ⟨c6, hF⟩ | ⟨c6, hF⟩
    · refine mw_if_ne_t (tgt := 22) C dX11_blame_13 (by decide) g5 c6 ?_
      refine mw_aload_n 0 C dX11_blame_22 rfl rfl ?_
      refine mw_aload_n 0 C dX11_blame_23 rfl rfl ?_
      refine mw_get (k := 9) (T := TX11) (v := rfv (xd (zX Z)) 34) C dX11_blame_24 zn0 zk0 (by decide) rfl inX11 (by decide) wd258 rfl (zfv_r rfl zg_0_9) ?_
      refine mw_get (k := 0) (T := TX5) (v := rfv (xd (zX Z)) 35) C dX11_blame_27 zn34 zk34 (by decide) rfl inX5 (by decide) wd121 rfl (zfv_r rfl zg_34_0) ?_
      refine mw_get (k := 13) (T := TX1) (v := rfv (xd (zX Z)) 45) C dX11_blame_30 zn35 zk35 (by decide) rfl inX1 (by decide) wd116 rfl (zfv_r rfl zg_35_13) ?_
      refine mw_iload_n 1 C dX11_blame_33 rfl rfl ?_
      refine mw_bipush C dX11_blame_34 bp_6 ?_
      refine mw_imul C dX11_blame_36 ?_
      refine mw_iload_n 2 C dX11_blame_37 rfl rfl ?_
      refine mw_iadd C dX11_blame_38 ?_
      obtain ⟨g7, hF⟩ := ck_some hF
      refine mw_iald C dX11_blame_39 zn45 zk45 (by decide) g7 ?_
      obtain ⟨q8, hq8, hF⟩ := bind_some hF
      refine mw_callV (c := 0) [iv (q4.2 45 ((x1 * 6) + x2).toNat)] [] C dX11_blame_40 (T_X11_answer (zl Z) (zX Z) (q4.2 45 ((x1 * 6) + x2).toNat) _ _ hq8) rfl zn0 zk0 (by decide) rfl wd494 wd495 wd1325 wd1 wd496 hd_X11_answer rfl (by decide) (by decide) (Nat.le_of_ble_eq_true rfl) ⟨Nat.zero_le _, Nat.zero_le _⟩ ?_
      cases hF
      exact mw_iret C dX11_blame_43 rfl rfl
    · refine mw_if_ne_f (tgt := 22) C dX11_blame_13 (by decide) g5 c6 ?_
      refine mw_sub [0] rfl ?_
      exact T_X11_blame_16 C _ _ hF
def F_X11_blame (x1 : Int) (x2 : Int) (h : MH) : Option (Int × MH) := F_X11_blame_0 x1 x2 h
theorem T_X11_blame (l : Launch) (X : XT) (x1 : Int) (x2 : Int) (h : MH) (t : (Int × MH)) (hF : F_X11_blame x1 x2 h = some t) : Ct l X yX11_blame cX11_blame 3 (some .int) 2 [rfv (xd X) 0, iv x1, iv x2] zN zG h (some (iv t.1)) zN zG t.2 0 0 := by
  refine Ct.head (by decide) (Nat.le_of_ble_eq_true rfl) (fun Z hX hl _ _ _ C => ?_)
  subst hX
  subst hl
  exact (T_X11_blame_0 C x1 x2 _ _ hF)
/-! BottleLine.commonDivisor(JJ)J -/
def F_X11_commonDivisor_9 : Nat → Int → Int → Int → MH → Option (Int × MH)
  | 0, _, _, _, _ => none
  | n + 1, x4, x6, x8, h =>
    ck (in32 x8) <|
    if 100 ≤ x8 then
      some (x4, h)
    else
      ck (in64 x6) <|
      if x6 = 0 then
        some (x4, h)
      else
        ck (in64 x4) <|
        ck (x6 ≠ 0) <|
        nx (Int.tmod x4 x6) fun v7 =>
        F_X11_commonDivisor_9 n x6 v7 (x8 + 1) h
set_option maxRecDepth 100000 in
theorem T_X11_commonDivisor_9 {Z : ZT} (C : Cx Z cX11_commonDivisor 11 RX11 1 (some .long)) : ∀ (n : Nat) (x4 : Int) (x6 : Int) (x8 : Int) (h : MH) (t : (Int × MH)), F_X11_commonDivisor_9 n x4 x6 x8 h = some t → MW Z (Qm Z (some (lvv t.1)) zN zG t.2 0 0) 11 zN zG h 0 0 9 [(4, lvv x4), (6, lvv x6), (8, iv x8)] [] := by
  intro n
  induction n with
  | zero =>
    intros
    rename_i hF
    exact absurd hF (by intro q; cases q)
  | succ n ih =>
    intro x4 x6 x8 h t hF
    rw [F_X11_commonDivisor_9] at hF
    refine mw_iload 2 C dX11_commonDivisor_9 rfl ?_
    refine mw_bipush C dX11_commonDivisor_11 bp_100 ?_
    obtain ⟨g1, hF⟩ := ck_some hF
    rcases ite_some hF with ⟨c2, hF⟩ | ⟨c2, hF⟩
    · refine mw_icmp_ge_t (tgt := 44) C dX11_commonDivisor_13 (by decide) g1 (by decide) c2 ?_
      refine mw_lload 0 C dX11_commonDivisor_44 rfl ?_
      cases hF
      exact mw_lret C dX11_commonDivisor_46 rfl rfl
    · refine mw_icmp_ge_f (tgt := 44) C dX11_commonDivisor_13 (by decide) g1 (by decide) c2 ?_
      refine mw_lload 1 C dX11_commonDivisor_16 rfl ?_
      refine mw_lconst (a := 0) C dX11_commonDivisor_18 lc_0 ?_
      obtain ⟨g3, hF⟩ := ck_some hF
      rcases ite_some hF with ⟨c4, hF⟩ | ⟨c4, hF⟩
      · refine mw_lcmp_eq_t (tgt := 44) C dX11_commonDivisor_19 dX11_commonDivisor_20 (by decide) g3 (by decide) c4 ?_
        refine mw_lload 0 C dX11_commonDivisor_44 rfl ?_
        cases hF
        exact mw_lret C dX11_commonDivisor_46 rfl rfl
      · refine mw_lcmp_eq_f (tgt := 44) C dX11_commonDivisor_19 dX11_commonDivisor_20 (by decide) g3 (by decide) c4 ?_
        refine mw_lload 0 C dX11_commonDivisor_23 rfl ?_
        refine mw_lload 1 C dX11_commonDivisor_25 rfl ?_
        obtain ⟨g5, hF⟩ := ck_some hF
        obtain ⟨g6, hF⟩ := ck_some hF
        refine mw_lrem C dX11_commonDivisor_27 g5 g3 g6 ?_
        obtain ⟨v7, ev7, hF⟩ := nx_some hF
        refine mw_tl ev7 ?_
        refine mw_lstore [(9, lvv v7), (4, lvv x4), (6, lvv x6), (8, iv x8)] C dX11_commonDivisor_28 (by decide) rfl ?_
        refine mw_lload 2 C dX11_commonDivisor_30 rfl ?_
        refine mw_lstore [(4, lvv x6), (9, lvv v7), (6, lvv x6), (8, iv x8)] C dX11_commonDivisor_32 (by decide) rfl ?_
        refine mw_lload 1 C dX11_commonDivisor_34 rfl ?_
        refine mw_lstore [(6, lvv v7), (4, lvv x6), (9, lvv v7), (8, iv x8)] C dX11_commonDivisor_36 (by decide) rfl ?_
        refine mw_iinc 3 [(8, iv (x8 + 1)), (6, lvv v7), (4, lvv x6), (9, lvv v7)] C dX11_commonDivisor_38 rfl (by decide) rfl ?_
        refine mw_goto (tgt := 9) C dX11_commonDivisor_41 (by decide) ?_
        refine mw_sub [2, 1, 0] rfl ?_
        exact ih x6 v7 (x8 + 1) _ _ hF
def F_X11_commonDivisor_0 (x0 : Int) (x2 : Int) (h : MH) : Option (Int × MH) :=
  F_X11_commonDivisor_9 20000 x0 x2 0 h
set_option maxRecDepth 100000 in
theorem T_X11_commonDivisor_0 {Z : ZT} (C : Cx Z cX11_commonDivisor 11 RX11 1 (some .long)) (x0 : Int) (x2 : Int) (h : MH) (t : (Int × MH)) (hF : F_X11_commonDivisor_0 x0 x2 h = some t) : MW Z (Qm Z (some (lvv t.1)) zN zG t.2 0 0) 11 zN zG h 0 0 0 [(0, lvv x0), (2, lvv x2)] [] := by
  unfold F_X11_commonDivisor_0 at hF
  refine mw_lload_n 0 C dX11_commonDivisor_0 rfl rfl ?_
  refine mw_lstore [(4, lvv x0), (0, lvv x0), (2, lvv x2)] C dX11_commonDivisor_1 (by decide) rfl ?_
  refine mw_lload_n 2 C dX11_commonDivisor_3 rfl rfl ?_
  refine mw_lstore [(6, lvv x2), (4, lvv x0), (0, lvv x0), (2, lvv x2)] C dX11_commonDivisor_4 (by decide) rfl ?_
  refine mw_iconst C dX11_commonDivisor_6 ?_
  refine mw_istore [(8, iv 0), (6, lvv x2), (4, lvv x0), (0, lvv x0), (2, lvv x2)] C dX11_commonDivisor_7 (by decide) rfl ?_
  refine mw_sub [2, 1, 0] rfl ?_
  exact T_X11_commonDivisor_9 C 20000 x0 x2 0 _ _ hF
def F_X11_commonDivisor (x0 : Int) (x2 : Int) (h : MH) : Option (Int × MH) := F_X11_commonDivisor_0 x0 x2 h
theorem T_X11_commonDivisor (l : Launch) (X : XT) (x0 : Int) (x2 : Int) (h : MH) (t : (Int × MH)) (hF : F_X11_commonDivisor x0 x2 h = some t) : Ct l X yX11_commonDivisor cX11_commonDivisor 11 (some .long) 1 [lvv x0, lvv x2] zN zG h (some (lvv t.1)) zN zG t.2 0 0 := by
  refine Ct.head (by decide) (Nat.le_of_ble_eq_true rfl) (fun Z hX hl _ _ _ C => ?_)
  subst hX
  subst hl
  exact (T_X11_commonDivisor_0 C x0 x2 _ _ hF)
/-! BottleLine.tell(JJ)V -/
def F_X11_tell_23 (x3 : Int) (x5 : Int) (s1 : Int) (h : MH) : Option MH :=
  nx (hup h 0 1 s1) fun h1 =>
  ck (in64 x5) <|
  if x5 ≠ 0 then
    ck (in64 x3) <|
    ck (x5 ≠ 0) <|
    nx (hup h1 0 2 (Int.tdiv x3 x5)) fun h6 =>
    some h6
  else
    nx (hup h1 0 2 1) fun h7 =>
    some h7
set_option maxRecDepth 100000 in
theorem T_X11_tell_23 {Z : ZT} (C : Cx Z cX11_tell 7 RX11 2 none) (x3 : Int) (x5 : Int) (s1 : Int) (h : MH) (t : MH) (hF : F_X11_tell_23 x3 x5 s1 h = some t) : MW Z (Qm Z none zN zG t 0 0) 7 zN zG h 0 0 23 [(0, rfv (xd (zX Z)) 0), (3, lvv x3), (5, lvv x5)] [lvv s1, rfv (xd (zX Z)) 0] := by
  unfold F_X11_tell_23 at hF
  obtain ⟨h1, eh1, hF⟩ := nx_some hF
  refine mw_put (k := 1) (T := TX11) (ty0 := tyX11) (x := s1) C dX11_tell_23 zn0 zk0 (by decide) rfl inX11 tyX11_ok nmX11 (by decide) wd250 rfl rfl rfl rfl rfl (by decide) (mw_h eh1 ?_)
  refine mw_aload_n 0 C dX11_tell_26 rfl rfl ?_
  refine mw_lload 2 C dX11_tell_27 rfl ?_
  refine mw_lconst (a := 0) C dX11_tell_29 lc_0 ?_
  obtain ⟨g2, hF⟩ := ck_some hF
  rcases ite_some hF with ⟨c3, hF⟩ | ⟨c3, hF⟩
  · refine mw_lcmp_ne_t (tgt := 38) C dX11_tell_30 dX11_tell_31 (by decide) g2 (by decide) c3 ?_
    refine mw_lload_n 1 C dX11_tell_38 rfl rfl ?_
    refine mw_lload 2 C dX11_tell_39 rfl ?_
    obtain ⟨g4, hF⟩ := ck_some hF
    obtain ⟨g5, hF⟩ := ck_some hF
    refine mw_ldiv C dX11_tell_41 g4 g2 g5 ?_
    obtain ⟨h6, eh6, hF⟩ := nx_some hF
    refine mw_put (k := 2) (T := TX11) (ty0 := tyX11) (x := (Int.tdiv x3 x5)) C dX11_tell_42 zn0 zk0 (by decide) rfl inX11 tyX11_ok nmX11 (by decide) wd251 rfl rfl rfl rfl rfl (by decide) (mw_h eh6 ?_)
    cases hF
    exact mw_vret C dX11_tell_45 rfl rfl
  · refine mw_lcmp_ne_f (tgt := 38) C dX11_tell_30 dX11_tell_31 (by decide) g2 (by decide) c3 ?_
    refine mw_lconst (a := 1) C dX11_tell_34 lc_1 ?_
    refine mw_goto (tgt := 42) C dX11_tell_35 (by decide) ?_
    obtain ⟨h7, eh7, hF⟩ := nx_some hF
    refine mw_put (k := 2) (T := TX11) (ty0 := tyX11) (x := 1) C dX11_tell_42 zn0 zk0 (by decide) rfl inX11 tyX11_ok nmX11 (by decide) wd251 rfl rfl rfl rfl rfl (by decide) (mw_h eh7 ?_)
    cases hF
    exact mw_vret C dX11_tell_45 rfl rfl
def F_X11_tell_0 (x1 : Int) (x3 : Int) (h : MH) : Option MH :=
  (F_X11_commonDivisor x1 x3 h).bind fun q1 =>
  ck (in64 q1.1) <|
  if q1.1 ≠ 0 then
    ck (in64 x1) <|
    ck (q1.1 ≠ 0) <|
    F_X11_tell_23 x3 q1.1 (Int.tdiv x1 q1.1) q1.2
  else
    F_X11_tell_23 x3 q1.1 0 q1.2
set_option maxRecDepth 100000 in
theorem T_X11_tell_0 {Z : ZT} (C : Cx Z cX11_tell 7 RX11 2 none) (x1 : Int) (x3 : Int) (h : MH) (t : MH) (hF : F_X11_tell_0 x1 x3 h = some t) : MW Z (Qm Z none zN zG t 0 0) 7 zN zG h 0 0 0 [(0, rfv (xd (zX Z)) 0), (1, lvv x1), (3, lvv x3)] [] := by
  unfold F_X11_tell_0 at hF
  refine mw_lload_n 1 C dX11_tell_0 rfl rfl ?_
  refine mw_lload_n 2 C dX11_tell_1 rfl rfl ?_
  obtain ⟨q1, hq1, hF⟩ := bind_some hF
  refine mw_callS [lvv x1, lvv x3] [] C dX11_tell_2 (T_X11_commonDivisor (zl Z) (zX Z) x1 x3 _ _ hq1) rfl wd641 wd642 wd1 wd643 hd_X11_commonDivisor rfl (by decide) (by decide) (Nat.le_of_ble_eq_true rfl) ⟨Nat.zero_le _, Nat.zero_le _⟩ ?_
  refine mw_lstore [(5, lvv q1.1), (0, rfv (xd (zX Z)) 0), (1, lvv x1), (3, lvv x3)] C dX11_tell_5 (by decide) rfl ?_
  refine mw_aload_n 1 C dX11_tell_7 rfl rfl ?_
  refine mw_lload 0 C dX11_tell_8 rfl ?_
  refine mw_lconst (a := 0) C dX11_tell_10 lc_0 ?_
  obtain ⟨g2, hF⟩ := ck_some hF
  rcases ite_some hF with ⟨c3, hF⟩ | ⟨c3, hF⟩
  · refine mw_lcmp_ne_t (tgt := 19) C dX11_tell_11 dX11_tell_12 (by decide) g2 (by decide) c3 ?_
    refine mw_lload_n 2 C dX11_tell_19 rfl rfl ?_
    refine mw_lload 0 C dX11_tell_20 rfl ?_
    obtain ⟨g4, hF⟩ := ck_some hF
    obtain ⟨g5, hF⟩ := ck_some hF
    refine mw_ldiv C dX11_tell_22 g4 g2 g5 ?_
    refine mw_sub [1, 3, 0] rfl ?_
    exact T_X11_tell_23 C x3 q1.1 (Int.tdiv x1 q1.1) _ _ hF
  · refine mw_lcmp_ne_f (tgt := 19) C dX11_tell_11 dX11_tell_12 (by decide) g2 (by decide) c3 ?_
    refine mw_lconst (a := 0) C dX11_tell_15 lc_0 ?_
    refine mw_goto (tgt := 23) C dX11_tell_16 (by decide) ?_
    refine mw_sub [1, 3, 0] rfl ?_
    exact T_X11_tell_23 C x3 q1.1 0 _ _ hF
def F_X11_tell (x1 : Int) (x3 : Int) (h : MH) : Option MH := F_X11_tell_0 x1 x3 h
theorem T_X11_tell (l : Launch) (X : XT) (x1 : Int) (x3 : Int) (h : MH) (t : MH) (hF : F_X11_tell x1 x3 h = some t) : Ct l X yX11_tell cX11_tell 7 none 2 [rfv (xd X) 0, lvv x1, lvv x3] zN zG h none zN zG t 0 0 := by
  refine Ct.head (by decide) (Nat.le_of_ble_eq_true rfl) (fun Z hX hl _ _ _ C => ?_)
  subst hX
  subst hl
  exact (T_X11_tell_0 C x1 x3 _ _ hF)
/-! BottleLine.share(I)Z -/
def F_X11_share_0 (x1 : Int) (h : MH) : Option (Int × MH) :=
  (F_X11_isMachine x1 h).bind fun q1 =>
  ck (in32 q1.1) <|
  if q1.1 ≠ 0 then
    ck (in32 (q1.2 35 7)) <|
    if (q1.2 35 7) ≠ 0 then
      ck (0 ≤ ((x1 * 4) + 0) ∧ ((x1 * 4) + 0) < 24) <|
      ck (in32 (q1.2 44 ((x1 * 4) + 0).toNat)) <|
      (F_X11_tell (q1.2 44 ((x1 * 4) + 0).toNat) (q1.2 35 7) q1.2).bind fun q8 =>
      (F_X11_granted q8).bind fun q9 =>
      ck (q9.1 = 0 ∨ q9.1 = 1) <|
      some (q9.1, q9.2)
    else
      (F_X11_refused 6 q1.2).bind fun q11 =>
      ck (q11.1 = 0 ∨ q11.1 = 1) <|
      some (q11.1, q11.2)
  else
    (F_X11_refused 1 q1.2).bind fun q13 =>
    ck (q13.1 = 0 ∨ q13.1 = 1) <|
    some (q13.1, q13.2)
set_option maxRecDepth 100000 in
theorem T_X11_share_0 {Z : ZT} (C : Cx Z cX11_share 2 RX11 3 (some .boolean)) (x1 : Int) (h : MH) (t : (Int × MH)) (hF : F_X11_share_0 x1 h = some t) : MW Z (Qm Z (some (iv t.1)) zN zG t.2 0 0) 2 zN zG h 0 0 0 [(0, rfv (xd (zX Z)) 0), (1, iv x1)] [] := by
  unfold F_X11_share_0 at hF
  refine mw_aload_n 0 C dX11_share_0 rfl rfl ?_
  refine mw_iload_n 1 C dX11_share_1 rfl rfl ?_
  obtain ⟨q1, hq1, hF⟩ := bind_some hF
  refine mw_callV (c := 0) [iv x1] [] C dX11_share_2 (T_X11_isMachine (zl Z) (zX Z) x1 _ _ hq1) rfl zn0 zk0 (by decide) rfl wd559 wd560 wd1334 wd1 wd561 hd_X11_isMachine rfl (by decide) (by decide) (Nat.le_of_ble_eq_true rfl) ⟨Nat.zero_le _, Nat.zero_le _⟩ ?_
  obtain ⟨g2, hF⟩ := ck_some hF
  rcases ite_some hF with ⟨c3, hF⟩ | ⟨c3, hF⟩
  · refine mw_if_ne_t (tgt := 14) C dX11_share_5 (by decide) g2 c3 ?_
    refine mw_aload_n 0 C dX11_share_14 rfl rfl ?_
    refine mw_get (k := 9) (T := TX11) (v := rfv (xd (zX Z)) 34) C dX11_share_15 zn0 zk0 (by decide) rfl inX11 (by decide) wd258 rfl (zfv_r rfl zg_0_9) ?_
    refine mw_get (k := 0) (T := TX5) (v := rfv (xd (zX Z)) 35) C dX11_share_18 zn34 zk34 (by decide) rfl inX5 (by decide) wd121 rfl (zfv_r rfl zg_34_0) ?_
    refine mw_get (k := 7) (T := TX1) (v := iv (q1.2 35 7)) C dX11_share_21 zn35 zk35 (by decide) rfl inX1 (by decide) wd101 rfl rfl ?_
    obtain ⟨g4, hF⟩ := ck_some hF
    rcases ite_some hF with ⟨c5, hF⟩ | ⟨c5, hF⟩
    · refine mw_if_ne_t (tgt := 34) C dX11_share_24 (by decide) g4 c5 ?_
      refine mw_aload_n 0 C dX11_share_34 rfl rfl ?_
      refine mw_aload_n 0 C dX11_share_35 rfl rfl ?_
      refine mw_get (k := 9) (T := TX11) (v := rfv (xd (zX Z)) 34) C dX11_share_36 zn0 zk0 (by decide) rfl inX11 (by decide) wd258 rfl (zfv_r rfl zg_0_9) ?_
      refine mw_get (k := 0) (T := TX5) (v := rfv (xd (zX Z)) 35) C dX11_share_39 zn34 zk34 (by decide) rfl inX5 (by decide) wd121 rfl (zfv_r rfl zg_34_0) ?_
      refine mw_get (k := 12) (T := TX1) (v := rfv (xd (zX Z)) 44) C dX11_share_42 zn35 zk35 (by decide) rfl inX1 (by decide) wd114 rfl (zfv_r rfl zg_35_12) ?_
      refine mw_iload_n 1 C dX11_share_45 rfl rfl ?_
      refine mw_iconst C dX11_share_46 ?_
      refine mw_imul C dX11_share_47 ?_
      refine mw_iconst C dX11_share_48 ?_
      refine mw_iadd C dX11_share_49 ?_
      obtain ⟨g6, hF⟩ := ck_some hF
      refine mw_iald C dX11_share_50 zn44 zk44 (by decide) g6 ?_
      obtain ⟨g7, hF⟩ := ck_some hF
      refine mw_i2l C dX11_share_51 g7 ?_
      refine mw_aload_n 0 C dX11_share_52 rfl rfl ?_
      refine mw_get (k := 9) (T := TX11) (v := rfv (xd (zX Z)) 34) C dX11_share_53 zn0 zk0 (by decide) rfl inX11 (by decide) wd258 rfl (zfv_r rfl zg_0_9) ?_
      refine mw_get (k := 0) (T := TX5) (v := rfv (xd (zX Z)) 35) C dX11_share_56 zn34 zk34 (by decide) rfl inX5 (by decide) wd121 rfl (zfv_r rfl zg_34_0) ?_
      refine mw_get (k := 7) (T := TX1) (v := iv (q1.2 35 7)) C dX11_share_59 zn35 zk35 (by decide) rfl inX1 (by decide) wd101 rfl rfl ?_
      refine mw_i2l C dX11_share_62 g4 ?_
      obtain ⟨q8, hq8, hF⟩ := bind_some hF
      refine mw_callV (c := 0) [lvv (q1.2 44 ((x1 * 4) + 0).toNat), lvv (q1.2 35 7)] [] C dX11_share_63 (T_X11_tell (zl Z) (zX Z) (q1.2 44 ((x1 * 4) + 0).toNat) (q1.2 35 7) _ _ hq8) rfl zn0 zk0 (by decide) rfl wd638 wd639 wd1342 wd1 wd640 hd_X11_tell rfl (by decide) (by decide) (Nat.le_of_ble_eq_true rfl) ⟨Nat.zero_le _, Nat.zero_le _⟩ ?_
      refine mw_aload_n 0 C dX11_share_66 rfl rfl ?_
      obtain ⟨q9, hq9, hF⟩ := bind_some hF
      refine mw_callV (c := 0) [] [] C dX11_share_67 (T_X11_granted (zl Z) (zX Z) _ _ hq9) rfl zn0 zk0 (by decide) rfl wd298 wd299 wd1309 wd1 wd300 hd_X11_granted rfl (by decide) (by decide) (Nat.le_of_ble_eq_true rfl) ⟨Nat.zero_le _, Nat.zero_le _⟩ ?_
      obtain ⟨g10, hF⟩ := ck_some hF
      cases hF
      exact mw_zret C dX11_share_70 g10 rfl rfl
    · refine mw_if_ne_f (tgt := 34) C dX11_share_24 (by decide) g4 c5 ?_
      refine mw_aload_n 0 C dX11_share_27 rfl rfl ?_
      refine mw_bipush C dX11_share_28 bp_6 ?_
      obtain ⟨q11, hq11, hF⟩ := bind_some hF
      refine mw_callV (c := 0) [iv 6] [] C dX11_share_30 (T_X11_refused (zl Z) (zX Z) 6 _ _ hq11) rfl zn0 zk0 (by decide) rfl wd292 wd293 wd1308 wd1 wd294 hd_X11_refused rfl (by decide) (by decide) (Nat.le_of_ble_eq_true rfl) ⟨Nat.zero_le _, Nat.zero_le _⟩ ?_
      obtain ⟨g12, hF⟩ := ck_some hF
      cases hF
      exact mw_zret C dX11_share_33 g12 rfl rfl
  · refine mw_if_ne_f (tgt := 14) C dX11_share_5 (by decide) g2 c3 ?_
    refine mw_aload_n 0 C dX11_share_8 rfl rfl ?_
    refine mw_iconst C dX11_share_9 ?_
    obtain ⟨q13, hq13, hF⟩ := bind_some hF
    refine mw_callV (c := 0) [iv 1] [] C dX11_share_10 (T_X11_refused (zl Z) (zX Z) 1 _ _ hq13) rfl zn0 zk0 (by decide) rfl wd292 wd293 wd1308 wd1 wd294 hd_X11_refused rfl (by decide) (by decide) (Nat.le_of_ble_eq_true rfl) ⟨Nat.zero_le _, Nat.zero_le _⟩ ?_
    obtain ⟨g14, hF⟩ := ck_some hF
    cases hF
    exact mw_zret C dX11_share_13 g14 rfl rfl
def F_X11_share (x1 : Int) (h : MH) : Option (Int × MH) := F_X11_share_0 x1 h
theorem T_X11_share (l : Launch) (X : XT) (x1 : Int) (h : MH) (t : (Int × MH)) (hF : F_X11_share x1 h = some t) : Ct l X yX11_share cX11_share 2 (some .boolean) 3 [rfv (xd X) 0, iv x1] zN zG h (some (iv t.1)) zN zG t.2 0 0 := by
  refine Ct.head (by decide) (Nat.le_of_ble_eq_true rfl) (fun Z hX hl _ _ _ C => ?_)
  subst hX
  subst hl
  exact (T_X11_share_0 C x1 _ _ hF)
/-! BottleLine.tried(III)I -/
def F_X11_tried_32 (h : MH) : Option (Int × MH) :=
  (F_X11_none 1 h).bind fun q1 =>
  some (q1.1, q1.2)
set_option maxRecDepth 100000 in
theorem T_X11_tried_32 {Z : ZT} (C : Cx Z cX11_tried 4 RX11 6 (some .int)) (h : MH) (t : (Int × MH)) (hF : F_X11_tried_32 h = some t) : MW Z (Qm Z (some (iv t.1)) zN zG t.2 0 0) 4 zN zG h 0 0 32 [(0, rfv (xd (zX Z)) 0)] [] := by
  unfold F_X11_tried_32 at hF
  refine mw_aload_n 0 C dX11_tried_32 rfl rfl ?_
  refine mw_iconst C dX11_tried_33 ?_
  obtain ⟨q1, hq1, hF⟩ := bind_some hF
  refine mw_callV (c := 0) [iv 1] [] C dX11_tried_34 (T_X11_none (zl Z) (zX Z) 1 _ _ hq1) rfl zn0 zk0 (by decide) rfl wd315 wd316 wd1311 wd1 wd317 hd_X11_none rfl (by decide) (by decide) (Nat.le_of_ble_eq_true rfl) ⟨Nat.zero_le _, Nat.zero_le _⟩ ?_
  cases hF
  exact mw_iret C dX11_tried_37 rfl rfl
def F_X11_tried_0 (x1 : Int) (x2 : Int) (x3 : Int) (h : MH) : Option (Int × MH) :=
  (F_X11_isMachine x1 h).bind fun q1 =>
  ck (in32 q1.1) <|
  if q1.1 = 0 then
    F_X11_tried_32 q1.2
  else
    ck (in32 x2) <|
    (F_X11_outside x2 1 99 q1.2).bind fun q5 =>
    ck (in32 q5.1) <|
    if q5.1 ≠ 0 then
      F_X11_tried_32 q5.2
    else
      ck (in32 x3) <|
      (F_X11_outside x3 1 600 q5.2).bind fun q9 =>
      ck (in32 q9.1) <|
      if q9.1 = 0 then
        (F_X9_madeWith 35 x1 x2 x3 q9.2).bind fun q12 =>
        (F_X11_answer q12.1 q12.2).bind fun q13 =>
        some (q13.1, q13.2)
      else
        F_X11_tried_32 q9.2
set_option maxRecDepth 100000 in
theorem T_X11_tried_0 {Z : ZT} (C : Cx Z cX11_tried 4 RX11 6 (some .int)) (x1 : Int) (x2 : Int) (x3 : Int) (h : MH) (t : (Int × MH)) (hF : F_X11_tried_0 x1 x2 x3 h = some t) : MW Z (Qm Z (some (iv t.1)) zN zG t.2 0 0) 4 zN zG h 0 0 0 [(0, rfv (xd (zX Z)) 0), (1, iv x1), (2, iv x2), (3, iv x3)] [] := by
  unfold F_X11_tried_0 at hF
  refine mw_aload_n 0 C dX11_tried_0 rfl rfl ?_
  refine mw_iload_n 1 C dX11_tried_1 rfl rfl ?_
  obtain ⟨q1, hq1, hF⟩ := bind_some hF
  refine mw_callV (c := 0) [iv x1] [] C dX11_tried_2 (T_X11_isMachine (zl Z) (zX Z) x1 _ _ hq1) rfl zn0 zk0 (by decide) rfl wd559 wd560 wd1334 wd1 wd561 hd_X11_isMachine rfl (by decide) (by decide) (Nat.le_of_ble_eq_true rfl) ⟨Nat.zero_le _, Nat.zero_le _⟩ ?_
  obtain ⟨g2, hF⟩ := ck_some hF
  rcases ite_some hF with ⟨c3, hF⟩ | ⟨c3, hF⟩
  · refine mw_if_eq_t (tgt := 32) C dX11_tried_5 (by decide) g2 c3 ?_
    refine mw_sub [0] rfl ?_
    exact T_X11_tried_32 C _ _ hF
  · refine mw_if_eq_f (tgt := 32) C dX11_tried_5 (by decide) g2 c3 ?_
    refine mw_iload_n 2 C dX11_tried_8 rfl rfl ?_
    obtain ⟨g4, hF⟩ := ck_some hF
    refine mw_i2l C dX11_tried_9 g4 ?_
    refine mw_lconst (a := 1) C dX11_tried_10 lc_1 ?_
    refine mw_ldc2 (a := 99) C dX11_tried_11 wd648 rfl ?_
    obtain ⟨q5, hq5, hF⟩ := bind_some hF
    refine mw_callS [lvv x2, lvv 1, lvv 99] [] C dX11_tried_14 (T_X11_outside (zl Z) (zX Z) x2 1 99 _ _ hq5) rfl wd288 wd289 wd1 wd290 hd_X11_outside rfl (by decide) (by decide) (Nat.le_of_ble_eq_true rfl) ⟨Nat.zero_le _, Nat.zero_le _⟩ ?_
    obtain ⟨g6, hF⟩ := ck_some hF
    rcases ite_some hF with ⟨c7, hF⟩ | ⟨c7, hF⟩
    · refine mw_if_ne_t (tgt := 32) C dX11_tried_17 (by decide) g6 c7 ?_
      refine mw_sub [0] rfl ?_
      exact T_X11_tried_32 C _ _ hF
    · refine mw_if_ne_f (tgt := 32) C dX11_tried_17 (by decide) g6 c7 ?_
      refine mw_iload_n 3 C dX11_tried_20 rfl rfl ?_
      obtain ⟨g8, hF⟩ := ck_some hF
      refine mw_i2l C dX11_tried_21 g8 ?_
      refine mw_lconst (a := 1) C dX11_tried_22 lc_1 ?_
      refine mw_ldc2 (a := 600) C dX11_tried_23 wd595 rfl ?_
      obtain ⟨q9, hq9, hF⟩ := bind_some hF
      refine mw_callS [lvv x3, lvv 1, lvv 600] [] C dX11_tried_26 (T_X11_outside (zl Z) (zX Z) x3 1 600 _ _ hq9) rfl wd288 wd289 wd1 wd290 hd_X11_outside rfl (by decide) (by decide) (Nat.le_of_ble_eq_true rfl) ⟨Nat.zero_le _, Nat.zero_le _⟩ ?_
      obtain ⟨g10, hF⟩ := ck_some hF
      rcases ite_some hF with ⟨c11, hF⟩ | ⟨c11, hF⟩
      · refine mw_if_eq_t (tgt := 38) C dX11_tried_29 (by decide) g10 c11 ?_
        refine mw_aload_n 0 C dX11_tried_38 rfl rfl ?_
        refine mw_aload_n 0 C dX11_tried_39 rfl rfl ?_
        refine mw_get (k := 14) (T := TX11) (v := rfv (xd (zX Z)) 56) C dX11_tried_40 zn0 zk0 (by decide) rfl inX11 (by decide) wd263 rfl (zfv_r rfl zg_0_14) ?_
        refine mw_aload_n 0 C dX11_tried_43 rfl rfl ?_
        refine mw_get (k := 9) (T := TX11) (v := rfv (xd (zX Z)) 34) C dX11_tried_44 zn0 zk0 (by decide) rfl inX11 (by decide) wd258 rfl (zfv_r rfl zg_0_9) ?_
        refine mw_get (k := 0) (T := TX5) (v := rfv (xd (zX Z)) 35) C dX11_tried_47 zn34 zk34 (by decide) rfl inX5 (by decide) wd121 rfl (zfv_r rfl zg_34_0) ?_
        refine mw_iload_n 1 C dX11_tried_50 rfl rfl ?_
        refine mw_iload_n 2 C dX11_tried_51 rfl rfl ?_
        refine mw_iload_n 3 C dX11_tried_52 rfl rfl ?_
        obtain ⟨q12, hq12, hF⟩ := bind_some hF
        refine mw_callV (c := 56) [rfv (xd (zX Z)) 35, iv x1, iv x2, iv x3] [rfv (xd (zX Z)) 0] C dX11_tried_53 (T_X9_madeWith (zl Z) (zX Z) 35 x1 x2 x3 ok_35 _ _ hq12) rfl zn56 zk56 (by decide) rfl wd649 wd650 wd651 wd8 wd652 hd_X9_madeWith rfl (by decide) (by decide) (Nat.le_of_ble_eq_true rfl) ⟨Nat.zero_le _, Nat.zero_le _⟩ ?_
        obtain ⟨q13, hq13, hF⟩ := bind_some hF
        refine mw_callV (c := 0) [iv q12.1] [] C dX11_tried_56 (T_X11_answer (zl Z) (zX Z) q12.1 _ _ hq13) rfl zn0 zk0 (by decide) rfl wd494 wd495 wd1325 wd1 wd496 hd_X11_answer rfl (by decide) (by decide) (Nat.le_of_ble_eq_true rfl) ⟨Nat.zero_le _, Nat.zero_le _⟩ ?_
        cases hF
        exact mw_iret C dX11_tried_59 rfl rfl
      · refine mw_if_eq_f (tgt := 38) C dX11_tried_29 (by decide) g10 c11 ?_
        refine mw_sub [0] rfl ?_
        exact T_X11_tried_32 C _ _ hF
def F_X11_tried (x1 : Int) (x2 : Int) (x3 : Int) (h : MH) : Option (Int × MH) := F_X11_tried_0 x1 x2 x3 h
theorem T_X11_tried (l : Launch) (X : XT) (x1 : Int) (x2 : Int) (x3 : Int) (h : MH) (t : (Int × MH)) (hF : F_X11_tried x1 x2 x3 h = some t) : Ct l X yX11_tried cX11_tried 4 (some .int) 6 [rfv (xd X) 0, iv x1, iv x2, iv x3] zN zG h (some (iv t.1)) zN zG t.2 0 0 := by
  refine Ct.head (by decide) (Nat.le_of_ble_eq_true rfl) (fun Z hX hl _ _ _ C => ?_)
  subst hX
  subst hl
  exact (T_X11_tried_0 C x1 x2 x3 _ _ hF)
/-! BottleLine.holder(II)I -/
def F_X11_holder_24 (h : MH) : Option (Int × MH) :=
  (F_X11_none 1 h).bind fun q1 =>
  some (q1.1, q1.2)
set_option maxRecDepth 100000 in
theorem T_X11_holder_24 {Z : ZT} (C : Cx Z cX11_holder 3 RX11 7 (some .int)) (h : MH) (t : (Int × MH)) (hF : F_X11_holder_24 h = some t) : MW Z (Qm Z (some (iv t.1)) zN zG t.2 0 0) 3 zN zG h 0 0 24 [(0, rfv (xd (zX Z)) 0)] [] := by
  unfold F_X11_holder_24 at hF
  refine mw_aload_n 0 C dX11_holder_24 rfl rfl ?_
  refine mw_iconst C dX11_holder_25 ?_
  obtain ⟨q1, hq1, hF⟩ := bind_some hF
  refine mw_callV (c := 0) [iv 1] [] C dX11_holder_26 (T_X11_none (zl Z) (zX Z) 1 _ _ hq1) rfl zn0 zk0 (by decide) rfl wd315 wd316 wd1311 wd1 wd317 hd_X11_none rfl (by decide) (by decide) (Nat.le_of_ble_eq_true rfl) ⟨Nat.zero_le _, Nat.zero_le _⟩ ?_
  cases hF
  exact mw_iret C dX11_holder_29 rfl rfl
def F_X11_holder_0 (x1 : Int) (x2 : Int) (h : MH) : Option (Int × MH) :=
  ck (in32 x1) <|
  (F_X11_outside x1 1 20 h).bind fun q2 =>
  ck (in32 q2.1) <|
  if q2.1 ≠ 0 then
    F_X11_holder_24 q2.2
  else
    ck (in32 x2) <|
    (F_X11_outside x2 1 600 q2.2).bind fun q6 =>
    ck (in32 q6.1) <|
    if q6.1 = 0 then
      ck (in32 (q6.2 35 0)) <|
      if (q6.2 35 0) ≠ 0 then
        (F_X9_findHolder 35 x1 x2 q6.2).bind fun q11 =>
        (F_X11_answer q11.1 q11.2).bind fun q12 =>
        some (q12.1, q12.2)
      else
        (F_X11_none 6 q6.2).bind fun q13 =>
        some (q13.1, q13.2)
    else
      F_X11_holder_24 q6.2
set_option maxRecDepth 100000 in
theorem T_X11_holder_0 {Z : ZT} (C : Cx Z cX11_holder 3 RX11 7 (some .int)) (x1 : Int) (x2 : Int) (h : MH) (t : (Int × MH)) (hF : F_X11_holder_0 x1 x2 h = some t) : MW Z (Qm Z (some (iv t.1)) zN zG t.2 0 0) 3 zN zG h 0 0 0 [(0, rfv (xd (zX Z)) 0), (1, iv x1), (2, iv x2)] [] := by
  unfold F_X11_holder_0 at hF
  refine mw_iload_n 1 C dX11_holder_0 rfl rfl ?_
  obtain ⟨g1, hF⟩ := ck_some hF
  refine mw_i2l C dX11_holder_1 g1 ?_
  refine mw_lconst (a := 1) C dX11_holder_2 lc_1 ?_
  refine mw_ldc2 (a := 20) C dX11_holder_3 wd662 rfl ?_
  obtain ⟨q2, hq2, hF⟩ := bind_some hF
  refine mw_callS [lvv x1, lvv 1, lvv 20] [] C dX11_holder_6 (T_X11_outside (zl Z) (zX Z) x1 1 20 _ _ hq2) rfl wd288 wd289 wd1 wd290 hd_X11_outside rfl (by decide) (by decide) (Nat.le_of_ble_eq_true rfl) ⟨Nat.zero_le _, Nat.zero_le _⟩ ?_
  obtain ⟨g3, hF⟩ := ck_some hF
  rcases ite_some hF with ⟨c4, hF⟩ | ⟨c4, hF⟩
  · refine mw_if_ne_t (tgt := 24) C dX11_holder_9 (by decide) g3 c4 ?_
    refine mw_sub [0] rfl ?_
    exact T_X11_holder_24 C _ _ hF
  · refine mw_if_ne_f (tgt := 24) C dX11_holder_9 (by decide) g3 c4 ?_
    refine mw_iload_n 2 C dX11_holder_12 rfl rfl ?_
    obtain ⟨g5, hF⟩ := ck_some hF
    refine mw_i2l C dX11_holder_13 g5 ?_
    refine mw_lconst (a := 1) C dX11_holder_14 lc_1 ?_
    refine mw_ldc2 (a := 600) C dX11_holder_15 wd595 rfl ?_
    obtain ⟨q6, hq6, hF⟩ := bind_some hF
    refine mw_callS [lvv x2, lvv 1, lvv 600] [] C dX11_holder_18 (T_X11_outside (zl Z) (zX Z) x2 1 600 _ _ hq6) rfl wd288 wd289 wd1 wd290 hd_X11_outside rfl (by decide) (by decide) (Nat.le_of_ble_eq_true rfl) ⟨Nat.zero_le _, Nat.zero_le _⟩ ?_
    obtain ⟨g7, hF⟩ := ck_some hF
    rcases ite_some hF with ⟨c8, hF⟩ | ⟨c8, hF⟩
    · refine mw_if_eq_t (tgt := 30) C dX11_holder_21 (by decide) g7 c8 ?_
      refine mw_aload_n 0 C dX11_holder_30 rfl rfl ?_
      refine mw_get (k := 9) (T := TX11) (v := rfv (xd (zX Z)) 34) C dX11_holder_31 zn0 zk0 (by decide) rfl inX11 (by decide) wd258 rfl (zfv_r rfl zg_0_9) ?_
      refine mw_get (k := 0) (T := TX5) (v := rfv (xd (zX Z)) 35) C dX11_holder_34 zn34 zk34 (by decide) rfl inX5 (by decide) wd121 rfl (zfv_r rfl zg_34_0) ?_
      refine mw_get (k := 0) (T := TX1) (v := iv (q6.2 35 0)) C dX11_holder_37 zn35 zk35 (by decide) rfl inX1 (by decide) wd81 rfl rfl ?_
      obtain ⟨g9, hF⟩ := ck_some hF
      rcases ite_some hF with ⟨c10, hF⟩ | ⟨c10, hF⟩
      · refine mw_if_ne_t (tgt := 50) C dX11_holder_40 (by decide) g9 c10 ?_
        refine mw_aload_n 0 C dX11_holder_50 rfl rfl ?_
        refine mw_aload_n 0 C dX11_holder_51 rfl rfl ?_
        refine mw_get (k := 14) (T := TX11) (v := rfv (xd (zX Z)) 56) C dX11_holder_52 zn0 zk0 (by decide) rfl inX11 (by decide) wd263 rfl (zfv_r rfl zg_0_14) ?_
        refine mw_aload_n 0 C dX11_holder_55 rfl rfl ?_
        refine mw_get (k := 9) (T := TX11) (v := rfv (xd (zX Z)) 34) C dX11_holder_56 zn0 zk0 (by decide) rfl inX11 (by decide) wd258 rfl (zfv_r rfl zg_0_9) ?_
        refine mw_get (k := 0) (T := TX5) (v := rfv (xd (zX Z)) 35) C dX11_holder_59 zn34 zk34 (by decide) rfl inX5 (by decide) wd121 rfl (zfv_r rfl zg_34_0) ?_
        refine mw_iload_n 1 C dX11_holder_62 rfl rfl ?_
        refine mw_iload_n 2 C dX11_holder_63 rfl rfl ?_
        obtain ⟨q11, hq11, hF⟩ := bind_some hF
        refine mw_callV (c := 56) [rfv (xd (zX Z)) 35, iv x1, iv x2] [rfv (xd (zX Z)) 0] C dX11_holder_64 (T_X9_findHolder (zl Z) (zX Z) 35 x1 x2 ok_35 _ _ hq11) rfl zn56 zk56 (by decide) rfl wd663 wd664 wd665 wd8 wd666 hd_X9_findHolder rfl (by decide) (by decide) (Nat.le_of_ble_eq_true rfl) ⟨Nat.zero_le _, Nat.zero_le _⟩ ?_
        obtain ⟨q12, hq12, hF⟩ := bind_some hF
        refine mw_callV (c := 0) [iv q11.1] [] C dX11_holder_67 (T_X11_answer (zl Z) (zX Z) q11.1 _ _ hq12) rfl zn0 zk0 (by decide) rfl wd494 wd495 wd1325 wd1 wd496 hd_X11_answer rfl (by decide) (by decide) (Nat.le_of_ble_eq_true rfl) ⟨Nat.zero_le _, Nat.zero_le _⟩ ?_
        cases hF
        exact mw_iret C dX11_holder_70 rfl rfl
      · refine mw_if_ne_f (tgt := 50) C dX11_holder_40 (by decide) g9 c10 ?_
        refine mw_aload_n 0 C dX11_holder_43 rfl rfl ?_
        refine mw_bipush C dX11_holder_44 bp_6 ?_
        obtain ⟨q13, hq13, hF⟩ := bind_some hF
        refine mw_callV (c := 0) [iv 6] [] C dX11_holder_46 (T_X11_none (zl Z) (zX Z) 6 _ _ hq13) rfl zn0 zk0 (by decide) rfl wd315 wd316 wd1311 wd1 wd317 hd_X11_none rfl (by decide) (by decide) (Nat.le_of_ble_eq_true rfl) ⟨Nat.zero_le _, Nat.zero_le _⟩ ?_
        cases hF
        exact mw_iret C dX11_holder_49 rfl rfl
    · refine mw_if_eq_f (tgt := 30) C dX11_holder_21 (by decide) g7 c8 ?_
      refine mw_sub [0] rfl ?_
      exact T_X11_holder_24 C _ _ hF
def F_X11_holder (x1 : Int) (x2 : Int) (h : MH) : Option (Int × MH) := F_X11_holder_0 x1 x2 h
theorem T_X11_holder (l : Launch) (X : XT) (x1 : Int) (x2 : Int) (h : MH) (t : (Int × MH)) (hF : F_X11_holder x1 x2 h = some t) : Ct l X yX11_holder cX11_holder 3 (some .int) 7 [rfv (xd X) 0, iv x1, iv x2] zN zG h (some (iv t.1)) zN zG t.2 0 0 := by
  refine Ct.head (by decide) (Nat.le_of_ble_eq_true rfl) (fun Z hX hl _ _ _ C => ?_)
  subst hX
  subst hl
  exact (T_X11_holder_0 C x1 x2 _ _ hF)
/-! BottleLine.gained()I -/
def F_X11_gained_0 (h : MH) : Option (Int × MH) :=
  ck (in32 (h 56 1)) <|
  if (h 56 1) = 0 then
    (F_X11_none 6 h).bind fun q3 =>
    some (q3.1, q3.2)
  else
    (F_X11_answer (h 56 2) h).bind fun q4 =>
    some (q4.1, q4.2)
set_option maxRecDepth 100000 in
theorem T_X11_gained_0 {Z : ZT} (C : Cx Z cX11_gained 1 RX11 2 (some .int)) (h : MH) (t : (Int × MH)) (hF : F_X11_gained_0 h = some t) : MW Z (Qm Z (some (iv t.1)) zN zG t.2 0 0) 1 zN zG h 0 0 0 [(0, rfv (xd (zX Z)) 0)] [] := by
  unfold F_X11_gained_0 at hF
  refine mw_aload_n 0 C dX11_gained_0 rfl rfl ?_
  refine mw_get (k := 14) (T := TX11) (v := rfv (xd (zX Z)) 56) C dX11_gained_1 zn0 zk0 (by decide) rfl inX11 (by decide) wd263 rfl (zfv_r rfl zg_0_14) ?_
  refine mw_get (k := 1) (T := TX9) (v := iv (h 56 1)) C dX11_gained_4 zn56 zk56 (by decide) rfl inX9 (by decide) wd183 rfl rfl ?_
  obtain ⟨g1, hF⟩ := ck_some hF
  rcases ite_some hF with ⟨c2, hF⟩ | ⟨c2, hF⟩
  · refine mw_if_eq_t (tgt := 24) C dX11_gained_7 (by decide) g1 c2 ?_
    refine mw_aload_n 0 C dX11_gained_24 rfl rfl ?_
    refine mw_bipush C dX11_gained_25 bp_6 ?_
    obtain ⟨q3, hq3, hF⟩ := bind_some hF
    refine mw_callV (c := 0) [iv 6] [] C dX11_gained_27 (T_X11_none (zl Z) (zX Z) 6 _ _ hq3) rfl zn0 zk0 (by decide) rfl wd315 wd316 wd1311 wd1 wd317 hd_X11_none rfl (by decide) (by decide) (Nat.le_of_ble_eq_true rfl) ⟨Nat.zero_le _, Nat.zero_le _⟩ ?_
    cases hF
    exact mw_iret C dX11_gained_30 rfl rfl
  · refine mw_if_eq_f (tgt := 24) C dX11_gained_7 (by decide) g1 c2 ?_
    refine mw_aload_n 0 C dX11_gained_10 rfl rfl ?_
    refine mw_aload_n 0 C dX11_gained_11 rfl rfl ?_
    refine mw_get (k := 14) (T := TX11) (v := rfv (xd (zX Z)) 56) C dX11_gained_12 zn0 zk0 (by decide) rfl inX11 (by decide) wd263 rfl (zfv_r rfl zg_0_14) ?_
    refine mw_get (k := 2) (T := TX9) (v := iv (h 56 2)) C dX11_gained_15 zn56 zk56 (by decide) rfl inX9 (by decide) wd185 rfl rfl ?_
    obtain ⟨q4, hq4, hF⟩ := bind_some hF
    refine mw_callV (c := 0) [iv (h 56 2)] [] C dX11_gained_18 (T_X11_answer (zl Z) (zX Z) (h 56 2) _ _ hq4) rfl zn0 zk0 (by decide) rfl wd494 wd495 wd1325 wd1 wd496 hd_X11_answer rfl (by decide) (by decide) (Nat.le_of_ble_eq_true rfl) ⟨Nat.zero_le _, Nat.zero_le _⟩ ?_
    refine mw_goto (tgt := 30) C dX11_gained_21 (by decide) ?_
    cases hF
    exact mw_iret C dX11_gained_30 rfl rfl
def F_X11_gained (h : MH) : Option (Int × MH) := F_X11_gained_0 h
theorem T_X11_gained (l : Launch) (X : XT) (h : MH) (t : (Int × MH)) (hF : F_X11_gained h = some t) : Ct l X yX11_gained cX11_gained 1 (some .int) 2 [rfv (xd X) 0] zN zG h (some (iv t.1)) zN zG t.2 0 0 := by
  refine Ct.head (by decide) (Nat.le_of_ble_eq_true rfl) (fun Z hX hl _ _ _ C => ?_)
  subst hX
  subst hl
  exact (T_X11_gained_0 C _ _ hF)
/-! BottleLine.shared(III)I -/
def F_X11_shared_36 (h : MH) : Option (Int × MH) :=
  (F_X11_none 1 h).bind fun q1 =>
  some (q1.1, q1.2)
set_option maxRecDepth 100000 in
theorem T_X11_shared_36 {Z : ZT} (C : Cx Z cX11_shared 4 RX11 20 (some .int)) (h : MH) (t : (Int × MH)) (hF : F_X11_shared_36 h = some t) : MW Z (Qm Z (some (iv t.1)) zN zG t.2 0 0) 4 zN zG h 0 0 36 [(0, rfv (xd (zX Z)) 0)] [] := by
  unfold F_X11_shared_36 at hF
  refine mw_aload_n 0 C dX11_shared_36 rfl rfl ?_
  refine mw_iconst C dX11_shared_37 ?_
  obtain ⟨q1, hq1, hF⟩ := bind_some hF
  refine mw_callV (c := 0) [iv 1] [] C dX11_shared_38 (T_X11_none (zl Z) (zX Z) 1 _ _ hq1) rfl zn0 zk0 (by decide) rfl wd315 wd316 wd1311 wd1 wd317 hd_X11_none rfl (by decide) (by decide) (Nat.le_of_ble_eq_true rfl) ⟨Nat.zero_le _, Nat.zero_le _⟩ ?_
  cases hF
  exact mw_iret C dX11_shared_41 rfl rfl
def F_X11_shared_0 (x1 : Int) (x2 : Int) (x3 : Int) (h : MH) : Option (Int × MH) :=
  ck (in32 x1) <|
  (F_X11_outside x1 0 8 h).bind fun q2 =>
  ck (in32 q2.1) <|
  if q2.1 ≠ 0 then
    F_X11_shared_36 q2.2
  else
    ck (in32 x2) <|
    (F_X11_outside x2 1 99 q2.2).bind fun q6 =>
    ck (in32 q6.1) <|
    if q6.1 ≠ 0 then
      F_X11_shared_36 q6.2
    else
      ck (in32 x3) <|
      (F_X11_outside x3 1 200 q6.2).bind fun q10 =>
      ck (in32 q10.1) <|
      if q10.1 = 0 then
        ck (in32 (q10.2 35 0)) <|
        if 2 ≤ (q10.2 35 0) then
          (F_X9_shareOut 35 x1 x2 x3 q10.2).bind fun q15 =>
          (F_X11_answer q15.1 q15.2).bind fun q16 =>
          some (q16.1, q16.2)
        else
          (F_X11_none 6 q10.2).bind fun q17 =>
          some (q17.1, q17.2)
      else
        F_X11_shared_36 q10.2
set_option maxRecDepth 100000 in
theorem T_X11_shared_0 {Z : ZT} (C : Cx Z cX11_shared 4 RX11 20 (some .int)) (x1 : Int) (x2 : Int) (x3 : Int) (h : MH) (t : (Int × MH)) (hF : F_X11_shared_0 x1 x2 x3 h = some t) : MW Z (Qm Z (some (iv t.1)) zN zG t.2 0 0) 4 zN zG h 0 0 0 [(0, rfv (xd (zX Z)) 0), (1, iv x1), (2, iv x2), (3, iv x3)] [] := by
  unfold F_X11_shared_0 at hF
  refine mw_iload_n 1 C dX11_shared_0 rfl rfl ?_
  obtain ⟨g1, hF⟩ := ck_some hF
  refine mw_i2l C dX11_shared_1 g1 ?_
  refine mw_lconst (a := 0) C dX11_shared_2 lc_0 ?_
  refine mw_ldc2 (a := 8) C dX11_shared_3 wd680 rfl ?_
  obtain ⟨q2, hq2, hF⟩ := bind_some hF
  refine mw_callS [lvv x1, lvv 0, lvv 8] [] C dX11_shared_6 (T_X11_outside (zl Z) (zX Z) x1 0 8 _ _ hq2) rfl wd288 wd289 wd1 wd290 hd_X11_outside rfl (by decide) (by decide) (Nat.le_of_ble_eq_true rfl) ⟨Nat.zero_le _, Nat.zero_le _⟩ ?_
  obtain ⟨g3, hF⟩ := ck_some hF
  rcases ite_some hF with ⟨c4, hF⟩ | ⟨c4, hF⟩
  · refine mw_if_ne_t (tgt := 36) C dX11_shared_9 (by decide) g3 c4 ?_
    refine mw_sub [0] rfl ?_
    exact T_X11_shared_36 C _ _ hF
  · refine mw_if_ne_f (tgt := 36) C dX11_shared_9 (by decide) g3 c4 ?_
    refine mw_iload_n 2 C dX11_shared_12 rfl rfl ?_
    obtain ⟨g5, hF⟩ := ck_some hF
    refine mw_i2l C dX11_shared_13 g5 ?_
    refine mw_lconst (a := 1) C dX11_shared_14 lc_1 ?_
    refine mw_ldc2 (a := 99) C dX11_shared_15 wd648 rfl ?_
    obtain ⟨q6, hq6, hF⟩ := bind_some hF
    refine mw_callS [lvv x2, lvv 1, lvv 99] [] C dX11_shared_18 (T_X11_outside (zl Z) (zX Z) x2 1 99 _ _ hq6) rfl wd288 wd289 wd1 wd290 hd_X11_outside rfl (by decide) (by decide) (Nat.le_of_ble_eq_true rfl) ⟨Nat.zero_le _, Nat.zero_le _⟩ ?_
    obtain ⟨g7, hF⟩ := ck_some hF
    rcases ite_some hF with ⟨c8, hF⟩ | ⟨c8, hF⟩
    · refine mw_if_ne_t (tgt := 36) C dX11_shared_21 (by decide) g7 c8 ?_
      refine mw_sub [0] rfl ?_
      exact T_X11_shared_36 C _ _ hF
    · refine mw_if_ne_f (tgt := 36) C dX11_shared_21 (by decide) g7 c8 ?_
      refine mw_iload_n 3 C dX11_shared_24 rfl rfl ?_
      obtain ⟨g9, hF⟩ := ck_some hF
      refine mw_i2l C dX11_shared_25 g9 ?_
      refine mw_lconst (a := 1) C dX11_shared_26 lc_1 ?_
      refine mw_ldc2 (a := 200) C dX11_shared_27 wd681 rfl ?_
      obtain ⟨q10, hq10, hF⟩ := bind_some hF
      refine mw_callS [lvv x3, lvv 1, lvv 200] [] C dX11_shared_30 (T_X11_outside (zl Z) (zX Z) x3 1 200 _ _ hq10) rfl wd288 wd289 wd1 wd290 hd_X11_outside rfl (by decide) (by decide) (Nat.le_of_ble_eq_true rfl) ⟨Nat.zero_le _, Nat.zero_le _⟩ ?_
      obtain ⟨g11, hF⟩ := ck_some hF
      rcases ite_some hF with ⟨c12, hF⟩ | ⟨c12, hF⟩
      · refine mw_if_eq_t (tgt := 42) C dX11_shared_33 (by decide) g11 c12 ?_
        refine mw_aload_n 0 C dX11_shared_42 rfl rfl ?_
        refine mw_get (k := 9) (T := TX11) (v := rfv (xd (zX Z)) 34) C dX11_shared_43 zn0 zk0 (by decide) rfl inX11 (by decide) wd258 rfl (zfv_r rfl zg_0_9) ?_
        refine mw_get (k := 0) (T := TX5) (v := rfv (xd (zX Z)) 35) C dX11_shared_46 zn34 zk34 (by decide) rfl inX5 (by decide) wd121 rfl (zfv_r rfl zg_34_0) ?_
        refine mw_get (k := 0) (T := TX1) (v := iv (q10.2 35 0)) C dX11_shared_49 zn35 zk35 (by decide) rfl inX1 (by decide) wd81 rfl rfl ?_
        refine mw_iconst C dX11_shared_52 ?_
        obtain ⟨g13, hF⟩ := ck_some hF
        rcases ite_some hF with ⟨c14, hF⟩ | ⟨c14, hF⟩
        · refine mw_icmp_ge_t (tgt := 63) C dX11_shared_53 (by decide) g13 (by decide) c14 ?_
          refine mw_aload_n 0 C dX11_shared_63 rfl rfl ?_
          refine mw_aload_n 0 C dX11_shared_64 rfl rfl ?_
          refine mw_get (k := 14) (T := TX11) (v := rfv (xd (zX Z)) 56) C dX11_shared_65 zn0 zk0 (by decide) rfl inX11 (by decide) wd263 rfl (zfv_r rfl zg_0_14) ?_
          refine mw_aload_n 0 C dX11_shared_68 rfl rfl ?_
          refine mw_get (k := 9) (T := TX11) (v := rfv (xd (zX Z)) 34) C dX11_shared_69 zn0 zk0 (by decide) rfl inX11 (by decide) wd258 rfl (zfv_r rfl zg_0_9) ?_
          refine mw_get (k := 0) (T := TX5) (v := rfv (xd (zX Z)) 35) C dX11_shared_72 zn34 zk34 (by decide) rfl inX5 (by decide) wd121 rfl (zfv_r rfl zg_34_0) ?_
          refine mw_iload_n 1 C dX11_shared_75 rfl rfl ?_
          refine mw_iload_n 2 C dX11_shared_76 rfl rfl ?_
          refine mw_iload_n 3 C dX11_shared_77 rfl rfl ?_
          obtain ⟨q15, hq15, hF⟩ := bind_some hF
          refine mw_callV (c := 56) [rfv (xd (zX Z)) 35, iv x1, iv x2, iv x3] [rfv (xd (zX Z)) 0] C dX11_shared_78 (T_X9_shareOut (zl Z) (zX Z) 35 x1 x2 x3 ok_35 _ _ hq15) rfl zn56 zk56 (by decide) rfl wd682 wd683 wd684 wd8 wd685 hd_X9_shareOut rfl (by decide) (by decide) (Nat.le_of_ble_eq_true rfl) ⟨Nat.zero_le _, Nat.zero_le _⟩ ?_
          obtain ⟨q16, hq16, hF⟩ := bind_some hF
          refine mw_callV (c := 0) [iv q15.1] [] C dX11_shared_81 (T_X11_answer (zl Z) (zX Z) q15.1 _ _ hq16) rfl zn0 zk0 (by decide) rfl wd494 wd495 wd1325 wd1 wd496 hd_X11_answer rfl (by decide) (by decide) (Nat.le_of_ble_eq_true rfl) ⟨Nat.zero_le _, Nat.zero_le _⟩ ?_
          cases hF
          exact mw_iret C dX11_shared_84 rfl rfl
        · refine mw_icmp_ge_f (tgt := 63) C dX11_shared_53 (by decide) g13 (by decide) c14 ?_
          refine mw_aload_n 0 C dX11_shared_56 rfl rfl ?_
          refine mw_bipush C dX11_shared_57 bp_6 ?_
          obtain ⟨q17, hq17, hF⟩ := bind_some hF
          refine mw_callV (c := 0) [iv 6] [] C dX11_shared_59 (T_X11_none (zl Z) (zX Z) 6 _ _ hq17) rfl zn0 zk0 (by decide) rfl wd315 wd316 wd1311 wd1 wd317 hd_X11_none rfl (by decide) (by decide) (Nat.le_of_ble_eq_true rfl) ⟨Nat.zero_le _, Nat.zero_le _⟩ ?_
          cases hF
          exact mw_iret C dX11_shared_62 rfl rfl
      · refine mw_if_eq_f (tgt := 42) C dX11_shared_33 (by decide) g11 c12 ?_
        refine mw_sub [0] rfl ?_
        exact T_X11_shared_36 C _ _ hF
def F_X11_shared (x1 : Int) (x2 : Int) (x3 : Int) (h : MH) : Option (Int × MH) := F_X11_shared_0 x1 x2 x3 h
theorem T_X11_shared (l : Launch) (X : XT) (x1 : Int) (x2 : Int) (x3 : Int) (h : MH) (t : (Int × MH)) (hF : F_X11_shared x1 x2 x3 h = some t) : Ct l X yX11_shared cX11_shared 4 (some .int) 20 [rfv (xd X) 0, iv x1, iv x2, iv x3] zN zG h (some (iv t.1)) zN zG t.2 0 0 := by
  refine Ct.head (by decide) (Nat.le_of_ble_eq_true rfl) (fun Z hX hl _ _ _ C => ?_)
  subst hX
  subst hl
  exact (T_X11_shared_0 C x1 x2 x3 _ _ hF)
/-! BottleLine.unit(I)I -/
def F_X11_unit_0 (x1 : Int) (h : MH) : Option (Int × MH) :=
  ck (in32 (h 56 3)) <|
  if (h 56 3) ≠ 0 then
    ck (in32 x1) <|
    ck (in32 ((h 56 3) - 1)) <|
    (F_X11_outside x1 0 ((h 56 3) - 1) h).bind fun q5 =>
    ck (in32 q5.1) <|
    if q5.1 = 0 then
      ck (0 ≤ x1 ∧ x1 < 5) <|
      (F_X11_answer (q5.2 68 x1.toNat) q5.2).bind fun q9 =>
      some (q9.1, q9.2)
    else
      (F_X11_none 1 q5.2).bind fun q10 =>
      some (q10.1, q10.2)
  else
    (F_X11_none 6 h).bind fun q11 =>
    some (q11.1, q11.2)
set_option maxRecDepth 100000 in
theorem T_X11_unit_0 {Z : ZT} (C : Cx Z cX11_unit 2 RX11 2 (some .int)) (x1 : Int) (h : MH) (t : (Int × MH)) (hF : F_X11_unit_0 x1 h = some t) : MW Z (Qm Z (some (iv t.1)) zN zG t.2 0 0) 2 zN zG h 0 0 0 [(0, rfv (xd (zX Z)) 0), (1, iv x1)] [] := by
  unfold F_X11_unit_0 at hF
  refine mw_aload_n 0 C dX11_unit_0 rfl rfl ?_
  refine mw_get (k := 14) (T := TX11) (v := rfv (xd (zX Z)) 56) C dX11_unit_1 zn0 zk0 (by decide) rfl inX11 (by decide) wd263 rfl (zfv_r rfl zg_0_14) ?_
  refine mw_get (k := 3) (T := TX9) (v := iv (h 56 3)) C dX11_unit_4 zn56 zk56 (by decide) rfl inX9 (by decide) wd187 rfl rfl ?_
  obtain ⟨g1, hF⟩ := ck_some hF
  rcases ite_some hF with ⟨c2, hF⟩ | ⟨c2, hF⟩
  · refine mw_if_ne_t (tgt := 17) C dX11_unit_7 (by decide) g1 c2 ?_
    refine mw_iload_n 1 C dX11_unit_17 rfl rfl ?_
    obtain ⟨g3, hF⟩ := ck_some hF
    refine mw_i2l C dX11_unit_18 g3 ?_
    refine mw_lconst (a := 0) C dX11_unit_19 lc_0 ?_
    refine mw_aload_n 0 C dX11_unit_20 rfl rfl ?_
    refine mw_get (k := 14) (T := TX11) (v := rfv (xd (zX Z)) 56) C dX11_unit_21 zn0 zk0 (by decide) rfl inX11 (by decide) wd263 rfl (zfv_r rfl zg_0_14) ?_
    refine mw_get (k := 3) (T := TX9) (v := iv (h 56 3)) C dX11_unit_24 zn56 zk56 (by decide) rfl inX9 (by decide) wd187 rfl rfl ?_
    refine mw_iconst C dX11_unit_27 ?_
    refine mw_isub C dX11_unit_28 ?_
    obtain ⟨g4, hF⟩ := ck_some hF
    refine mw_i2l C dX11_unit_29 g4 ?_
    obtain ⟨q5, hq5, hF⟩ := bind_some hF
    refine mw_callS [lvv x1, lvv 0, lvv ((h 56 3) - 1)] [] C dX11_unit_30 (T_X11_outside (zl Z) (zX Z) x1 0 ((h 56 3) - 1) _ _ hq5) rfl wd288 wd289 wd1 wd290 hd_X11_outside rfl (by decide) (by decide) (Nat.le_of_ble_eq_true rfl) ⟨Nat.zero_le _, Nat.zero_le _⟩ ?_
    obtain ⟨g6, hF⟩ := ck_some hF
    rcases ite_some hF with ⟨c7, hF⟩ | ⟨c7, hF⟩
    · refine mw_if_eq_t (tgt := 42) C dX11_unit_33 (by decide) g6 c7 ?_
      refine mw_aload_n 0 C dX11_unit_42 rfl rfl ?_
      refine mw_aload_n 0 C dX11_unit_43 rfl rfl ?_
      refine mw_get (k := 14) (T := TX11) (v := rfv (xd (zX Z)) 56) C dX11_unit_44 zn0 zk0 (by decide) rfl inX11 (by decide) wd263 rfl (zfv_r rfl zg_0_14) ?_
      refine mw_get (k := 4) (T := TX9) (v := rfv (xd (zX Z)) 68) C dX11_unit_47 zn56 zk56 (by decide) rfl inX9 (by decide) wd189 rfl (zfv_r rfl zg_56_4) ?_
      refine mw_iload_n 1 C dX11_unit_50 rfl rfl ?_
      obtain ⟨g8, hF⟩ := ck_some hF
      refine mw_iald C dX11_unit_51 zn68 zk68 (by decide) g8 ?_
      obtain ⟨q9, hq9, hF⟩ := bind_some hF
      refine mw_callV (c := 0) [iv (q5.2 68 x1.toNat)] [] C dX11_unit_52 (T_X11_answer (zl Z) (zX Z) (q5.2 68 x1.toNat) _ _ hq9) rfl zn0 zk0 (by decide) rfl wd494 wd495 wd1325 wd1 wd496 hd_X11_answer rfl (by decide) (by decide) (Nat.le_of_ble_eq_true rfl) ⟨Nat.zero_le _, Nat.zero_le _⟩ ?_
      cases hF
      exact mw_iret C dX11_unit_55 rfl rfl
    · refine mw_if_eq_f (tgt := 42) C dX11_unit_33 (by decide) g6 c7 ?_
      refine mw_aload_n 0 C dX11_unit_36 rfl rfl ?_
      refine mw_iconst C dX11_unit_37 ?_
      obtain ⟨q10, hq10, hF⟩ := bind_some hF
      refine mw_callV (c := 0) [iv 1] [] C dX11_unit_38 (T_X11_none (zl Z) (zX Z) 1 _ _ hq10) rfl zn0 zk0 (by decide) rfl wd315 wd316 wd1311 wd1 wd317 hd_X11_none rfl (by decide) (by decide) (Nat.le_of_ble_eq_true rfl) ⟨Nat.zero_le _, Nat.zero_le _⟩ ?_
      cases hF
      exact mw_iret C dX11_unit_41 rfl rfl
  · refine mw_if_ne_f (tgt := 17) C dX11_unit_7 (by decide) g1 c2 ?_
    refine mw_aload_n 0 C dX11_unit_10 rfl rfl ?_
    refine mw_bipush C dX11_unit_11 bp_6 ?_
    obtain ⟨q11, hq11, hF⟩ := bind_some hF
    refine mw_callV (c := 0) [iv 6] [] C dX11_unit_13 (T_X11_none (zl Z) (zX Z) 6 _ _ hq11) rfl zn0 zk0 (by decide) rfl wd315 wd316 wd1311 wd1 wd317 hd_X11_none rfl (by decide) (by decide) (Nat.le_of_ble_eq_true rfl) ⟨Nat.zero_le _, Nat.zero_le _⟩ ?_
    cases hF
    exact mw_iret C dX11_unit_16 rfl rfl
def F_X11_unit (x1 : Int) (h : MH) : Option (Int × MH) := F_X11_unit_0 x1 h
theorem T_X11_unit (l : Launch) (X : XT) (x1 : Int) (h : MH) (t : (Int × MH)) (hF : F_X11_unit x1 h = some t) : Ct l X yX11_unit cX11_unit 2 (some .int) 2 [rfv (xd X) 0, iv x1] zN zG h (some (iv t.1)) zN zG t.2 0 0 := by
  refine Ct.head (by decide) (Nat.le_of_ble_eq_true rfl) (fun Z hX hl _ _ _ C => ?_)
  subst hX
  subst hl
  exact (T_X11_unit_0 C x1 _ _ hF)
/-! BottleLine.waits(III)I -/
def F_X11_waits_32 (h : MH) : Option (Int × MH) :=
  (F_X11_none 1 h).bind fun q1 =>
  some (q1.1, q1.2)
set_option maxRecDepth 100000 in
theorem T_X11_waits_32 {Z : ZT} (C : Cx Z cX11_waits 4 RX11 5 (some .int)) (h : MH) (t : (Int × MH)) (hF : F_X11_waits_32 h = some t) : MW Z (Qm Z (some (iv t.1)) zN zG t.2 0 0) 4 zN zG h 0 0 32 [(0, rfv (xd (zX Z)) 0)] [] := by
  unfold F_X11_waits_32 at hF
  refine mw_aload_n 0 C dX11_waits_32 rfl rfl ?_
  refine mw_iconst C dX11_waits_33 ?_
  obtain ⟨q1, hq1, hF⟩ := bind_some hF
  refine mw_callV (c := 0) [iv 1] [] C dX11_waits_34 (T_X11_none (zl Z) (zX Z) 1 _ _ hq1) rfl zn0 zk0 (by decide) rfl wd315 wd316 wd1311 wd1 wd317 hd_X11_none rfl (by decide) (by decide) (Nat.le_of_ble_eq_true rfl) ⟨Nat.zero_le _, Nat.zero_le _⟩ ?_
  cases hF
  exact mw_iret C dX11_waits_37 rfl rfl
def F_X11_waits_0 (x1 : Int) (x2 : Int) (x3 : Int) (h : MH) : Option (Int × MH) :=
  (F_X11_isMachine x1 h).bind fun q1 =>
  ck (in32 q1.1) <|
  if q1.1 = 0 then
    F_X11_waits_32 q1.2
  else
    ck (in32 x2) <|
    (F_X11_outside x2 0 20 q1.2).bind fun q5 =>
    ck (in32 q5.1) <|
    if q5.1 ≠ 0 then
      F_X11_waits_32 q5.2
    else
      ck (in32 x3) <|
      (F_X11_outside x3 1 600 q5.2).bind fun q9 =>
      ck (in32 q9.1) <|
      if q9.1 = 0 then
        (F_X9_waitsWith 35 x1 x2 x3 q9.2).bind fun q12 =>
        (F_X11_answer q12.1 q12.2).bind fun q13 =>
        some (q13.1, q13.2)
      else
        F_X11_waits_32 q9.2
set_option maxRecDepth 100000 in
theorem T_X11_waits_0 {Z : ZT} (C : Cx Z cX11_waits 4 RX11 5 (some .int)) (x1 : Int) (x2 : Int) (x3 : Int) (h : MH) (t : (Int × MH)) (hF : F_X11_waits_0 x1 x2 x3 h = some t) : MW Z (Qm Z (some (iv t.1)) zN zG t.2 0 0) 4 zN zG h 0 0 0 [(0, rfv (xd (zX Z)) 0), (1, iv x1), (2, iv x2), (3, iv x3)] [] := by
  unfold F_X11_waits_0 at hF
  refine mw_aload_n 0 C dX11_waits_0 rfl rfl ?_
  refine mw_iload_n 1 C dX11_waits_1 rfl rfl ?_
  obtain ⟨q1, hq1, hF⟩ := bind_some hF
  refine mw_callV (c := 0) [iv x1] [] C dX11_waits_2 (T_X11_isMachine (zl Z) (zX Z) x1 _ _ hq1) rfl zn0 zk0 (by decide) rfl wd559 wd560 wd1334 wd1 wd561 hd_X11_isMachine rfl (by decide) (by decide) (Nat.le_of_ble_eq_true rfl) ⟨Nat.zero_le _, Nat.zero_le _⟩ ?_
  obtain ⟨g2, hF⟩ := ck_some hF
  rcases ite_some hF with ⟨c3, hF⟩ | ⟨c3, hF⟩
  · refine mw_if_eq_t (tgt := 32) C dX11_waits_5 (by decide) g2 c3 ?_
    refine mw_sub [0] rfl ?_
    exact T_X11_waits_32 C _ _ hF
  · refine mw_if_eq_f (tgt := 32) C dX11_waits_5 (by decide) g2 c3 ?_
    refine mw_iload_n 2 C dX11_waits_8 rfl rfl ?_
    obtain ⟨g4, hF⟩ := ck_some hF
    refine mw_i2l C dX11_waits_9 g4 ?_
    refine mw_lconst (a := 0) C dX11_waits_10 lc_0 ?_
    refine mw_ldc2 (a := 20) C dX11_waits_11 wd662 rfl ?_
    obtain ⟨q5, hq5, hF⟩ := bind_some hF
    refine mw_callS [lvv x2, lvv 0, lvv 20] [] C dX11_waits_14 (T_X11_outside (zl Z) (zX Z) x2 0 20 _ _ hq5) rfl wd288 wd289 wd1 wd290 hd_X11_outside rfl (by decide) (by decide) (Nat.le_of_ble_eq_true rfl) ⟨Nat.zero_le _, Nat.zero_le _⟩ ?_
    obtain ⟨g6, hF⟩ := ck_some hF
    rcases ite_some hF with ⟨c7, hF⟩ | ⟨c7, hF⟩
    · refine mw_if_ne_t (tgt := 32) C dX11_waits_17 (by decide) g6 c7 ?_
      refine mw_sub [0] rfl ?_
      exact T_X11_waits_32 C _ _ hF
    · refine mw_if_ne_f (tgt := 32) C dX11_waits_17 (by decide) g6 c7 ?_
      refine mw_iload_n 3 C dX11_waits_20 rfl rfl ?_
      obtain ⟨g8, hF⟩ := ck_some hF
      refine mw_i2l C dX11_waits_21 g8 ?_
      refine mw_lconst (a := 1) C dX11_waits_22 lc_1 ?_
      refine mw_ldc2 (a := 600) C dX11_waits_23 wd595 rfl ?_
      obtain ⟨q9, hq9, hF⟩ := bind_some hF
      refine mw_callS [lvv x3, lvv 1, lvv 600] [] C dX11_waits_26 (T_X11_outside (zl Z) (zX Z) x3 1 600 _ _ hq9) rfl wd288 wd289 wd1 wd290 hd_X11_outside rfl (by decide) (by decide) (Nat.le_of_ble_eq_true rfl) ⟨Nat.zero_le _, Nat.zero_le _⟩ ?_
      obtain ⟨g10, hF⟩ := ck_some hF
      rcases ite_some hF with ⟨c11, hF⟩ | ⟨c11, hF⟩
      · refine mw_if_eq_t (tgt := 38) C dX11_waits_29 (by decide) g10 c11 ?_
        refine mw_aload_n 0 C dX11_waits_38 rfl rfl ?_
        refine mw_aload_n 0 C dX11_waits_39 rfl rfl ?_
        refine mw_get (k := 14) (T := TX11) (v := rfv (xd (zX Z)) 56) C dX11_waits_40 zn0 zk0 (by decide) rfl inX11 (by decide) wd263 rfl (zfv_r rfl zg_0_14) ?_
        refine mw_aload_n 0 C dX11_waits_43 rfl rfl ?_
        refine mw_get (k := 9) (T := TX11) (v := rfv (xd (zX Z)) 34) C dX11_waits_44 zn0 zk0 (by decide) rfl inX11 (by decide) wd258 rfl (zfv_r rfl zg_0_9) ?_
        refine mw_get (k := 0) (T := TX5) (v := rfv (xd (zX Z)) 35) C dX11_waits_47 zn34 zk34 (by decide) rfl inX5 (by decide) wd121 rfl (zfv_r rfl zg_34_0) ?_
        refine mw_iload_n 1 C dX11_waits_50 rfl rfl ?_
        refine mw_iload_n 2 C dX11_waits_51 rfl rfl ?_
        refine mw_iload_n 3 C dX11_waits_52 rfl rfl ?_
        obtain ⟨q12, hq12, hF⟩ := bind_some hF
        refine mw_callV (c := 56) [rfv (xd (zX Z)) 35, iv x1, iv x2, iv x3] [rfv (xd (zX Z)) 0] C dX11_waits_53 (T_X9_waitsWith (zl Z) (zX Z) 35 x1 x2 x3 ok_35 _ _ hq12) rfl zn56 zk56 (by decide) rfl wd703 wd704 wd705 wd8 wd706 hd_X9_waitsWith rfl (by decide) (by decide) (Nat.le_of_ble_eq_true rfl) ⟨Nat.zero_le _, Nat.zero_le _⟩ ?_
        obtain ⟨q13, hq13, hF⟩ := bind_some hF
        refine mw_callV (c := 0) [iv q12.1] [] C dX11_waits_56 (T_X11_answer (zl Z) (zX Z) q12.1 _ _ hq13) rfl zn0 zk0 (by decide) rfl wd494 wd495 wd1325 wd1 wd496 hd_X11_answer rfl (by decide) (by decide) (Nat.le_of_ble_eq_true rfl) ⟨Nat.zero_le _, Nat.zero_le _⟩ ?_
        cases hF
        exact mw_iret C dX11_waits_59 rfl rfl
      · refine mw_if_eq_f (tgt := 38) C dX11_waits_29 (by decide) g10 c11 ?_
        refine mw_sub [0] rfl ?_
        exact T_X11_waits_32 C _ _ hF
def F_X11_waits (x1 : Int) (x2 : Int) (x3 : Int) (h : MH) : Option (Int × MH) := F_X11_waits_0 x1 x2 x3 h
theorem T_X11_waits (l : Launch) (X : XT) (x1 : Int) (x2 : Int) (x3 : Int) (h : MH) (t : (Int × MH)) (hF : F_X11_waits x1 x2 x3 h = some t) : Ct l X yX11_waits cX11_waits 4 (some .int) 5 [rfv (xd X) 0, iv x1, iv x2, iv x3] zN zG h (some (iv t.1)) zN zG t.2 0 0 := by
  refine Ct.head (by decide) (Nat.le_of_ble_eq_true rfl) (fun Z hX hl _ _ _ C => ?_)
  subst hX
  subst hl
  exact (T_X11_waits_0 C x1 x2 x3 _ _ hF)
/-! BottleLine.unwaited(II)I -/
def F_X11_unwaited_20 (h : MH) : Option (Int × MH) :=
  (F_X11_none 1 h).bind fun q1 =>
  some (q1.1, q1.2)
set_option maxRecDepth 100000 in
theorem T_X11_unwaited_20 {Z : ZT} (C : Cx Z cX11_unwaited 4 RX11 5 (some .int)) (h : MH) (t : (Int × MH)) (hF : F_X11_unwaited_20 h = some t) : MW Z (Qm Z (some (iv t.1)) zN zG t.2 0 0) 4 zN zG h 0 0 20 [(0, rfv (xd (zX Z)) 0)] [] := by
  unfold F_X11_unwaited_20 at hF
  refine mw_aload_n 0 C dX11_unwaited_20 rfl rfl ?_
  refine mw_iconst C dX11_unwaited_21 ?_
  obtain ⟨q1, hq1, hF⟩ := bind_some hF
  refine mw_callV (c := 0) [iv 1] [] C dX11_unwaited_22 (T_X11_none (zl Z) (zX Z) 1 _ _ hq1) rfl zn0 zk0 (by decide) rfl wd315 wd316 wd1311 wd1 wd317 hd_X11_none rfl (by decide) (by decide) (Nat.le_of_ble_eq_true rfl) ⟨Nat.zero_le _, Nat.zero_le _⟩ ?_
  cases hF
  exact mw_iret C dX11_unwaited_25 rfl rfl
def F_X11_unwaited_28 : Nat → Int → Int → Int → MH → Option (Int × MH)
  | 0, _, _, _, _ => none
  | n + 1, x1, x2, x3, h =>
    ck (in32 x3) <|
    if 20 < x3 then
      (F_X11_none 6 h).bind fun q3 =>
      some (q3.1, q3.2)
    else
      (F_X9_waitsWith 35 x1 x3 x2 h).bind fun q4 =>
      ck (in32 q4.1) <|
      if q4.1 ≠ 0 then
        F_X11_unwaited_28 n x1 x2 (x3 + 1) q4.2
      else
        (F_X11_answer x3 q4.2).bind fun q7 =>
        some (q7.1, q7.2)
set_option maxRecDepth 100000 in
theorem T_X11_unwaited_28 {Z : ZT} (C : Cx Z cX11_unwaited 4 RX11 5 (some .int)) : ∀ (n : Nat) (x1 : Int) (x2 : Int) (x3 : Int) (h : MH) (t : (Int × MH)), F_X11_unwaited_28 n x1 x2 x3 h = some t → MW Z (Qm Z (some (iv t.1)) zN zG t.2 0 0) 4 zN zG h 0 0 28 [(0, rfv (xd (zX Z)) 0), (1, iv x1), (2, iv x2), (3, iv x3)] [] := by
  intro n
  induction n with
  | zero =>
    intros
    rename_i hF
    exact absurd hF (by intro q; cases q)
  | succ n ih =>
    intro x1 x2 x3 h t hF
    rw [F_X11_unwaited_28] at hF
    refine mw_iload_n 3 C dX11_unwaited_28 rfl rfl ?_
    refine mw_bipush C dX11_unwaited_29 bp_20 ?_
    obtain ⟨g1, hF⟩ := ck_some hF
    rcases ite_some hF with ⟨c2, hF⟩ | ⟨c2, hF⟩
    · refine mw_icmp_gt_t (tgt := 66) C dX11_unwaited_31 (by decide) g1 (by decide) c2 ?_
      refine mw_aload_n 0 C dX11_unwaited_66 rfl rfl ?_
      refine mw_bipush C dX11_unwaited_67 bp_6 ?_
      obtain ⟨q3, hq3, hF⟩ := bind_some hF
      refine mw_callV (c := 0) [iv 6] [] C dX11_unwaited_69 (T_X11_none (zl Z) (zX Z) 6 _ _ hq3) rfl zn0 zk0 (by decide) rfl wd315 wd316 wd1311 wd1 wd317 hd_X11_none rfl (by decide) (by decide) (Nat.le_of_ble_eq_true rfl) ⟨Nat.zero_le _, Nat.zero_le _⟩ ?_
      cases hF
      exact mw_iret C dX11_unwaited_72 rfl rfl
    · refine mw_icmp_gt_f (tgt := 66) C dX11_unwaited_31 (by decide) g1 (by decide) c2 ?_
      refine mw_aload_n 0 C dX11_unwaited_34 rfl rfl ?_
      refine mw_get (k := 14) (T := TX11) (v := rfv (xd (zX Z)) 56) C dX11_unwaited_35 zn0 zk0 (by decide) rfl inX11 (by decide) wd263 rfl (zfv_r rfl zg_0_14) ?_
      refine mw_aload_n 0 C dX11_unwaited_38 rfl rfl ?_
      refine mw_get (k := 9) (T := TX11) (v := rfv (xd (zX Z)) 34) C dX11_unwaited_39 zn0 zk0 (by decide) rfl inX11 (by decide) wd258 rfl (zfv_r rfl zg_0_9) ?_
      refine mw_get (k := 0) (T := TX5) (v := rfv (xd (zX Z)) 35) C dX11_unwaited_42 zn34 zk34 (by decide) rfl inX5 (by decide) wd121 rfl (zfv_r rfl zg_34_0) ?_
      refine mw_iload_n 1 C dX11_unwaited_45 rfl rfl ?_
      refine mw_iload_n 3 C dX11_unwaited_46 rfl rfl ?_
      refine mw_iload_n 2 C dX11_unwaited_47 rfl rfl ?_
      obtain ⟨q4, hq4, hF⟩ := bind_some hF
      refine mw_callV (c := 56) [rfv (xd (zX Z)) 35, iv x1, iv x3, iv x2] [] C dX11_unwaited_48 (T_X9_waitsWith (zl Z) (zX Z) 35 x1 x3 x2 ok_35 _ _ hq4) rfl zn56 zk56 (by decide) rfl wd703 wd704 wd705 wd8 wd706 hd_X9_waitsWith rfl (by decide) (by decide) (Nat.le_of_ble_eq_true rfl) ⟨Nat.zero_le _, Nat.zero_le _⟩ ?_
      obtain ⟨g5, hF⟩ := ck_some hF
      rcases ite_some hF with ⟨c6, hF⟩ | ⟨c6, hF⟩
      · refine mw_if_ne_t (tgt := 60) C dX11_unwaited_51 (by decide) g5 c6 ?_
        refine mw_iinc 3 [(3, iv (x3 + 1)), (0, rfv (xd (zX Z)) 0), (1, iv x1), (2, iv x2)] C dX11_unwaited_60 rfl (by decide) rfl ?_
        refine mw_goto (tgt := 28) C dX11_unwaited_63 (by decide) ?_
        refine mw_sub [1, 2, 3, 0] rfl ?_
        exact ih x1 x2 (x3 + 1) _ _ hF
      · refine mw_if_ne_f (tgt := 60) C dX11_unwaited_51 (by decide) g5 c6 ?_
        refine mw_aload_n 0 C dX11_unwaited_54 rfl rfl ?_
        refine mw_iload_n 3 C dX11_unwaited_55 rfl rfl ?_
        obtain ⟨q7, hq7, hF⟩ := bind_some hF
        refine mw_callV (c := 0) [iv x3] [] C dX11_unwaited_56 (T_X11_answer (zl Z) (zX Z) x3 _ _ hq7) rfl zn0 zk0 (by decide) rfl wd494 wd495 wd1325 wd1 wd496 hd_X11_answer rfl (by decide) (by decide) (Nat.le_of_ble_eq_true rfl) ⟨Nat.zero_le _, Nat.zero_le _⟩ ?_
        cases hF
        exact mw_iret C dX11_unwaited_59 rfl rfl
def F_X11_unwaited_0 (x1 : Int) (x2 : Int) (h : MH) : Option (Int × MH) :=
  (F_X11_isMachine x1 h).bind fun q1 =>
  ck (in32 q1.1) <|
  if q1.1 = 0 then
    F_X11_unwaited_20 q1.2
  else
    ck (in32 x2) <|
    (F_X11_outside x2 1 200 q1.2).bind fun q5 =>
    ck (in32 q5.1) <|
    if q5.1 = 0 then
      F_X11_unwaited_28 20000 x1 x2 0 q5.2
    else
      F_X11_unwaited_20 q5.2
set_option maxRecDepth 100000 in
theorem T_X11_unwaited_0 {Z : ZT} (C : Cx Z cX11_unwaited 4 RX11 5 (some .int)) (x1 : Int) (x2 : Int) (h : MH) (t : (Int × MH)) (hF : F_X11_unwaited_0 x1 x2 h = some t) : MW Z (Qm Z (some (iv t.1)) zN zG t.2 0 0) 4 zN zG h 0 0 0 [(0, rfv (xd (zX Z)) 0), (1, iv x1), (2, iv x2)] [] := by
  unfold F_X11_unwaited_0 at hF
  refine mw_aload_n 0 C dX11_unwaited_0 rfl rfl ?_
  refine mw_iload_n 1 C dX11_unwaited_1 rfl rfl ?_
  obtain ⟨q1, hq1, hF⟩ := bind_some hF
  refine mw_callV (c := 0) [iv x1] [] C dX11_unwaited_2 (T_X11_isMachine (zl Z) (zX Z) x1 _ _ hq1) rfl zn0 zk0 (by decide) rfl wd559 wd560 wd1334 wd1 wd561 hd_X11_isMachine rfl (by decide) (by decide) (Nat.le_of_ble_eq_true rfl) ⟨Nat.zero_le _, Nat.zero_le _⟩ ?_
  obtain ⟨g2, hF⟩ := ck_some hF
  rcases ite_some hF with ⟨c3, hF⟩ | ⟨c3, hF⟩
  · refine mw_if_eq_t (tgt := 20) C dX11_unwaited_5 (by decide) g2 c3 ?_
    refine mw_sub [0] rfl ?_
    exact T_X11_unwaited_20 C _ _ hF
  · refine mw_if_eq_f (tgt := 20) C dX11_unwaited_5 (by decide) g2 c3 ?_
    refine mw_iload_n 2 C dX11_unwaited_8 rfl rfl ?_
    obtain ⟨g4, hF⟩ := ck_some hF
    refine mw_i2l C dX11_unwaited_9 g4 ?_
    refine mw_lconst (a := 1) C dX11_unwaited_10 lc_1 ?_
    refine mw_ldc2 (a := 200) C dX11_unwaited_11 wd681 rfl ?_
    obtain ⟨q5, hq5, hF⟩ := bind_some hF
    refine mw_callS [lvv x2, lvv 1, lvv 200] [] C dX11_unwaited_14 (T_X11_outside (zl Z) (zX Z) x2 1 200 _ _ hq5) rfl wd288 wd289 wd1 wd290 hd_X11_outside rfl (by decide) (by decide) (Nat.le_of_ble_eq_true rfl) ⟨Nat.zero_le _, Nat.zero_le _⟩ ?_
    obtain ⟨g6, hF⟩ := ck_some hF
    rcases ite_some hF with ⟨c7, hF⟩ | ⟨c7, hF⟩
    · refine mw_if_eq_t (tgt := 26) C dX11_unwaited_17 (by decide) g6 c7 ?_
      refine mw_iconst C dX11_unwaited_26 ?_
      refine mw_istore_n [(3, iv 0), (0, rfv (xd (zX Z)) 0), (1, iv x1), (2, iv x2)] C dX11_unwaited_27 rfl (by decide) rfl ?_
      refine mw_sub [1, 2, 3, 0] rfl ?_
      exact T_X11_unwaited_28 C 20000 x1 x2 0 _ _ hF
    · refine mw_if_eq_f (tgt := 26) C dX11_unwaited_17 (by decide) g6 c7 ?_
      refine mw_sub [0] rfl ?_
      exact T_X11_unwaited_20 C _ _ hF
def F_X11_unwaited (x1 : Int) (x2 : Int) (h : MH) : Option (Int × MH) := F_X11_unwaited_0 x1 x2 h
theorem T_X11_unwaited (l : Launch) (X : XT) (x1 : Int) (x2 : Int) (h : MH) (t : (Int × MH)) (hF : F_X11_unwaited x1 x2 h = some t) : Ct l X yX11_unwaited cX11_unwaited 4 (some .int) 5 [rfv (xd X) 0, iv x1, iv x2] zN zG h (some (iv t.1)) zN zG t.2 0 0 := by
  refine Ct.head (by decide) (Nat.le_of_ble_eq_true rfl) (fun Z hX hl _ _ _ C => ?_)
  subst hX
  subst hl
  exact (T_X11_unwaited_0 C x1 x2 _ _ hF)
/-! BottleLine.work()I -/
def F_X11_work_0 (h : MH) : Option (Int × MH) :=
  (F_X0_doAll 49 34 h).bind fun q1 =>
  (F_X11_answer (q1 70 1) q1).bind fun q2 =>
  some (q2.1, q2.2)
set_option maxRecDepth 100000 in
theorem T_X11_work_0 {Z : ZT} (C : Cx Z cX11_work 1 RX11 8 (some .int)) (h : MH) (t : (Int × MH)) (hF : F_X11_work_0 h = some t) : MW Z (Qm Z (some (iv t.1)) zN zG t.2 0 0) 1 zN zG h 0 0 0 [(0, rfv (xd (zX Z)) 0)] [] := by
  unfold F_X11_work_0 at hF
  refine mw_aload_n 0 C dX11_work_0 rfl rfl ?_
  refine mw_get (k := 15) (T := TX11) (v := rfv (xd (zX Z)) 70) C dX11_work_1 zn0 zk0 (by decide) rfl inX11 (by decide) wd264 rfl (zfv_r rfl zg_0_15) ?_
  refine mw_aload_n 0 C dX11_work_4 rfl rfl ?_
  refine mw_get (k := 10) (T := TX11) (v := rfv (xd (zX Z)) 49) C dX11_work_5 zn0 zk0 (by decide) rfl inX11 (by decide) wd259 rfl (zfv_r rfl zg_0_10) ?_
  refine mw_aload_n 0 C dX11_work_8 rfl rfl ?_
  refine mw_get (k := 9) (T := TX11) (v := rfv (xd (zX Z)) 34) C dX11_work_9 zn0 zk0 (by decide) rfl inX11 (by decide) wd258 rfl (zfv_r rfl zg_0_9) ?_
  obtain ⟨q1, hq1, hF⟩ := bind_some hF
  refine mw_callV (c := 70) [rfv (xd (zX Z)) 49, rfv (xd (zX Z)) 34] [] C dX11_work_12 (T_X0_doAll (zl Z) (zX Z) 49 34 ok_49 ok_34 _ _ hq1) rfl zn70 zk70 (by decide) rfl wd716 wd717 wd718 wd9 wd719 hd_X0_doAll rfl (by decide) (by decide) (Nat.le_of_ble_eq_true rfl) ⟨Nat.zero_le _, Nat.zero_le _⟩ ?_
  refine mw_aload_n 0 C dX11_work_15 rfl rfl ?_
  refine mw_aload_n 0 C dX11_work_16 rfl rfl ?_
  refine mw_get (k := 15) (T := TX11) (v := rfv (xd (zX Z)) 70) C dX11_work_17 zn0 zk0 (by decide) rfl inX11 (by decide) wd264 rfl (zfv_r rfl zg_0_15) ?_
  refine mw_get (k := 1) (T := TX0) (v := iv (q1 70 1)) C dX11_work_20 zn70 zk70 (by decide) rfl inX0 (by decide) wd200 rfl rfl ?_
  obtain ⟨q2, hq2, hF⟩ := bind_some hF
  refine mw_callV (c := 0) [iv (q1 70 1)] [] C dX11_work_23 (T_X11_answer (zl Z) (zX Z) (q1 70 1) _ _ hq2) rfl zn0 zk0 (by decide) rfl wd494 wd495 wd1325 wd1 wd496 hd_X11_answer rfl (by decide) (by decide) (Nat.le_of_ble_eq_true rfl) ⟨Nat.zero_le _, Nat.zero_le _⟩ ?_
  cases hF
  exact mw_iret C dX11_work_26 rfl rfl
def F_X11_work (h : MH) : Option (Int × MH) := F_X11_work_0 h
theorem T_X11_work (l : Launch) (X : XT) (h : MH) (t : (Int × MH)) (hF : F_X11_work h = some t) : Ct l X yX11_work cX11_work 1 (some .int) 8 [rfv (xd X) 0] zN zG h (some (iv t.1)) zN zG t.2 0 0 := by
  refine Ct.head (by decide) (Nat.le_of_ble_eq_true rfl) (fun Z hX hl _ _ _ C => ?_)
  subst hX
  subst hl
  exact (T_X11_work_0 C _ _ hF)
/-! BottleLine.worked(I)I -/
def F_X11_worked_74 (s1 : Int) (h : MH) : Option (Int × MH) :=
  (F_X11_answer s1 h).bind fun q1 =>
  some (q1.1, q1.2)
set_option maxRecDepth 100000 in
theorem T_X11_worked_74 {Z : ZT} (C : Cx Z cX11_worked 2 RX11 2 (some .int)) (s1 : Int) (h : MH) (t : (Int × MH)) (hF : F_X11_worked_74 s1 h = some t) : MW Z (Qm Z (some (iv t.1)) zN zG t.2 0 0) 2 zN zG h 0 0 74 [] [iv s1, rfv (xd (zX Z)) 0] := by
  unfold F_X11_worked_74 at hF
  obtain ⟨q1, hq1, hF⟩ := bind_some hF
  refine mw_callV (c := 0) [iv s1] [] C dX11_worked_74 (T_X11_answer (zl Z) (zX Z) s1 _ _ hq1) rfl zn0 zk0 (by decide) rfl wd494 wd495 wd1325 wd1 wd496 hd_X11_answer rfl (by decide) (by decide) (Nat.le_of_ble_eq_true rfl) ⟨Nat.zero_le _, Nat.zero_le _⟩ ?_
  cases hF
  exact mw_iret C dX11_worked_77 rfl rfl
def F_X11_worked_0 (x1 : Int) (h : MH) : Option (Int × MH) :=
  ck (in32 x1) <|
  (F_X11_outside x1 0 2 h).bind fun q2 =>
  ck (in32 q2.1) <|
  if q2.1 = 0 then
    ck (in32 (q2.2 70 0)) <|
    if (q2.2 70 0) ≠ 0 then
      if x1 ≠ 0 then
        if x1 ≠ 1 then
          F_X11_worked_74 (q2.2 70 4) q2.2
        else
          F_X11_worked_74 (q2.2 70 3) q2.2
      else
        (F_X11_answer (q2.2 70 2) q2.2).bind fun q9 =>
        some (q9.1, q9.2)
    else
      (F_X11_none 6 q2.2).bind fun q10 =>
      some (q10.1, q10.2)
  else
    (F_X11_none 1 q2.2).bind fun q11 =>
    some (q11.1, q11.2)
set_option maxRecDepth 100000 in
theorem T_X11_worked_0 {Z : ZT} (C : Cx Z cX11_worked 2 RX11 2 (some .int)) (x1 : Int) (h : MH) (t : (Int × MH)) (hF : F_X11_worked_0 x1 h = some t) : MW Z (Qm Z (some (iv t.1)) zN zG t.2 0 0) 2 zN zG h 0 0 0 [(0, rfv (xd (zX Z)) 0), (1, iv x1)] [] := by
  unfold F_X11_worked_0 at hF
  refine mw_iload_n 1 C dX11_worked_0 rfl rfl ?_
  obtain ⟨g1, hF⟩ := ck_some hF
  refine mw_i2l C dX11_worked_1 g1 ?_
  refine mw_lconst (a := 0) C dX11_worked_2 lc_0 ?_
  refine mw_ldc2 (a := 2) C dX11_worked_3 wd745 rfl ?_
  obtain ⟨q2, hq2, hF⟩ := bind_some hF
  refine mw_callS [lvv x1, lvv 0, lvv 2] [] C dX11_worked_6 (T_X11_outside (zl Z) (zX Z) x1 0 2 _ _ hq2) rfl wd288 wd289 wd1 wd290 hd_X11_outside rfl (by decide) (by decide) (Nat.le_of_ble_eq_true rfl) ⟨Nat.zero_le _, Nat.zero_le _⟩ ?_
  obtain ⟨g3, hF⟩ := ck_some hF
  rcases ite_some hF with ⟨c4, hF⟩ | ⟨c4, hF⟩
  · refine mw_if_eq_t (tgt := 18) C dX11_worked_9 (by decide) g3 c4 ?_
    refine mw_aload_n 0 C dX11_worked_18 rfl rfl ?_
    refine mw_get (k := 15) (T := TX11) (v := rfv (xd (zX Z)) 70) C dX11_worked_19 zn0 zk0 (by decide) rfl inX11 (by decide) wd264 rfl (zfv_r rfl zg_0_15) ?_
    refine mw_get (k := 0) (T := TX0) (v := iv (q2.2 70 0)) C dX11_worked_22 zn70 zk70 (by decide) rfl inX0 (by decide) wd198 rfl rfl ?_
    obtain ⟨g5, hF⟩ := ck_some hF
    rcases ite_some hF with ⟨c6, hF⟩ | ⟨c6, hF⟩
    · refine mw_if_ne_t (tgt := 35) C dX11_worked_25 (by decide) g5 c6 ?_
      refine mw_iload_n 1 C dX11_worked_35 rfl rfl ?_
      rcases ite_some hF with ⟨c7, hF⟩ | ⟨c7, hF⟩
      · refine mw_if_ne_t (tgt := 51) C dX11_worked_36 (by decide) g1 c7 ?_
        refine mw_aload_n 0 C dX11_worked_51 rfl rfl ?_
        refine mw_iload_n 1 C dX11_worked_52 rfl rfl ?_
        refine mw_iconst C dX11_worked_53 ?_
        rcases ite_some hF with ⟨c8, hF⟩ | ⟨c8, hF⟩
        · refine mw_icmp_ne_t (tgt := 67) C dX11_worked_54 (by decide) g1 (by decide) c8 ?_
          refine mw_aload_n 0 C dX11_worked_67 rfl rfl ?_
          refine mw_get (k := 15) (T := TX11) (v := rfv (xd (zX Z)) 70) C dX11_worked_68 zn0 zk0 (by decide) rfl inX11 (by decide) wd264 rfl (zfv_r rfl zg_0_15) ?_
          refine mw_get (k := 4) (T := TX0) (v := iv (q2.2 70 4)) C dX11_worked_71 zn70 zk70 (by decide) rfl inX0 (by decide) wd206 rfl rfl ?_
          refine mw_sub [] rfl ?_
          exact T_X11_worked_74 C (q2.2 70 4) _ _ hF
        · refine mw_icmp_ne_f (tgt := 67) C dX11_worked_54 (by decide) g1 (by decide) c8 ?_
          refine mw_aload_n 0 C dX11_worked_57 rfl rfl ?_
          refine mw_get (k := 15) (T := TX11) (v := rfv (xd (zX Z)) 70) C dX11_worked_58 zn0 zk0 (by decide) rfl inX11 (by decide) wd264 rfl (zfv_r rfl zg_0_15) ?_
          refine mw_get (k := 3) (T := TX0) (v := iv (q2.2 70 3)) C dX11_worked_61 zn70 zk70 (by decide) rfl inX0 (by decide) wd204 rfl rfl ?_
          refine mw_goto (tgt := 74) C dX11_worked_64 (by decide) ?_
          refine mw_sub [] rfl ?_
          exact T_X11_worked_74 C (q2.2 70 3) _ _ hF
      · refine mw_if_ne_f (tgt := 51) C dX11_worked_36 (by decide) g1 c7 ?_
        refine mw_aload_n 0 C dX11_worked_39 rfl rfl ?_
        refine mw_aload_n 0 C dX11_worked_40 rfl rfl ?_
        refine mw_get (k := 15) (T := TX11) (v := rfv (xd (zX Z)) 70) C dX11_worked_41 zn0 zk0 (by decide) rfl inX11 (by decide) wd264 rfl (zfv_r rfl zg_0_15) ?_
        refine mw_get (k := 2) (T := TX0) (v := iv (q2.2 70 2)) C dX11_worked_44 zn70 zk70 (by decide) rfl inX0 (by decide) wd202 rfl rfl ?_
        obtain ⟨q9, hq9, hF⟩ := bind_some hF
        refine mw_callV (c := 0) [iv (q2.2 70 2)] [] C dX11_worked_47 (T_X11_answer (zl Z) (zX Z) (q2.2 70 2) _ _ hq9) rfl zn0 zk0 (by decide) rfl wd494 wd495 wd1325 wd1 wd496 hd_X11_answer rfl (by decide) (by decide) (Nat.le_of_ble_eq_true rfl) ⟨Nat.zero_le _, Nat.zero_le _⟩ ?_
        cases hF
        exact mw_iret C dX11_worked_50 rfl rfl
    · refine mw_if_ne_f (tgt := 35) C dX11_worked_25 (by decide) g5 c6 ?_
      refine mw_aload_n 0 C dX11_worked_28 rfl rfl ?_
      refine mw_bipush C dX11_worked_29 bp_6 ?_
      obtain ⟨q10, hq10, hF⟩ := bind_some hF
      refine mw_callV (c := 0) [iv 6] [] C dX11_worked_31 (T_X11_none (zl Z) (zX Z) 6 _ _ hq10) rfl zn0 zk0 (by decide) rfl wd315 wd316 wd1311 wd1 wd317 hd_X11_none rfl (by decide) (by decide) (Nat.le_of_ble_eq_true rfl) ⟨Nat.zero_le _, Nat.zero_le _⟩ ?_
      cases hF
      exact mw_iret C dX11_worked_34 rfl rfl
  · refine mw_if_eq_f (tgt := 18) C dX11_worked_9 (by decide) g3 c4 ?_
    refine mw_aload_n 0 C dX11_worked_12 rfl rfl ?_
    refine mw_iconst C dX11_worked_13 ?_
    obtain ⟨q11, hq11, hF⟩ := bind_some hF
    refine mw_callV (c := 0) [iv 1] [] C dX11_worked_14 (T_X11_none (zl Z) (zX Z) 1 _ _ hq11) rfl zn0 zk0 (by decide) rfl wd315 wd316 wd1311 wd1 wd317 hd_X11_none rfl (by decide) (by decide) (Nat.le_of_ble_eq_true rfl) ⟨Nat.zero_le _, Nat.zero_le _⟩ ?_
    cases hF
    exact mw_iret C dX11_worked_17 rfl rfl
def F_X11_worked (x1 : Int) (h : MH) : Option (Int × MH) := F_X11_worked_0 x1 h
theorem T_X11_worked (l : Launch) (X : XT) (x1 : Int) (h : MH) (t : (Int × MH)) (hF : F_X11_worked x1 h = some t) : Ct l X yX11_worked cX11_worked 2 (some .int) 2 [rfv (xd X) 0, iv x1] zN zG h (some (iv t.1)) zN zG t.2 0 0 := by
  refine Ct.head (by decide) (Nat.le_of_ble_eq_true rfl) (fun Z hX hl _ _ _ C => ?_)
  subst hX
  subst hl
  exact (T_X11_worked_0 C x1 _ _ hF)
/-! BottleLine.rowLack(II)I -/
def F_X11_rowLack_0 (x1 : Int) (x2 : Int) (h : MH) : Option (Int × MH) :=
  ck (0 ≤ x1 ∧ x1 < 4) <|
  ck (in32 (h 7 x1.toNat)) <|
  if (h 7 x1.toNat) ≠ (-1) then
    ck (in32 x2) <|
    if x2 ≤ (h 7 x1.toNat) then
      some (0, h)
    else
      some (3, h)
  else
    some (2, h)
set_option maxRecDepth 100000 in
theorem T_X11_rowLack_0 {Z : ZT} (C : Cx Z cX11_rowLack 3 RX11 1 (some .int)) (x1 : Int) (x2 : Int) (h : MH) (t : (Int × MH)) (hF : F_X11_rowLack_0 x1 x2 h = some t) : MW Z (Qm Z (some (iv t.1)) zN zG t.2 0 0) 3 zN zG h 0 0 0 [(0, rfv (xd (zX Z)) 0), (1, iv x1), (2, iv x2)] [] := by
  unfold F_X11_rowLack_0 at hF
  refine mw_aload_n 0 C dX11_rowLack_0 rfl rfl ?_
  refine mw_get (k := 5) (T := TX11) (v := rfv (xd (zX Z)) 7) C dX11_rowLack_1 zn0 zk0 (by decide) rfl inX11 (by decide) wd254 rfl (zfv_r rfl zg_0_5) ?_
  refine mw_iload_n 1 C dX11_rowLack_4 rfl rfl ?_
  obtain ⟨g1, hF⟩ := ck_some hF
  refine mw_iald C dX11_rowLack_5 zn7 zk7 (by decide) g1 ?_
  refine mw_iconst C dX11_rowLack_6 ?_
  obtain ⟨g2, hF⟩ := ck_some hF
  rcases ite_some hF with ⟨c3, hF⟩ | ⟨c3, hF⟩
  · refine mw_icmp_ne_t (tgt := 12) C dX11_rowLack_7 (by decide) g2 (by decide) c3 ?_
    refine mw_iload_n 2 C dX11_rowLack_12 rfl rfl ?_
    refine mw_aload_n 0 C dX11_rowLack_13 rfl rfl ?_
    refine mw_get (k := 5) (T := TX11) (v := rfv (xd (zX Z)) 7) C dX11_rowLack_14 zn0 zk0 (by decide) rfl inX11 (by decide) wd254 rfl (zfv_r rfl zg_0_5) ?_
    refine mw_iload_n 1 C dX11_rowLack_17 rfl rfl ?_
    refine mw_iald C dX11_rowLack_18 zn7 zk7 (by decide) g1 ?_
    obtain ⟨g4, hF⟩ := ck_some hF
    rcases ite_some hF with ⟨c5, hF⟩ | ⟨c5, hF⟩
    · refine mw_icmp_le_t (tgt := 26) C dX11_rowLack_19 (by decide) g4 g2 c5 ?_
      refine mw_iconst C dX11_rowLack_26 ?_
      cases hF
      exact mw_iret C dX11_rowLack_27 rfl rfl
    · refine mw_icmp_le_f (tgt := 26) C dX11_rowLack_19 (by decide) g4 g2 c5 ?_
      refine mw_iconst C dX11_rowLack_22 ?_
      refine mw_goto (tgt := 27) C dX11_rowLack_23 (by decide) ?_
      cases hF
      exact mw_iret C dX11_rowLack_27 rfl rfl
  · refine mw_icmp_ne_f (tgt := 12) C dX11_rowLack_7 (by decide) g2 (by decide) c3 ?_
    refine mw_iconst C dX11_rowLack_10 ?_
    cases hF
    exact mw_iret C dX11_rowLack_11 rfl rfl
def F_X11_rowLack (x1 : Int) (x2 : Int) (h : MH) : Option (Int × MH) := F_X11_rowLack_0 x1 x2 h
theorem T_X11_rowLack (l : Launch) (X : XT) (x1 : Int) (x2 : Int) (h : MH) (t : (Int × MH)) (hF : F_X11_rowLack x1 x2 h = some t) : Ct l X yX11_rowLack cX11_rowLack 3 (some .int) 1 [rfv (xd X) 0, iv x1, iv x2] zN zG h (some (iv t.1)) zN zG t.2 0 0 := by
  refine Ct.head (by decide) (Nat.le_of_ble_eq_true rfl) (fun Z hX hl _ _ _ C => ?_)
  subst hX
  subst hl
  exact (T_X11_rowLack_0 C x1 x2 _ _ hF)
/-! BottleLine.rises([JII)Z -/
def F_X11_rises_25 (k2 : Nat → Int → Int → Int → MH → Option (Int × MH)) (x0 : Nat) (x1 : Int) (x2 : Int) (x3 : Int) (s0 : Int) (s1 : Int) (h : MH) : Option (Int × MH) :=
  ck (in32 x2) <|
  (F_X11_outside s0 s1 x2 h).bind fun q2 =>
  ck (in32 q2.1) <|
  if q2.1 = 0 then
    k2 x0 x1 x2 (x3 + 1) q2.2
  else
    some (0, q2.2)
set_option maxRecDepth 100000 in
theorem T_X11_rises_25 {Z : ZT} (C : Cx Z cX11_rises 4 RX11 2 (some .boolean)) (k2 : Nat → Int → Int → Int → MH → Option (Int × MH)) (hk2 : ∀ (x0 : Nat) (x1 : Int) (x2 : Int) (x3 : Int) (hk_x0 : zK x0 = (22, 60) ∧ x0 < zN ∧ 60 < 2147483648) (h : MH) (t : (Int × MH)), k2 x0 x1 x2 x3 h = some t → MW Z (Qm Z (some (iv t.1)) zN zG t.2 0 0) 4 zN zG h 0 0 2 [(0, rfv (xd (zX Z)) x0), (1, iv x1), (2, iv x2), (3, iv x3)] []) (x0 : Nat) (x1 : Int) (x2 : Int) (x3 : Int) (s0 : Int) (s1 : Int) (hk_x0 : zK x0 = (22, 60) ∧ x0 < zN ∧ 60 < 2147483648) (h : MH) (t : (Int × MH)) (hF : F_X11_rises_25 k2 x0 x1 x2 x3 s0 s1 h = some t) : MW Z (Qm Z (some (iv t.1)) zN zG t.2 0 0) 4 zN zG h 0 0 25 [(0, rfv (xd (zX Z)) x0), (1, iv x1), (2, iv x2), (3, iv x3)] [lvv s1, lvv s0] := by
  unfold F_X11_rises_25 at hF
  refine mw_iload_n 2 C dX11_rises_25 rfl rfl ?_
  obtain ⟨g1, hF⟩ := ck_some hF
  refine mw_i2l C dX11_rises_26 g1 ?_
  obtain ⟨q2, hq2, hF⟩ := bind_some hF
  refine mw_callS [lvv s0, lvv s1, lvv x2] [] C dX11_rises_27 (T_X11_outside (zl Z) (zX Z) s0 s1 x2 _ _ hq2) rfl wd288 wd289 wd1 wd290 hd_X11_outside rfl (by decide) (by decide) (Nat.le_of_ble_eq_true rfl) ⟨Nat.zero_le _, Nat.zero_le _⟩ ?_
  obtain ⟨g3, hF⟩ := ck_some hF
  rcases ite_some hF with ⟨c4, hF⟩ | ⟨c4, hF⟩
  · refine mw_if_eq_t (tgt := 35) C dX11_rises_30 (by decide) g3 c4 ?_
    refine mw_iinc 3 [(3, iv (x3 + 1)), (0, rfv (xd (zX Z)) x0), (1, iv x1), (2, iv x2)] C dX11_rises_35 rfl (by decide) rfl ?_
    refine mw_goto (tgt := 2) C dX11_rises_38 (by decide) ?_
    refine mw_sub [1, 2, 3, 0] rfl ?_
    exact hk2 x0 x1 x2 (x3 + 1) hk_x0 _ _ hF
  · refine mw_if_eq_f (tgt := 35) C dX11_rises_30 (by decide) g3 c4 ?_
    refine mw_iconst C dX11_rises_33 ?_
    cases hF
    exact mw_zret C dX11_rises_34 (Or.inl rfl) rfl rfl
def F_X11_rises_2 : Nat → Nat → Int → Int → Int → MH → Option (Int × MH)
  | 0, _, _, _, _, _ => none
  | n + 1, x0, x1, x2, x3, h =>
    ck (in32 x3) <|
    ck (in32 x1) <|
    if x1 ≤ x3 then
      some (1, h)
    else
      ck (0 ≤ x3 ∧ x3 < 60) <|
      if x3 ≠ 0 then
        ck (0 ≤ (x3 - 1) ∧ (x3 - 1) < 60) <|
        F_X11_rises_25 (F_X11_rises_2 n) x0 x1 x2 x3 (h x0 x3.toNat) ((h x0 (x3 - 1).toNat) + 1) h
      else
        F_X11_rises_25 (F_X11_rises_2 n) x0 x1 x2 x3 (h x0 x3.toNat) 0 h
set_option maxRecDepth 100000 in
theorem T_X11_rises_2 {Z : ZT} (C : Cx Z cX11_rises 4 RX11 2 (some .boolean)) : ∀ (n : Nat) (x0 : Nat) (x1 : Int) (x2 : Int) (x3 : Int) (hk_x0 : zK x0 = (22, 60) ∧ x0 < zN ∧ 60 < 2147483648) (h : MH) (t : (Int × MH)), F_X11_rises_2 n x0 x1 x2 x3 h = some t → MW Z (Qm Z (some (iv t.1)) zN zG t.2 0 0) 4 zN zG h 0 0 2 [(0, rfv (xd (zX Z)) x0), (1, iv x1), (2, iv x2), (3, iv x3)] [] := by
  intro n
  induction n with
  | zero =>
    intros
    rename_i hF
    exact absurd hF (by intro q; cases q)
  | succ n ih =>
    intro x0 x1 x2 x3 hk_x0 h t hF
    rw [F_X11_rises_2] at hF
    refine mw_iload_n 3 C dX11_rises_2 rfl rfl ?_
    refine mw_iload_n 1 C dX11_rises_3 rfl rfl ?_
    obtain ⟨g1, hF⟩ := ck_some hF
    obtain ⟨g2, hF⟩ := ck_some hF
    rcases ite_some hF with ⟨c3, hF⟩ | ⟨c3, hF⟩
    · refine mw_icmp_ge_t (tgt := 41) C dX11_rises_4 (by decide) g1 g2 c3 ?_
      refine mw_iconst C dX11_rises_41 ?_
      cases hF
      exact mw_zret C dX11_rises_42 (Or.inr rfl) rfl rfl
    · refine mw_icmp_ge_f (tgt := 41) C dX11_rises_4 (by decide) g1 g2 c3 ?_
      refine mw_aload_n 0 C dX11_rises_7 rfl rfl ?_
      refine mw_iload_n 3 C dX11_rises_8 rfl rfl ?_
      obtain ⟨g4, hF⟩ := ck_some hF
      refine mw_lald C dX11_rises_9 hk_x0.2.1 hk_x0.1 hk_x0.2.2 g4 ?_
      refine mw_iload_n 3 C dX11_rises_10 rfl rfl ?_
      rcases ite_some hF with ⟨c5, hF⟩ | ⟨c5, hF⟩
      · refine mw_if_ne_t (tgt := 18) C dX11_rises_11 (by decide) g1 c5 ?_
        refine mw_aload_n 0 C dX11_rises_18 rfl rfl ?_
        refine mw_iload_n 3 C dX11_rises_19 rfl rfl ?_
        refine mw_iconst C dX11_rises_20 ?_
        refine mw_isub C dX11_rises_21 ?_
        obtain ⟨g6, hF⟩ := ck_some hF
        refine mw_lald C dX11_rises_22 hk_x0.2.1 hk_x0.1 hk_x0.2.2 g6 ?_
        refine mw_lconst (a := 1) C dX11_rises_23 lc_1 ?_
        refine mw_ladd C dX11_rises_24 ?_
        exact T_X11_rises_25 C (F_X11_rises_2 n) ih x0 x1 x2 x3 (h x0 x3.toNat) ((h x0 (x3 - 1).toNat) + 1) hk_x0 _ _ hF
      · refine mw_if_ne_f (tgt := 18) C dX11_rises_11 (by decide) g1 c5 ?_
        refine mw_lconst (a := 0) C dX11_rises_14 lc_0 ?_
        refine mw_goto (tgt := 25) C dX11_rises_15 (by decide) ?_
        exact T_X11_rises_25 C (F_X11_rises_2 n) ih x0 x1 x2 x3 (h x0 x3.toNat) 0 hk_x0 _ _ hF
def F_X11_rises_0 (x0 : Nat) (x1 : Int) (x2 : Int) (h : MH) : Option (Int × MH) :=
  F_X11_rises_2 20000 x0 x1 x2 0 h
set_option maxRecDepth 100000 in
theorem T_X11_rises_0 {Z : ZT} (C : Cx Z cX11_rises 4 RX11 2 (some .boolean)) (x0 : Nat) (x1 : Int) (x2 : Int) (hk_x0 : zK x0 = (22, 60) ∧ x0 < zN ∧ 60 < 2147483648) (h : MH) (t : (Int × MH)) (hF : F_X11_rises_0 x0 x1 x2 h = some t) : MW Z (Qm Z (some (iv t.1)) zN zG t.2 0 0) 4 zN zG h 0 0 0 [(0, rfv (xd (zX Z)) x0), (1, iv x1), (2, iv x2)] [] := by
  unfold F_X11_rises_0 at hF
  refine mw_iconst C dX11_rises_0 ?_
  refine mw_istore_n [(3, iv 0), (0, rfv (xd (zX Z)) x0), (1, iv x1), (2, iv x2)] C dX11_rises_1 rfl (by decide) rfl ?_
  refine mw_sub [1, 2, 3, 0] rfl ?_
  exact T_X11_rises_2 C 20000 x0 x1 x2 0 hk_x0 _ _ hF
def F_X11_rises (x0 : Nat) (x1 : Int) (x2 : Int) (h : MH) : Option (Int × MH) := F_X11_rises_0 x0 x1 x2 h
theorem T_X11_rises (l : Launch) (X : XT) (x0 : Nat) (x1 : Int) (x2 : Int) (hk_x0 : zK x0 = (22, 60) ∧ x0 < zN ∧ 60 < 2147483648) (h : MH) (t : (Int × MH)) (hF : F_X11_rises x0 x1 x2 h = some t) : Ct l X yX11_rises cX11_rises 4 (some .boolean) 2 [rfv (xd X) x0, iv x1, iv x2] zN zG h (some (iv t.1)) zN zG t.2 0 0 := by
  refine Ct.head (by decide) (Nat.le_of_ble_eq_true rfl) (fun Z hX hl _ _ _ C => ?_)
  subst hX
  subst hl
  exact (T_X11_rises_0 C x0 x1 x2 hk_x0 _ _ hF)
/-! BottleLine.heads(III)I -/
def F_X11_heads_31 (h : MH) : Option (Int × MH) :=
  (F_X11_none 1 h).bind fun q1 =>
  some (q1.1, q1.2)
set_option maxRecDepth 100000 in
theorem T_X11_heads_31 {Z : ZT} (C : Cx Z cX11_heads 5 RX11 4 (some .int)) (h : MH) (t : (Int × MH)) (hF : F_X11_heads_31 h = some t) : MW Z (Qm Z (some (iv t.1)) zN zG t.2 0 0) 5 zN zG h 0 0 31 [(0, rfv (xd (zX Z)) 0)] [] := by
  unfold F_X11_heads_31 at hF
  refine mw_aload_n 0 C dX11_heads_31 rfl rfl ?_
  refine mw_iconst C dX11_heads_32 ?_
  obtain ⟨q1, hq1, hF⟩ := bind_some hF
  refine mw_callV (c := 0) [iv 1] [] C dX11_heads_33 (T_X11_none (zl Z) (zX Z) 1 _ _ hq1) rfl zn0 zk0 (by decide) rfl wd315 wd316 wd1311 wd1 wd317 hd_X11_none rfl (by decide) (by decide) (Nat.le_of_ble_eq_true rfl) ⟨Nat.zero_le _, Nat.zero_le _⟩ ?_
  cases hF
  exact mw_iret C dX11_heads_36 rfl rfl
def F_X11_heads_0 (x1 : Int) (x2 : Int) (x3 : Int) (h : MH) : Option (Int × MH) :=
  ck (in32 x1) <|
  (F_X11_outside x1 1 9999 h).bind fun q2 =>
  ck (in32 q2.1) <|
  if q2.1 ≠ 0 then
    F_X11_heads_31 q2.2
  else
    (F_X11_isTray x2 q2.2).bind fun q5 =>
    ck (in32 q5.1) <|
    if q5.1 = 0 then
      F_X11_heads_31 q5.2
    else
      ck (in32 x3) <|
      (F_X11_outside x3 0 60 q5.2).bind fun q9 =>
      ck (in32 q9.1) <|
      if q9.1 = 0 then
        (F_X11_rowLack x2 x3 q9.2).bind fun q12 =>
        ck (in32 q12.1) <|
        if q12.1 = 0 then
          ck (0 ≤ x2 ∧ x2 < 4) <|
          (F_X11_rises (2 + x2.toNat) x3 (x1 - 1) q12.2).bind fun q16 =>
          ck (in32 q16.1) <|
          if q16.1 ≠ 0 then
            (F_X2_finds 34 (2 + x2.toNat) x3 x1 q16.2).bind fun q19 =>
            ck (in32 q19.1) <|
            if q19.1 = 0 then
              (F_X11_none 6 q19.2).bind fun q22 =>
              some (q22.1, q22.2)
            else
              (F_X11_answer (q19.2 73 1) q19.2).bind fun q23 =>
              some (q23.1, q23.2)
          else
            (F_X11_none 5 q16.2).bind fun q24 =>
            some (q24.1, q24.2)
        else
          (F_X11_none q12.1 q12.2).bind fun q25 =>
          some (q25.1, q25.2)
      else
        F_X11_heads_31 q9.2
set_option maxRecDepth 100000 in
theorem T_X11_heads_0 {Z : ZT} (C : Cx Z cX11_heads 5 RX11 4 (some .int)) (x1 : Int) (x2 : Int) (x3 : Int) (h : MH) (t : (Int × MH)) (hF : F_X11_heads_0 x1 x2 x3 h = some t) : MW Z (Qm Z (some (iv t.1)) zN zG t.2 0 0) 5 zN zG h 0 0 0 [(0, rfv (xd (zX Z)) 0), (1, iv x1), (2, iv x2), (3, iv x3)] [] := by
  unfold F_X11_heads_0 at hF
  refine mw_iload_n 1 C dX11_heads_0 rfl rfl ?_
  obtain ⟨g1, hF⟩ := ck_some hF
  refine mw_i2l C dX11_heads_1 g1 ?_
  refine mw_lconst (a := 1) C dX11_heads_2 lc_1 ?_
  refine mw_ldc2 (a := 9999) C dX11_heads_3 wd589 rfl ?_
  obtain ⟨q2, hq2, hF⟩ := bind_some hF
  refine mw_callS [lvv x1, lvv 1, lvv 9999] [] C dX11_heads_6 (T_X11_outside (zl Z) (zX Z) x1 1 9999 _ _ hq2) rfl wd288 wd289 wd1 wd290 hd_X11_outside rfl (by decide) (by decide) (Nat.le_of_ble_eq_true rfl) ⟨Nat.zero_le _, Nat.zero_le _⟩ ?_
  obtain ⟨g3, hF⟩ := ck_some hF
  rcases ite_some hF with ⟨c4, hF⟩ | ⟨c4, hF⟩
  · refine mw_if_ne_t (tgt := 31) C dX11_heads_9 (by decide) g3 c4 ?_
    refine mw_sub [0] rfl ?_
    exact T_X11_heads_31 C _ _ hF
  · refine mw_if_ne_f (tgt := 31) C dX11_heads_9 (by decide) g3 c4 ?_
    refine mw_iload_n 2 C dX11_heads_12 rfl rfl ?_
    obtain ⟨q5, hq5, hF⟩ := bind_some hF
    refine mw_callS [iv x2] [] C dX11_heads_13 (T_X11_isTray (zl Z) (zX Z) x2 _ _ hq5) rfl wd284 wd285 wd1 wd286 hd_X11_isTray rfl (by decide) (by decide) (Nat.le_of_ble_eq_true rfl) ⟨Nat.zero_le _, Nat.zero_le _⟩ ?_
    obtain ⟨g6, hF⟩ := ck_some hF
    rcases ite_some hF with ⟨c7, hF⟩ | ⟨c7, hF⟩
    · refine mw_if_eq_t (tgt := 31) C dX11_heads_16 (by decide) g6 c7 ?_
      refine mw_sub [0] rfl ?_
      exact T_X11_heads_31 C _ _ hF
    · refine mw_if_eq_f (tgt := 31) C dX11_heads_16 (by decide) g6 c7 ?_
      refine mw_iload_n 3 C dX11_heads_19 rfl rfl ?_
      obtain ⟨g8, hF⟩ := ck_some hF
      refine mw_i2l C dX11_heads_20 g8 ?_
      refine mw_lconst (a := 0) C dX11_heads_21 lc_0 ?_
      refine mw_ldc2 (a := 60) C dX11_heads_22 wd291 rfl ?_
      obtain ⟨q9, hq9, hF⟩ := bind_some hF
      refine mw_callS [lvv x3, lvv 0, lvv 60] [] C dX11_heads_25 (T_X11_outside (zl Z) (zX Z) x3 0 60 _ _ hq9) rfl wd288 wd289 wd1 wd290 hd_X11_outside rfl (by decide) (by decide) (Nat.le_of_ble_eq_true rfl) ⟨Nat.zero_le _, Nat.zero_le _⟩ ?_
      obtain ⟨g10, hF⟩ := ck_some hF
      rcases ite_some hF with ⟨c11, hF⟩ | ⟨c11, hF⟩
      · refine mw_if_eq_t (tgt := 37) C dX11_heads_28 (by decide) g10 c11 ?_
        refine mw_aload_n 0 C dX11_heads_37 rfl rfl ?_
        refine mw_iload_n 2 C dX11_heads_38 rfl rfl ?_
        refine mw_iload_n 3 C dX11_heads_39 rfl rfl ?_
        obtain ⟨q12, hq12, hF⟩ := bind_some hF
        refine mw_callV (c := 0) [iv x2, iv x3] [] C dX11_heads_40 (T_X11_rowLack (zl Z) (zX Z) x2 x3 _ _ hq12) rfl zn0 zk0 (by decide) rfl wd750 wd751 wd1349 wd1 wd752 hd_X11_rowLack rfl (by decide) (by decide) (Nat.le_of_ble_eq_true rfl) ⟨Nat.zero_le _, Nat.zero_le _⟩ ?_
        refine mw_istore [(4, iv q12.1), (0, rfv (xd (zX Z)) 0), (1, iv x1), (2, iv x2), (3, iv x3)] C dX11_heads_43 (by decide) rfl ?_
        refine mw_iload 0 C dX11_heads_45 rfl ?_
        obtain ⟨g13, hF⟩ := ck_some hF
        rcases ite_some hF with ⟨c14, hF⟩ | ⟨c14, hF⟩
        · refine mw_if_eq_t (tgt := 57) C dX11_heads_47 (by decide) g13 c14 ?_
          refine mw_aload_n 1 C dX11_heads_57 rfl rfl ?_
          refine mw_get (k := 3) (T := TX11) (v := rfv (xd (zX Z)) 1) C dX11_heads_58 zn0 zk0 (by decide) rfl inX11 (by decide) wd252 rfl (zfv_r rfl zg_0_3) ?_
          refine mw_iload_n 3 C dX11_heads_61 rfl rfl ?_
          obtain ⟨g15, hF⟩ := ck_some hF
          refine mw_aald (t := 6) (c2 := (2 + x2.toNat)) (ty := .array .long) C dX11_heads_62 zn1 zk1 (by decide) (fun _ => rfl) rfl (by decide) g15 (zg_26 _) ?_
          refine mw_iload_n 4 C dX11_heads_63 rfl rfl ?_
          refine mw_iload_n 2 C dX11_heads_64 rfl rfl ?_
          refine mw_iconst C dX11_heads_65 ?_
          refine mw_isub C dX11_heads_66 ?_
          obtain ⟨q16, hq16, hF⟩ := bind_some hF
          refine mw_callS [rfv (xd (zX Z)) (2 + x2.toNat), iv x3, iv (x1 - 1)] [] C dX11_heads_67 (T_X11_rises (zl Z) (zX Z) (2 + x2.toNat) x3 (x1 - 1) (ok_row _ (ix_lt g15)) _ _ hq16) rfl wd753 wd754 wd1 wd755 hd_X11_rises rfl (by decide) (by decide) (Nat.le_of_ble_eq_true rfl) ⟨Nat.zero_le _, Nat.zero_le _⟩ ?_
          obtain ⟨g17, hF⟩ := ck_some hF
          rcases ite_some hF with ⟨c18, hF⟩ | ⟨c18, hF⟩
          · refine mw_if_ne_t (tgt := 79) C dX11_heads_70 (by decide) g17 c18 ?_
            refine mw_aload_n 1 C dX11_heads_79 rfl rfl ?_
            refine mw_get (k := 16) (T := TX11) (v := rfv (xd (zX Z)) 73) C dX11_heads_80 zn0 zk0 (by decide) rfl inX11 (by decide) wd265 rfl (zfv_r rfl zg_0_16) ?_
            refine mw_aload_n 1 C dX11_heads_83 rfl rfl ?_
            refine mw_get (k := 9) (T := TX11) (v := rfv (xd (zX Z)) 34) C dX11_heads_84 zn0 zk0 (by decide) rfl inX11 (by decide) wd258 rfl (zfv_r rfl zg_0_9) ?_
            refine mw_aload_n 1 C dX11_heads_87 rfl rfl ?_
            refine mw_get (k := 3) (T := TX11) (v := rfv (xd (zX Z)) 1) C dX11_heads_88 zn0 zk0 (by decide) rfl inX11 (by decide) wd252 rfl (zfv_r rfl zg_0_3) ?_
            refine mw_iload_n 3 C dX11_heads_91 rfl rfl ?_
            refine mw_aald (t := 6) (c2 := (2 + x2.toNat)) (ty := .array .long) C dX11_heads_92 zn1 zk1 (by decide) (fun _ => rfl) rfl (by decide) g15 (zg_26 _) ?_
            refine mw_iload_n 4 C dX11_heads_93 rfl rfl ?_
            refine mw_iload_n 2 C dX11_heads_94 rfl rfl ?_
            obtain ⟨q19, hq19, hF⟩ := bind_some hF
            refine mw_callV (c := 73) [rfv (xd (zX Z)) 34, rfv (xd (zX Z)) (2 + x2.toNat), iv x3, iv x1] [] C dX11_heads_95 (T_X2_finds (zl Z) (zX Z) 34 (2 + x2.toNat) x3 x1 ok_34 (ok_row _ (ix_lt g15)) _ _ hq19) rfl zn73 zk73 (by decide) rfl wd756 wd757 wd758 wd10 wd759 hd_X2_finds rfl (by decide) (by decide) (Nat.le_of_ble_eq_true rfl) ⟨Nat.zero_le _, Nat.zero_le _⟩ ?_
            obtain ⟨g20, hF⟩ := ck_some hF
            rcases ite_some hF with ⟨c21, hF⟩ | ⟨c21, hF⟩
            · refine mw_if_eq_t (tgt := 115) C dX11_heads_98 (by decide) g20 c21 ?_
              refine mw_aload_n 1 C dX11_heads_115 rfl rfl ?_
              refine mw_bipush C dX11_heads_116 bp_6 ?_
              obtain ⟨q22, hq22, hF⟩ := bind_some hF
              refine mw_callV (c := 0) [iv 6] [] C dX11_heads_118 (T_X11_none (zl Z) (zX Z) 6 _ _ hq22) rfl zn0 zk0 (by decide) rfl wd315 wd316 wd1311 wd1 wd317 hd_X11_none rfl (by decide) (by decide) (Nat.le_of_ble_eq_true rfl) ⟨Nat.zero_le _, Nat.zero_le _⟩ ?_
              cases hF
              exact mw_iret C dX11_heads_121 rfl rfl
            · refine mw_if_eq_f (tgt := 115) C dX11_heads_98 (by decide) g20 c21 ?_
              refine mw_aload_n 1 C dX11_heads_101 rfl rfl ?_
              refine mw_aload_n 1 C dX11_heads_102 rfl rfl ?_
              refine mw_get (k := 16) (T := TX11) (v := rfv (xd (zX Z)) 73) C dX11_heads_103 zn0 zk0 (by decide) rfl inX11 (by decide) wd265 rfl (zfv_r rfl zg_0_16) ?_
              refine mw_get (k := 1) (T := TX2) (v := iv (q19.2 73 1)) C dX11_heads_106 zn73 zk73 (by decide) rfl inX2 (by decide) wd218 rfl rfl ?_
              obtain ⟨q23, hq23, hF⟩ := bind_some hF
              refine mw_callV (c := 0) [iv (q19.2 73 1)] [] C dX11_heads_109 (T_X11_answer (zl Z) (zX Z) (q19.2 73 1) _ _ hq23) rfl zn0 zk0 (by decide) rfl wd494 wd495 wd1325 wd1 wd496 hd_X11_answer rfl (by decide) (by decide) (Nat.le_of_ble_eq_true rfl) ⟨Nat.zero_le _, Nat.zero_le _⟩ ?_
              refine mw_goto (tgt := 121) C dX11_heads_112 (by decide) ?_
              cases hF
              exact mw_iret C dX11_heads_121 rfl rfl
          · refine mw_if_ne_f (tgt := 79) C dX11_heads_70 (by decide) g17 c18 ?_
            refine mw_aload_n 1 C dX11_heads_73 rfl rfl ?_
            refine mw_iconst C dX11_heads_74 ?_
            obtain ⟨q24, hq24, hF⟩ := bind_some hF
            refine mw_callV (c := 0) [iv 5] [] C dX11_heads_75 (T_X11_none (zl Z) (zX Z) 5 _ _ hq24) rfl zn0 zk0 (by decide) rfl wd315 wd316 wd1311 wd1 wd317 hd_X11_none rfl (by decide) (by decide) (Nat.le_of_ble_eq_true rfl) ⟨Nat.zero_le _, Nat.zero_le _⟩ ?_
            cases hF
            exact mw_iret C dX11_heads_78 rfl rfl
        · refine mw_if_eq_f (tgt := 57) C dX11_heads_47 (by decide) g13 c14 ?_
          refine mw_aload_n 1 C dX11_heads_50 rfl rfl ?_
          refine mw_iload 0 C dX11_heads_51 rfl ?_
          obtain ⟨q25, hq25, hF⟩ := bind_some hF
          refine mw_callV (c := 0) [iv q12.1] [] C dX11_heads_53 (T_X11_none (zl Z) (zX Z) q12.1 _ _ hq25) rfl zn0 zk0 (by decide) rfl wd315 wd316 wd1311 wd1 wd317 hd_X11_none rfl (by decide) (by decide) (Nat.le_of_ble_eq_true rfl) ⟨Nat.zero_le _, Nat.zero_le _⟩ ?_
          cases hF
          exact mw_iret C dX11_heads_56 rfl rfl
      · refine mw_if_eq_f (tgt := 37) C dX11_heads_28 (by decide) g10 c11 ?_
        refine mw_sub [0] rfl ?_
        exact T_X11_heads_31 C _ _ hF
def F_X11_heads (x1 : Int) (x2 : Int) (x3 : Int) (h : MH) : Option (Int × MH) := F_X11_heads_0 x1 x2 x3 h
theorem T_X11_heads (l : Launch) (X : XT) (x1 : Int) (x2 : Int) (x3 : Int) (h : MH) (t : (Int × MH)) (hF : F_X11_heads x1 x2 x3 h = some t) : Ct l X yX11_heads cX11_heads 5 (some .int) 4 [rfv (xd X) 0, iv x1, iv x2, iv x3] zN zG h (some (iv t.1)) zN zG t.2 0 0 := by
  refine Ct.head (by decide) (Nat.le_of_ble_eq_true rfl) (fun Z hX hl _ _ _ C => ?_)
  subst hX
  subst hl
  exact (T_X11_heads_0 C x1 x2 x3 _ _ hF)
/-! BottleLine.head(I)I -/
def F_X11_head_43 (h : MH) : Option (Int × MH) :=
  (F_X11_none 6 h).bind fun q1 =>
  some (q1.1, q1.2)
set_option maxRecDepth 100000 in
theorem T_X11_head_43 {Z : ZT} (C : Cx Z cX11_head 3 RX11 2 (some .int)) (h : MH) (t : (Int × MH)) (hF : F_X11_head_43 h = some t) : MW Z (Qm Z (some (iv t.1)) zN zG t.2 0 0) 3 zN zG h 0 0 43 [(0, rfv (xd (zX Z)) 0)] [] := by
  unfold F_X11_head_43 at hF
  refine mw_aload_n 0 C dX11_head_43 rfl rfl ?_
  refine mw_bipush C dX11_head_44 bp_6 ?_
  obtain ⟨q1, hq1, hF⟩ := bind_some hF
  refine mw_callV (c := 0) [iv 6] [] C dX11_head_46 (T_X11_none (zl Z) (zX Z) 6 _ _ hq1) rfl zn0 zk0 (by decide) rfl wd315 wd316 wd1311 wd1 wd317 hd_X11_none rfl (by decide) (by decide) (Nat.le_of_ble_eq_true rfl) ⟨Nat.zero_le _, Nat.zero_le _⟩ ?_
  cases hF
  exact mw_iret C dX11_head_49 rfl rfl
def F_X11_head_108 (s1 : Int) (h : MH) : Option (Int × MH) :=
  (F_X11_answer s1 h).bind fun q1 =>
  some (q1.1, q1.2)
set_option maxRecDepth 100000 in
theorem T_X11_head_108 {Z : ZT} (C : Cx Z cX11_head 3 RX11 2 (some .int)) (s1 : Int) (h : MH) (t : (Int × MH)) (hF : F_X11_head_108 s1 h = some t) : MW Z (Qm Z (some (iv t.1)) zN zG t.2 0 0) 3 zN zG h 0 0 108 [] [iv s1, rfv (xd (zX Z)) 0] := by
  unfold F_X11_head_108 at hF
  obtain ⟨q1, hq1, hF⟩ := bind_some hF
  refine mw_callV (c := 0) [iv s1] [] C dX11_head_108 (T_X11_answer (zl Z) (zX Z) s1 _ _ hq1) rfl zn0 zk0 (by decide) rfl wd494 wd495 wd1325 wd1 wd496 hd_X11_answer rfl (by decide) (by decide) (Nat.le_of_ble_eq_true rfl) ⟨Nat.zero_le _, Nat.zero_le _⟩ ?_
  cases hF
  exact mw_iret C dX11_head_111 rfl rfl
def F_X11_head_88 (x1 : Int) (s0 : Int) (h : MH) : Option (Int × MH) :=
  ck (in32 x1) <|
  ck (in32 (Int.tmod x1 2)) <|
  if (Int.tmod x1 2) ≠ 1 then
    ck (in32 s0) <|
    F_X11_head_108 (Int.tmod s0 24) h
  else
    ck (in32 s0) <|
    F_X11_head_108 (Int.tdiv s0 24) h
set_option maxRecDepth 100000 in
theorem T_X11_head_88 {Z : ZT} (C : Cx Z cX11_head 3 RX11 2 (some .int)) (x1 : Int) (s0 : Int) (h : MH) (t : (Int × MH)) (hF : F_X11_head_88 x1 s0 h = some t) : MW Z (Qm Z (some (iv t.1)) zN zG t.2 0 0) 3 zN zG h 0 0 88 [(0, rfv (xd (zX Z)) 0), (1, iv x1)] [iv s0] := by
  unfold F_X11_head_88 at hF
  refine mw_istore_n [(2, iv s0), (0, rfv (xd (zX Z)) 0), (1, iv x1)] C dX11_head_88 rfl (by decide) rfl ?_
  refine mw_aload_n 1 C dX11_head_89 rfl rfl ?_
  refine mw_iload_n 2 C dX11_head_90 rfl rfl ?_
  refine mw_iconst C dX11_head_91 ?_
  obtain ⟨g1, hF⟩ := ck_some hF
  refine mw_irem C dX11_head_92 g1 (by decide) (by decide) ?_
  refine mw_iconst C dX11_head_93 ?_
  obtain ⟨g2, hF⟩ := ck_some hF
  rcases ite_some hF with ⟨c3, hF⟩ | ⟨c3, hF⟩
  · refine mw_icmp_ne_t (tgt := 104) C dX11_head_94 (by decide) g2 (by decide) c3 ?_
    refine mw_iload_n 0 C dX11_head_104 rfl rfl ?_
    refine mw_bipush C dX11_head_105 bp_24 ?_
    obtain ⟨g4, hF⟩ := ck_some hF
    refine mw_irem C dX11_head_107 g4 (by decide) (by decide) ?_
    refine mw_sub [] rfl ?_
    exact T_X11_head_108 C (Int.tmod s0 24) _ _ hF
  · refine mw_icmp_ne_f (tgt := 104) C dX11_head_94 (by decide) g2 (by decide) c3 ?_
    refine mw_iload_n 0 C dX11_head_97 rfl rfl ?_
    refine mw_bipush C dX11_head_98 bp_24 ?_
    obtain ⟨g5, hF⟩ := ck_some hF
    refine mw_idiv C dX11_head_100 g5 (by decide) (by decide) ?_
    refine mw_goto (tgt := 108) C dX11_head_101 (by decide) ?_
    refine mw_sub [] rfl ?_
    exact T_X11_head_108 C (Int.tdiv s0 24) _ _ hF
def F_X11_head_0 (x1 : Int) (h : MH) : Option (Int × MH) :=
  ck (in32 x1) <|
  (F_X11_outside x1 0 4 h).bind fun q2 =>
  ck (in32 q2.1) <|
  if q2.1 = 0 then
    ck (in32 (q2.2 73 2)) <|
    if (q2.2 73 2) = 0 then
      F_X11_head_43 q2.2
    else
      ck (in32 (x1 + 1)) <|
      ck (in32 (Int.tdiv (x1 + 1) 2)) <|
      ck (in32 (q2.2 73 1)) <|
      if (Int.tdiv (x1 + 1) 2) ≤ (q2.2 73 1) then
        if x1 ≠ 0 then
          if 2 < x1 then
            F_X11_head_88 x1 (q2.2 73 4) q2.2
          else
            F_X11_head_88 x1 (q2.2 73 3) q2.2
        else
          (F_X11_answer (q2.2 73 2) q2.2).bind fun q13 =>
          some (q13.1, q13.2)
      else
        F_X11_head_43 q2.2
  else
    (F_X11_none 1 q2.2).bind fun q14 =>
    some (q14.1, q14.2)
set_option maxRecDepth 100000 in
theorem T_X11_head_0 {Z : ZT} (C : Cx Z cX11_head 3 RX11 2 (some .int)) (x1 : Int) (h : MH) (t : (Int × MH)) (hF : F_X11_head_0 x1 h = some t) : MW Z (Qm Z (some (iv t.1)) zN zG t.2 0 0) 3 zN zG h 0 0 0 [(0, rfv (xd (zX Z)) 0), (1, iv x1)] [] := by
  unfold F_X11_head_0 at hF
  refine mw_iload_n 1 C dX11_head_0 rfl rfl ?_
  obtain ⟨g1, hF⟩ := ck_some hF
  refine mw_i2l C dX11_head_1 g1 ?_
  refine mw_lconst (a := 0) C dX11_head_2 lc_0 ?_
  refine mw_ldc2 (a := 4) C dX11_head_3 wd786 rfl ?_
  obtain ⟨q2, hq2, hF⟩ := bind_some hF
  refine mw_callS [lvv x1, lvv 0, lvv 4] [] C dX11_head_6 (T_X11_outside (zl Z) (zX Z) x1 0 4 _ _ hq2) rfl wd288 wd289 wd1 wd290 hd_X11_outside rfl (by decide) (by decide) (Nat.le_of_ble_eq_true rfl) ⟨Nat.zero_le _, Nat.zero_le _⟩ ?_
  obtain ⟨g3, hF⟩ := ck_some hF
  rcases ite_some hF with ⟨c4, hF⟩ | ⟨c4, hF⟩
  · refine mw_if_eq_t (tgt := 18) C dX11_head_9 (by decide) g3 c4 ?_
    refine mw_aload_n 0 C dX11_head_18 rfl rfl ?_
    refine mw_get (k := 16) (T := TX11) (v := rfv (xd (zX Z)) 73) C dX11_head_19 zn0 zk0 (by decide) rfl inX11 (by decide) wd265 rfl (zfv_r rfl zg_0_16) ?_
    refine mw_get (k := 2) (T := TX2) (v := iv (q2.2 73 2)) C dX11_head_22 zn73 zk73 (by decide) rfl inX2 (by decide) wd220 rfl rfl ?_
    obtain ⟨g5, hF⟩ := ck_some hF
    rcases ite_some hF with ⟨c6, hF⟩ | ⟨c6, hF⟩
    · refine mw_if_eq_t (tgt := 43) C dX11_head_25 (by decide) g5 c6 ?_
      refine mw_sub [0] rfl ?_
      exact T_X11_head_43 C _ _ hF
    · refine mw_if_eq_f (tgt := 43) C dX11_head_25 (by decide) g5 c6 ?_
      refine mw_iload_n 1 C dX11_head_28 rfl rfl ?_
      refine mw_iconst C dX11_head_29 ?_
      refine mw_iadd C dX11_head_30 ?_
      refine mw_iconst C dX11_head_31 ?_
      obtain ⟨g7, hF⟩ := ck_some hF
      refine mw_idiv C dX11_head_32 g7 (by decide) (by decide) ?_
      refine mw_aload_n 0 C dX11_head_33 rfl rfl ?_
      refine mw_get (k := 16) (T := TX11) (v := rfv (xd (zX Z)) 73) C dX11_head_34 zn0 zk0 (by decide) rfl inX11 (by decide) wd265 rfl (zfv_r rfl zg_0_16) ?_
      refine mw_get (k := 1) (T := TX2) (v := iv (q2.2 73 1)) C dX11_head_37 zn73 zk73 (by decide) rfl inX2 (by decide) wd218 rfl rfl ?_
      obtain ⟨g8, hF⟩ := ck_some hF
      obtain ⟨g9, hF⟩ := ck_some hF
      rcases ite_some hF with ⟨c10, hF⟩ | ⟨c10, hF⟩
      · refine mw_icmp_le_t (tgt := 50) C dX11_head_40 (by decide) g8 g9 c10 ?_
        refine mw_iload_n 1 C dX11_head_50 rfl rfl ?_
        rcases ite_some hF with ⟨c11, hF⟩ | ⟨c11, hF⟩
        · refine mw_if_ne_t (tgt := 66) C dX11_head_51 (by decide) g1 c11 ?_
          refine mw_iload_n 1 C dX11_head_66 rfl rfl ?_
          refine mw_iconst C dX11_head_67 ?_
          rcases ite_some hF with ⟨c12, hF⟩ | ⟨c12, hF⟩
          · refine mw_icmp_gt_t (tgt := 81) C dX11_head_68 (by decide) g1 (by decide) c12 ?_
            refine mw_aload_n 0 C dX11_head_81 rfl rfl ?_
            refine mw_get (k := 16) (T := TX11) (v := rfv (xd (zX Z)) 73) C dX11_head_82 zn0 zk0 (by decide) rfl inX11 (by decide) wd265 rfl (zfv_r rfl zg_0_16) ?_
            refine mw_get (k := 4) (T := TX2) (v := iv (q2.2 73 4)) C dX11_head_85 zn73 zk73 (by decide) rfl inX2 (by decide) wd224 rfl rfl ?_
            exact T_X11_head_88 C x1 (q2.2 73 4) _ _ hF
          · refine mw_icmp_gt_f (tgt := 81) C dX11_head_68 (by decide) g1 (by decide) c12 ?_
            refine mw_aload_n 0 C dX11_head_71 rfl rfl ?_
            refine mw_get (k := 16) (T := TX11) (v := rfv (xd (zX Z)) 73) C dX11_head_72 zn0 zk0 (by decide) rfl inX11 (by decide) wd265 rfl (zfv_r rfl zg_0_16) ?_
            refine mw_get (k := 3) (T := TX2) (v := iv (q2.2 73 3)) C dX11_head_75 zn73 zk73 (by decide) rfl inX2 (by decide) wd222 rfl rfl ?_
            refine mw_goto (tgt := 88) C dX11_head_78 (by decide) ?_
            exact T_X11_head_88 C x1 (q2.2 73 3) _ _ hF
        · refine mw_if_ne_f (tgt := 66) C dX11_head_51 (by decide) g1 c11 ?_
          refine mw_aload_n 0 C dX11_head_54 rfl rfl ?_
          refine mw_aload_n 0 C dX11_head_55 rfl rfl ?_
          refine mw_get (k := 16) (T := TX11) (v := rfv (xd (zX Z)) 73) C dX11_head_56 zn0 zk0 (by decide) rfl inX11 (by decide) wd265 rfl (zfv_r rfl zg_0_16) ?_
          refine mw_get (k := 2) (T := TX2) (v := iv (q2.2 73 2)) C dX11_head_59 zn73 zk73 (by decide) rfl inX2 (by decide) wd220 rfl rfl ?_
          obtain ⟨q13, hq13, hF⟩ := bind_some hF
          refine mw_callV (c := 0) [iv (q2.2 73 2)] [] C dX11_head_62 (T_X11_answer (zl Z) (zX Z) (q2.2 73 2) _ _ hq13) rfl zn0 zk0 (by decide) rfl wd494 wd495 wd1325 wd1 wd496 hd_X11_answer rfl (by decide) (by decide) (Nat.le_of_ble_eq_true rfl) ⟨Nat.zero_le _, Nat.zero_le _⟩ ?_
          cases hF
          exact mw_iret C dX11_head_65 rfl rfl
      · refine mw_icmp_le_f (tgt := 50) C dX11_head_40 (by decide) g8 g9 c10 ?_
        refine mw_sub [0] rfl ?_
        exact T_X11_head_43 C _ _ hF
  · refine mw_if_eq_f (tgt := 18) C dX11_head_9 (by decide) g3 c4 ?_
    refine mw_aload_n 0 C dX11_head_12 rfl rfl ?_
    refine mw_iconst C dX11_head_13 ?_
    obtain ⟨q14, hq14, hF⟩ := bind_some hF
    refine mw_callV (c := 0) [iv 1] [] C dX11_head_14 (T_X11_none (zl Z) (zX Z) 1 _ _ hq14) rfl zn0 zk0 (by decide) rfl wd315 wd316 wd1311 wd1 wd317 hd_X11_none rfl (by decide) (by decide) (Nat.le_of_ble_eq_true rfl) ⟨Nat.zero_le _, Nat.zero_le _⟩ ?_
    cases hF
    exact mw_iret C dX11_head_17 rfl rfl
def F_X11_head (x1 : Int) (h : MH) : Option (Int × MH) := F_X11_head_0 x1 h
theorem T_X11_head (l : Launch) (X : XT) (x1 : Int) (h : MH) (t : (Int × MH)) (hF : F_X11_head x1 h = some t) : Ct l X yX11_head cX11_head 3 (some .int) 2 [rfv (xd X) 0, iv x1] zN zG h (some (iv t.1)) zN zG t.2 0 0 := by
  refine Ct.head (by decide) (Nat.le_of_ble_eq_true rfl) (fun Z hX hl _ _ _ C => ?_)
  subst hX
  subst hl
  exact (T_X11_head_0 C x1 _ _ hF)
/-! BottleLine.allWithin([JIJJ)Z -/
def F_X11_allWithin_3 : Nat → Nat → Int → Int → Int → Int → MH → Option (Int × MH)
  | 0, _, _, _, _, _, _ => none
  | n + 1, x0, x1, x2, x4, x6, h =>
    ck (in32 x6) <|
    ck (in32 x1) <|
    if x1 ≤ x6 then
      some (1, h)
    else
      ck (0 ≤ x6 ∧ x6 < 60) <|
      (F_X11_outside (h x0 x6.toNat) x2 x4 h).bind fun q5 =>
      ck (in32 q5.1) <|
      if q5.1 = 0 then
        F_X11_allWithin_3 n x0 x1 x2 x4 (x6 + 1) q5.2
      else
        some (0, q5.2)
set_option maxRecDepth 100000 in
theorem T_X11_allWithin_3 {Z : ZT} (C : Cx Z cX11_allWithin 7 RX11 2 (some .boolean)) : ∀ (n : Nat) (x0 : Nat) (x1 : Int) (x2 : Int) (x4 : Int) (x6 : Int) (hk_x0 : zK x0 = (22, 60) ∧ x0 < zN ∧ 60 < 2147483648) (h : MH) (t : (Int × MH)), F_X11_allWithin_3 n x0 x1 x2 x4 x6 h = some t → MW Z (Qm Z (some (iv t.1)) zN zG t.2 0 0) 7 zN zG h 0 0 3 [(0, rfv (xd (zX Z)) x0), (1, iv x1), (2, lvv x2), (4, lvv x4), (6, iv x6)] [] := by
  intro n
  induction n with
  | zero =>
    intros
    rename_i hF
    exact absurd hF (by intro q; cases q)
  | succ n ih =>
    intro x0 x1 x2 x4 x6 hk_x0 h t hF
    rw [F_X11_allWithin_3] at hF
    refine mw_iload 4 C dX11_allWithin_3 rfl ?_
    refine mw_iload_n 1 C dX11_allWithin_5 rfl rfl ?_
    obtain ⟨g1, hF⟩ := ck_some hF
    obtain ⟨g2, hF⟩ := ck_some hF
    rcases ite_some hF with ⟨c3, hF⟩ | ⟨c3, hF⟩
    · refine mw_icmp_ge_t (tgt := 30) C dX11_allWithin_6 (by decide) g1 g2 c3 ?_
      refine mw_iconst C dX11_allWithin_30 ?_
      cases hF
      exact mw_zret C dX11_allWithin_31 (Or.inr rfl) rfl rfl
    · refine mw_icmp_ge_f (tgt := 30) C dX11_allWithin_6 (by decide) g1 g2 c3 ?_
      refine mw_aload_n 0 C dX11_allWithin_9 rfl rfl ?_
      refine mw_iload 4 C dX11_allWithin_10 rfl ?_
      obtain ⟨g4, hF⟩ := ck_some hF
      refine mw_lald C dX11_allWithin_12 hk_x0.2.1 hk_x0.1 hk_x0.2.2 g4 ?_
      refine mw_lload_n 2 C dX11_allWithin_13 rfl rfl ?_
      refine mw_lload 3 C dX11_allWithin_14 rfl ?_
      obtain ⟨q5, hq5, hF⟩ := bind_some hF
      refine mw_callS [lvv (h x0 x6.toNat), lvv x2, lvv x4] [] C dX11_allWithin_16 (T_X11_outside (zl Z) (zX Z) (h x0 x6.toNat) x2 x4 _ _ hq5) rfl wd288 wd289 wd1 wd290 hd_X11_outside rfl (by decide) (by decide) (Nat.le_of_ble_eq_true rfl) ⟨Nat.zero_le _, Nat.zero_le _⟩ ?_
      obtain ⟨g6, hF⟩ := ck_some hF
      rcases ite_some hF with ⟨c7, hF⟩ | ⟨c7, hF⟩
      · refine mw_if_eq_t (tgt := 24) C dX11_allWithin_19 (by decide) g6 c7 ?_
        refine mw_iinc 4 [(6, iv (x6 + 1)), (0, rfv (xd (zX Z)) x0), (1, iv x1), (2, lvv x2), (4, lvv x4)] C dX11_allWithin_24 rfl (by decide) rfl ?_
        refine mw_goto (tgt := 3) C dX11_allWithin_27 (by decide) ?_
        refine mw_sub [1, 2, 3, 4, 0] rfl ?_
        exact ih x0 x1 x2 x4 (x6 + 1) hk_x0 _ _ hF
      · refine mw_if_eq_f (tgt := 24) C dX11_allWithin_19 (by decide) g6 c7 ?_
        refine mw_iconst C dX11_allWithin_22 ?_
        cases hF
        exact mw_zret C dX11_allWithin_23 (Or.inl rfl) rfl rfl
def F_X11_allWithin_0 (x0 : Nat) (x1 : Int) (x2 : Int) (x4 : Int) (h : MH) : Option (Int × MH) :=
  F_X11_allWithin_3 20000 x0 x1 x2 x4 0 h
set_option maxRecDepth 100000 in
theorem T_X11_allWithin_0 {Z : ZT} (C : Cx Z cX11_allWithin 7 RX11 2 (some .boolean)) (x0 : Nat) (x1 : Int) (x2 : Int) (x4 : Int) (hk_x0 : zK x0 = (22, 60) ∧ x0 < zN ∧ 60 < 2147483648) (h : MH) (t : (Int × MH)) (hF : F_X11_allWithin_0 x0 x1 x2 x4 h = some t) : MW Z (Qm Z (some (iv t.1)) zN zG t.2 0 0) 7 zN zG h 0 0 0 [(0, rfv (xd (zX Z)) x0), (1, iv x1), (2, lvv x2), (4, lvv x4)] [] := by
  unfold F_X11_allWithin_0 at hF
  refine mw_iconst C dX11_allWithin_0 ?_
  refine mw_istore [(6, iv 0), (0, rfv (xd (zX Z)) x0), (1, iv x1), (2, lvv x2), (4, lvv x4)] C dX11_allWithin_1 (by decide) rfl ?_
  refine mw_sub [1, 2, 3, 4, 0] rfl ?_
  exact T_X11_allWithin_3 C 20000 x0 x1 x2 x4 0 hk_x0 _ _ hF
def F_X11_allWithin (x0 : Nat) (x1 : Int) (x2 : Int) (x4 : Int) (h : MH) : Option (Int × MH) := F_X11_allWithin_0 x0 x1 x2 x4 h
theorem T_X11_allWithin (l : Launch) (X : XT) (x0 : Nat) (x1 : Int) (x2 : Int) (x4 : Int) (hk_x0 : zK x0 = (22, 60) ∧ x0 < zN ∧ 60 < 2147483648) (h : MH) (t : (Int × MH)) (hF : F_X11_allWithin x0 x1 x2 x4 h = some t) : Ct l X yX11_allWithin cX11_allWithin 7 (some .boolean) 2 [rfv (xd X) x0, iv x1, lvv x2, lvv x4] zN zG h (some (iv t.1)) zN zG t.2 0 0 := by
  refine Ct.head (by decide) (Nat.le_of_ble_eq_true rfl) (fun Z hX hl _ _ _ C => ?_)
  subst hX
  subst hl
  exact (T_X11_allWithin_0 C x0 x1 x2 x4 hk_x0 _ _ hF)
/-! BottleLine.thrownForShort([JIIII)I -/
def F_X11_thrownForShort_71 (k12 : Nat → Int → Int → Int → Int → Int → Int → Int → Int → MH → Option (Int × MH)) (x0 : Nat) (x1 : Int) (x2 : Int) (x3 : Int) (x4 : Int) (x5 : Int) (x6 : Int) (x7 : Int) (x8 : Int) (h : MH) : Option (Int × MH) :=
  k12 x0 x1 x2 x3 x4 x5 x6 x7 (x8 + 1) h
set_option maxRecDepth 100000 in
theorem T_X11_thrownForShort_71 {Z : ZT} (C : Cx Z cX11_thrownForShort 9 RX11 2 (some .int)) (k12 : Nat → Int → Int → Int → Int → Int → Int → Int → Int → MH → Option (Int × MH)) (hk12 : ∀ (x0 : Nat) (x1 : Int) (x2 : Int) (x3 : Int) (x4 : Int) (x5 : Int) (x6 : Int) (x7 : Int) (x8 : Int) (hk_x0 : zK x0 = (22, 60) ∧ x0 < zN ∧ 60 < 2147483648) (h : MH) (t : (Int × MH)), k12 x0 x1 x2 x3 x4 x5 x6 x7 x8 h = some t → MW Z (Qm Z (some (iv t.1)) zN zG t.2 0 0) 9 zN zG h 0 0 12 [(0, rfv (xd (zX Z)) x0), (1, iv x1), (2, iv x2), (3, iv x3), (4, iv x4), (5, iv x5), (6, iv x6), (7, iv x7), (8, iv x8)] []) (x0 : Nat) (x1 : Int) (x2 : Int) (x3 : Int) (x4 : Int) (x5 : Int) (x6 : Int) (x7 : Int) (x8 : Int) (hk_x0 : zK x0 = (22, 60) ∧ x0 < zN ∧ 60 < 2147483648) (h : MH) (t : (Int × MH)) (hF : F_X11_thrownForShort_71 k12 x0 x1 x2 x3 x4 x5 x6 x7 x8 h = some t) : MW Z (Qm Z (some (iv t.1)) zN zG t.2 0 0) 9 zN zG h 0 0 71 [(0, rfv (xd (zX Z)) x0), (1, iv x1), (2, iv x2), (3, iv x3), (4, iv x4), (5, iv x5), (6, iv x6), (7, iv x7), (8, iv x8)] [] := by
  unfold F_X11_thrownForShort_71 at hF
  refine mw_iinc 8 [(8, iv (x8 + 1)), (0, rfv (xd (zX Z)) x0), (1, iv x1), (2, iv x2), (3, iv x3), (4, iv x4), (5, iv x5), (6, iv x6), (7, iv x7)] C dX11_thrownForShort_71 rfl (by decide) rfl ?_
  refine mw_goto (tgt := 12) C dX11_thrownForShort_74 (by decide) ?_
  refine mw_sub [1, 2, 3, 4, 5, 6, 7, 8, 0] rfl ?_
  exact hk12 x0 x1 x2 x3 x4 x5 x6 x7 (x8 + 1) hk_x0 _ _ hF
def F_X11_thrownForShort_57 (k12 : Nat → Int → Int → Int → Int → Int → Int → Int → Int → MH → Option (Int × MH)) (x0 : Nat) (x1 : Int) (x2 : Int) (x3 : Int) (x4 : Int) (x8 : Int) (s0 : Int) (s1 : Int) (h : MH) : Option (Int × MH) :=
  nx (s0 + s1) fun v1 =>
  nx ((x8 * x2) + 1) fun v2 =>
  F_X11_thrownForShort_71 k12 x0 x1 x2 x3 x4 v1 v2 0 x8 h
set_option maxRecDepth 100000 in
theorem T_X11_thrownForShort_57 {Z : ZT} (C : Cx Z cX11_thrownForShort 9 RX11 2 (some .int)) (k12 : Nat → Int → Int → Int → Int → Int → Int → Int → Int → MH → Option (Int × MH)) (hk12 : ∀ (x0 : Nat) (x1 : Int) (x2 : Int) (x3 : Int) (x4 : Int) (x5 : Int) (x6 : Int) (x7 : Int) (x8 : Int) (hk_x0 : zK x0 = (22, 60) ∧ x0 < zN ∧ 60 < 2147483648) (h : MH) (t : (Int × MH)), k12 x0 x1 x2 x3 x4 x5 x6 x7 x8 h = some t → MW Z (Qm Z (some (iv t.1)) zN zG t.2 0 0) 9 zN zG h 0 0 12 [(0, rfv (xd (zX Z)) x0), (1, iv x1), (2, iv x2), (3, iv x3), (4, iv x4), (5, iv x5), (6, iv x6), (7, iv x7), (8, iv x8)] []) (x0 : Nat) (x1 : Int) (x2 : Int) (x3 : Int) (x4 : Int) (x8 : Int) (s0 : Int) (s1 : Int) (hk_x0 : zK x0 = (22, 60) ∧ x0 < zN ∧ 60 < 2147483648) (h : MH) (t : (Int × MH)) (hF : F_X11_thrownForShort_57 k12 x0 x1 x2 x3 x4 x8 s0 s1 h = some t) : MW Z (Qm Z (some (iv t.1)) zN zG t.2 0 0) 9 zN zG h 0 0 57 [(0, rfv (xd (zX Z)) x0), (1, iv x1), (2, iv x2), (3, iv x3), (4, iv x4), (8, iv x8)] [iv s1, iv s0] := by
  unfold F_X11_thrownForShort_57 at hF
  refine mw_iadd C dX11_thrownForShort_57 ?_
  obtain ⟨v1, ev1, hF⟩ := nx_some hF
  refine mw_ti ev1 ?_
  refine mw_istore [(5, iv v1), (0, rfv (xd (zX Z)) x0), (1, iv x1), (2, iv x2), (3, iv x3), (4, iv x4), (8, iv x8)] C dX11_thrownForShort_58 (by decide) rfl ?_
  refine mw_iload 6 C dX11_thrownForShort_60 rfl ?_
  refine mw_iload_n 3 C dX11_thrownForShort_62 rfl rfl ?_
  refine mw_imul C dX11_thrownForShort_63 ?_
  refine mw_iconst C dX11_thrownForShort_64 ?_
  refine mw_iadd C dX11_thrownForShort_65 ?_
  obtain ⟨v2, ev2, hF⟩ := nx_some hF
  refine mw_ti ev2 ?_
  refine mw_istore [(6, iv v2), (5, iv v1), (0, rfv (xd (zX Z)) x0), (1, iv x1), (2, iv x2), (3, iv x3), (4, iv x4), (8, iv x8)] C dX11_thrownForShort_66 (by decide) rfl ?_
  refine mw_iconst C dX11_thrownForShort_68 ?_
  refine mw_istore [(7, iv 0), (6, iv v2), (5, iv v1), (0, rfv (xd (zX Z)) x0), (1, iv x1), (2, iv x2), (3, iv x3), (4, iv x4), (8, iv x8)] C dX11_thrownForShort_69 (by decide) rfl ?_
  refine mw_sub [3, 4, 5, 6, 7, 2, 1, 0, 8] rfl ?_
  exact T_X11_thrownForShort_71 C k12 hk12 x0 x1 x2 x3 x4 v1 v2 0 x8 hk_x0 _ _ hF
def F_X11_thrownForShort_12 : Nat → Nat → Int → Int → Int → Int → Int → Int → Int → Int → MH → Option (Int × MH)
  | 0, _, _, _, _, _, _, _, _, _, _ => none
  | n + 1, x0, x1, x2, x3, x4, x5, x6, x7, x8, h =>
    ck (in32 x8) <|
    ck (in32 x1) <|
    if x1 ≤ x8 then
      ck (in32 x7) <|
      if x7 = 0 then
        some (x5, h)
      else
        some ((((x5 + ((x1 - 1) * x2)) + 1) - x6), h)
    else
      ck (0 ≤ x8 ∧ x8 < 60) <|
      ck (in32 x3) <|
      ck (in32 x4) <|
      (F_X11_outside (h x0 x8.toNat) x3 x4 h).bind fun q9 =>
      ck (in32 q9.1) <|
      if q9.1 = 0 then
        ck (in32 x7) <|
        if x7 = 0 then
          F_X11_thrownForShort_57 (F_X11_thrownForShort_12 n) x0 x1 x2 x3 x4 x8 x5 0 q9.2
        else
          F_X11_thrownForShort_57 (F_X11_thrownForShort_12 n) x0 x1 x2 x3 x4 x8 x5 ((x8 * x2) - x6) q9.2
      else
        F_X11_thrownForShort_71 (F_X11_thrownForShort_12 n) x0 x1 x2 x3 x4 x5 x6 1 x8 q9.2
set_option maxRecDepth 100000 in
theorem T_X11_thrownForShort_12 {Z : ZT} (C : Cx Z cX11_thrownForShort 9 RX11 2 (some .int)) : ∀ (n : Nat) (x0 : Nat) (x1 : Int) (x2 : Int) (x3 : Int) (x4 : Int) (x5 : Int) (x6 : Int) (x7 : Int) (x8 : Int) (hk_x0 : zK x0 = (22, 60) ∧ x0 < zN ∧ 60 < 2147483648) (h : MH) (t : (Int × MH)), F_X11_thrownForShort_12 n x0 x1 x2 x3 x4 x5 x6 x7 x8 h = some t → MW Z (Qm Z (some (iv t.1)) zN zG t.2 0 0) 9 zN zG h 0 0 12 [(0, rfv (xd (zX Z)) x0), (1, iv x1), (2, iv x2), (3, iv x3), (4, iv x4), (5, iv x5), (6, iv x6), (7, iv x7), (8, iv x8)] [] := by
  intro n
  induction n with
  | zero =>
    intros
    rename_i hF
    exact absurd hF (by intro q; cases q)
  | succ n ih =>
    intro x0 x1 x2 x3 x4 x5 x6 x7 x8 hk_x0 h t hF
    rw [F_X11_thrownForShort_12] at hF
    refine mw_iload 8 C dX11_thrownForShort_12 rfl ?_
    refine mw_iload_n 1 C dX11_thrownForShort_14 rfl rfl ?_
    obtain ⟨g1, hF⟩ := ck_some hF
    obtain ⟨g2, hF⟩ := ck_some hF
    rcases ite_some hF with ⟨c3, hF⟩ | ⟨c3, hF⟩
    · refine mw_icmp_ge_t (tgt := 77) C dX11_thrownForShort_15 (by decide) g1 g2 c3 ?_
      refine mw_iload 7 C dX11_thrownForShort_77 rfl ?_
      obtain ⟨g4, hF⟩ := ck_some hF
      rcases ite_some hF with ⟨c5, hF⟩ | ⟨c5, hF⟩
      · refine mw_if_eq_t (tgt := 98) C dX11_thrownForShort_79 (by decide) g4 c5 ?_
        refine mw_iload 5 C dX11_thrownForShort_98 rfl ?_
        cases hF
        exact mw_iret C dX11_thrownForShort_100 rfl rfl
      · refine mw_if_eq_f (tgt := 98) C dX11_thrownForShort_79 (by decide) g4 c5 ?_
        refine mw_iload 5 C dX11_thrownForShort_82 rfl ?_
        refine mw_iload_n 1 C dX11_thrownForShort_84 rfl rfl ?_
        refine mw_iconst C dX11_thrownForShort_85 ?_
        refine mw_isub C dX11_thrownForShort_86 ?_
        refine mw_iload_n 2 C dX11_thrownForShort_87 rfl rfl ?_
        refine mw_imul C dX11_thrownForShort_88 ?_
        refine mw_iadd C dX11_thrownForShort_89 ?_
        refine mw_iconst C dX11_thrownForShort_90 ?_
        refine mw_iadd C dX11_thrownForShort_91 ?_
        refine mw_iload 6 C dX11_thrownForShort_92 rfl ?_
        refine mw_isub C dX11_thrownForShort_94 ?_
        refine mw_goto (tgt := 100) C dX11_thrownForShort_95 (by decide) ?_
        cases hF
        exact mw_iret C dX11_thrownForShort_100 rfl rfl
    · refine mw_icmp_ge_f (tgt := 77) C dX11_thrownForShort_15 (by decide) g1 g2 c3 ?_
      refine mw_aload_n 0 C dX11_thrownForShort_18 rfl rfl ?_
      refine mw_iload 8 C dX11_thrownForShort_19 rfl ?_
      obtain ⟨g6, hF⟩ := ck_some hF
      refine mw_lald C dX11_thrownForShort_21 hk_x0.2.1 hk_x0.1 hk_x0.2.2 g6 ?_
      refine mw_iload_n 3 C dX11_thrownForShort_22 rfl rfl ?_
      obtain ⟨g7, hF⟩ := ck_some hF
      refine mw_i2l C dX11_thrownForShort_23 g7 ?_
      refine mw_iload 4 C dX11_thrownForShort_24 rfl ?_
      obtain ⟨g8, hF⟩ := ck_some hF
      refine mw_i2l C dX11_thrownForShort_26 g8 ?_
      obtain ⟨q9, hq9, hF⟩ := bind_some hF
      refine mw_callS [lvv (h x0 x8.toNat), lvv x3, lvv x4] [] C dX11_thrownForShort_27 (T_X11_outside (zl Z) (zX Z) (h x0 x8.toNat) x3 x4 _ _ hq9) rfl wd288 wd289 wd1 wd290 hd_X11_outside rfl (by decide) (by decide) (Nat.le_of_ble_eq_true rfl) ⟨Nat.zero_le _, Nat.zero_le _⟩ ?_
      obtain ⟨g10, hF⟩ := ck_some hF
      rcases ite_some hF with ⟨c11, hF⟩ | ⟨c11, hF⟩
      · refine mw_if_eq_t (tgt := 39) C dX11_thrownForShort_30 (by decide) g10 c11 ?_
        refine mw_iload 5 C dX11_thrownForShort_39 rfl ?_
        refine mw_iload 7 C dX11_thrownForShort_41 rfl ?_
        obtain ⟨g12, hF⟩ := ck_some hF
        rcases ite_some hF with ⟨c13, hF⟩ | ⟨c13, hF⟩
        · refine mw_if_eq_t (tgt := 56) C dX11_thrownForShort_43 (by decide) g12 c13 ?_
          refine mw_iconst C dX11_thrownForShort_56 ?_
          refine mw_sub [0, 1, 2, 3, 4, 8] rfl ?_
          exact T_X11_thrownForShort_57 C (F_X11_thrownForShort_12 n) ih x0 x1 x2 x3 x4 x8 x5 0 hk_x0 _ _ hF
        · refine mw_if_eq_f (tgt := 56) C dX11_thrownForShort_43 (by decide) g12 c13 ?_
          refine mw_iload 8 C dX11_thrownForShort_46 rfl ?_
          refine mw_iload_n 2 C dX11_thrownForShort_48 rfl rfl ?_
          refine mw_imul C dX11_thrownForShort_49 ?_
          refine mw_iload 6 C dX11_thrownForShort_50 rfl ?_
          refine mw_isub C dX11_thrownForShort_52 ?_
          refine mw_goto (tgt := 57) C dX11_thrownForShort_53 (by decide) ?_
          refine mw_sub [0, 1, 2, 3, 4, 8] rfl ?_
          exact T_X11_thrownForShort_57 C (F_X11_thrownForShort_12 n) ih x0 x1 x2 x3 x4 x8 x5 ((x8 * x2) - x6) hk_x0 _ _ hF
      · refine mw_if_eq_f (tgt := 39) C dX11_thrownForShort_30 (by decide) g10 c11 ?_
        refine mw_iconst C dX11_thrownForShort_33 ?_
        refine mw_istore [(7, iv 1), (0, rfv (xd (zX Z)) x0), (1, iv x1), (2, iv x2), (3, iv x3), (4, iv x4), (5, iv x5), (6, iv x6), (8, iv x8)] C dX11_thrownForShort_34 (by decide) rfl ?_
        refine mw_goto (tgt := 71) C dX11_thrownForShort_36 (by decide) ?_
        refine mw_sub [1, 2, 3, 4, 5, 6, 7, 0, 8] rfl ?_
        exact T_X11_thrownForShort_71 C (F_X11_thrownForShort_12 n) ih x0 x1 x2 x3 x4 x5 x6 1 x8 hk_x0 _ _ hF
def F_X11_thrownForShort_0 (x0 : Nat) (x1 : Int) (x2 : Int) (x3 : Int) (x4 : Int) (h : MH) : Option (Int × MH) :=
  F_X11_thrownForShort_12 20000 x0 x1 x2 x3 x4 0 0 0 0 h
set_option maxRecDepth 100000 in
theorem T_X11_thrownForShort_0 {Z : ZT} (C : Cx Z cX11_thrownForShort 9 RX11 2 (some .int)) (x0 : Nat) (x1 : Int) (x2 : Int) (x3 : Int) (x4 : Int) (hk_x0 : zK x0 = (22, 60) ∧ x0 < zN ∧ 60 < 2147483648) (h : MH) (t : (Int × MH)) (hF : F_X11_thrownForShort_0 x0 x1 x2 x3 x4 h = some t) : MW Z (Qm Z (some (iv t.1)) zN zG t.2 0 0) 9 zN zG h 0 0 0 [(0, rfv (xd (zX Z)) x0), (1, iv x1), (2, iv x2), (3, iv x3), (4, iv x4)] [] := by
  unfold F_X11_thrownForShort_0 at hF
  refine mw_iconst C dX11_thrownForShort_0 ?_
  refine mw_istore [(5, iv 0), (0, rfv (xd (zX Z)) x0), (1, iv x1), (2, iv x2), (3, iv x3), (4, iv x4)] C dX11_thrownForShort_1 (by decide) rfl ?_
  refine mw_iconst C dX11_thrownForShort_3 ?_
  refine mw_istore [(6, iv 0), (5, iv 0), (0, rfv (xd (zX Z)) x0), (1, iv x1), (2, iv x2), (3, iv x3), (4, iv x4)] C dX11_thrownForShort_4 (by decide) rfl ?_
  refine mw_iconst C dX11_thrownForShort_6 ?_
  refine mw_istore [(7, iv 0), (6, iv 0), (5, iv 0), (0, rfv (xd (zX Z)) x0), (1, iv x1), (2, iv x2), (3, iv x3), (4, iv x4)] C dX11_thrownForShort_7 (by decide) rfl ?_
  refine mw_iconst C dX11_thrownForShort_9 ?_
  refine mw_istore [(8, iv 0), (7, iv 0), (6, iv 0), (5, iv 0), (0, rfv (xd (zX Z)) x0), (1, iv x1), (2, iv x2), (3, iv x3), (4, iv x4)] C dX11_thrownForShort_10 (by decide) rfl ?_
  refine mw_sub [4, 5, 6, 7, 8, 3, 2, 1, 0] rfl ?_
  exact T_X11_thrownForShort_12 C 20000 x0 x1 x2 x3 x4 0 0 0 0 hk_x0 _ _ hF
def F_X11_thrownForShort (x0 : Nat) (x1 : Int) (x2 : Int) (x3 : Int) (x4 : Int) (h : MH) : Option (Int × MH) := F_X11_thrownForShort_0 x0 x1 x2 x3 x4 h
theorem T_X11_thrownForShort (l : Launch) (X : XT) (x0 : Nat) (x1 : Int) (x2 : Int) (x3 : Int) (x4 : Int) (hk_x0 : zK x0 = (22, 60) ∧ x0 < zN ∧ 60 < 2147483648) (h : MH) (t : (Int × MH)) (hF : F_X11_thrownForShort x0 x1 x2 x3 x4 h = some t) : Ct l X yX11_thrownForShort cX11_thrownForShort 9 (some .int) 2 [rfv (xd X) x0, iv x1, iv x2, iv x3, iv x4] zN zG h (some (iv t.1)) zN zG t.2 0 0 := by
  refine Ct.head (by decide) (Nat.le_of_ble_eq_true rfl) (fun Z hX hl _ _ _ C => ?_)
  subst hX
  subst hl
  exact (T_X11_thrownForShort_0 C x0 x1 x2 x3 x4 hk_x0 _ _ hF)
/-! BottleLine.brief(IIIII)I -/
def F_X11_brief_38 (h : MH) : Option (Int × MH) :=
  (F_X11_none 1 h).bind fun q1 =>
  some (q1.1, q1.2)
set_option maxRecDepth 100000 in
theorem T_X11_brief_38 {Z : ZT} (C : Cx Z cX11_brief 7 RX11 3 (some .int)) (h : MH) (t : (Int × MH)) (hF : F_X11_brief_38 h = some t) : MW Z (Qm Z (some (iv t.1)) zN zG t.2 0 0) 7 zN zG h 0 0 38 [(0, rfv (xd (zX Z)) 0)] [] := by
  unfold F_X11_brief_38 at hF
  refine mw_aload_n 0 C dX11_brief_38 rfl rfl ?_
  refine mw_iconst C dX11_brief_39 ?_
  obtain ⟨q1, hq1, hF⟩ := bind_some hF
  refine mw_callV (c := 0) [iv 1] [] C dX11_brief_40 (T_X11_none (zl Z) (zX Z) 1 _ _ hq1) rfl zn0 zk0 (by decide) rfl wd315 wd316 wd1311 wd1 wd317 hd_X11_none rfl (by decide) (by decide) (Nat.le_of_ble_eq_true rfl) ⟨Nat.zero_le _, Nat.zero_le _⟩ ?_
  cases hF
  exact mw_iret C dX11_brief_43 rfl rfl
def F_X11_brief_0 (x1 : Int) (x2 : Int) (x3 : Int) (x4 : Int) (x5 : Int) (h : MH) : Option (Int × MH) :=
  (F_X11_isTray x1 h).bind fun q1 =>
  ck (in32 q1.1) <|
  if q1.1 = 0 then
    F_X11_brief_38 q1.2
  else
    ck (in32 x2) <|
    (F_X11_outside x2 1 60 q1.2).bind fun q5 =>
    ck (in32 q5.1) <|
    if q5.1 ≠ 0 then
      F_X11_brief_38 q5.2
    else
      ck (in32 x3) <|
      (F_X11_outside x3 1 99 q5.2).bind fun q9 =>
      ck (in32 q9.1) <|
      if q9.1 ≠ 0 then
        F_X11_brief_38 q9.2
      else
        ck (in32 x5) <|
        ck (in32 x4) <|
        if x4 ≤ x5 then
          (F_X11_rowLack x1 x2 q9.2).bind fun q15 =>
          ck (in32 q15.1) <|
          if q15.1 = 0 then
            ck (0 ≤ x1 ∧ x1 < 4) <|
            (F_X11_allWithin (2 + x1.toNat) x2 (-999) 9999 q15.2).bind fun q19 =>
            ck (in32 q19.1) <|
            if q19.1 ≠ 0 then
              (F_X11_thrownForShort (2 + x1.toNat) x2 x3 x4 x5 q19.2).bind fun q22 =>
              (F_X11_answer q22.1 q22.2).bind fun q23 =>
              some (q23.1, q23.2)
            else
              (F_X11_none 5 q19.2).bind fun q24 =>
              some (q24.1, q24.2)
          else
            (F_X11_none q15.1 q15.2).bind fun q25 =>
            some (q25.1, q25.2)
        else
          F_X11_brief_38 q9.2
set_option maxRecDepth 100000 in
theorem T_X11_brief_0 {Z : ZT} (C : Cx Z cX11_brief 7 RX11 3 (some .int)) (x1 : Int) (x2 : Int) (x3 : Int) (x4 : Int) (x5 : Int) (h : MH) (t : (Int × MH)) (hF : F_X11_brief_0 x1 x2 x3 x4 x5 h = some t) : MW Z (Qm Z (some (iv t.1)) zN zG t.2 0 0) 7 zN zG h 0 0 0 [(0, rfv (xd (zX Z)) 0), (1, iv x1), (2, iv x2), (3, iv x3), (4, iv x4), (5, iv x5)] [] := by
  unfold F_X11_brief_0 at hF
  refine mw_iload_n 1 C dX11_brief_0 rfl rfl ?_
  obtain ⟨q1, hq1, hF⟩ := bind_some hF
  refine mw_callS [iv x1] [] C dX11_brief_1 (T_X11_isTray (zl Z) (zX Z) x1 _ _ hq1) rfl wd284 wd285 wd1 wd286 hd_X11_isTray rfl (by decide) (by decide) (Nat.le_of_ble_eq_true rfl) ⟨Nat.zero_le _, Nat.zero_le _⟩ ?_
  obtain ⟨g2, hF⟩ := ck_some hF
  rcases ite_some hF with ⟨c3, hF⟩ | ⟨c3, hF⟩
  · refine mw_if_eq_t (tgt := 38) C dX11_brief_4 (by decide) g2 c3 ?_
    refine mw_sub [0] rfl ?_
    exact T_X11_brief_38 C _ _ hF
  · refine mw_if_eq_f (tgt := 38) C dX11_brief_4 (by decide) g2 c3 ?_
    refine mw_iload_n 2 C dX11_brief_7 rfl rfl ?_
    obtain ⟨g4, hF⟩ := ck_some hF
    refine mw_i2l C dX11_brief_8 g4 ?_
    refine mw_lconst (a := 1) C dX11_brief_9 lc_1 ?_
    refine mw_ldc2 (a := 60) C dX11_brief_10 wd291 rfl ?_
    obtain ⟨q5, hq5, hF⟩ := bind_some hF
    refine mw_callS [lvv x2, lvv 1, lvv 60] [] C dX11_brief_13 (T_X11_outside (zl Z) (zX Z) x2 1 60 _ _ hq5) rfl wd288 wd289 wd1 wd290 hd_X11_outside rfl (by decide) (by decide) (Nat.le_of_ble_eq_true rfl) ⟨Nat.zero_le _, Nat.zero_le _⟩ ?_
    obtain ⟨g6, hF⟩ := ck_some hF
    rcases ite_some hF with ⟨c7, hF⟩ | ⟨c7, hF⟩
    · refine mw_if_ne_t (tgt := 38) C dX11_brief_16 (by decide) g6 c7 ?_
      refine mw_sub [0] rfl ?_
      exact T_X11_brief_38 C _ _ hF
    · refine mw_if_ne_f (tgt := 38) C dX11_brief_16 (by decide) g6 c7 ?_
      refine mw_iload_n 3 C dX11_brief_19 rfl rfl ?_
      obtain ⟨g8, hF⟩ := ck_some hF
      refine mw_i2l C dX11_brief_20 g8 ?_
      refine mw_lconst (a := 1) C dX11_brief_21 lc_1 ?_
      refine mw_ldc2 (a := 99) C dX11_brief_22 wd648 rfl ?_
      obtain ⟨q9, hq9, hF⟩ := bind_some hF
      refine mw_callS [lvv x3, lvv 1, lvv 99] [] C dX11_brief_25 (T_X11_outside (zl Z) (zX Z) x3 1 99 _ _ hq9) rfl wd288 wd289 wd1 wd290 hd_X11_outside rfl (by decide) (by decide) (Nat.le_of_ble_eq_true rfl) ⟨Nat.zero_le _, Nat.zero_le _⟩ ?_
      obtain ⟨g10, hF⟩ := ck_some hF
      rcases ite_some hF with ⟨c11, hF⟩ | ⟨c11, hF⟩
      · refine mw_if_ne_t (tgt := 38) C dX11_brief_28 (by decide) g10 c11 ?_
        refine mw_sub [0] rfl ?_
        exact T_X11_brief_38 C _ _ hF
      · refine mw_if_ne_f (tgt := 38) C dX11_brief_28 (by decide) g10 c11 ?_
        refine mw_iload 5 C dX11_brief_31 rfl ?_
        refine mw_iload 4 C dX11_brief_33 rfl ?_
        obtain ⟨g12, hF⟩ := ck_some hF
        obtain ⟨g13, hF⟩ := ck_some hF
        rcases ite_some hF with ⟨c14, hF⟩ | ⟨c14, hF⟩
        · refine mw_icmp_ge_t (tgt := 44) C dX11_brief_35 (by decide) g12 g13 c14 ?_
          refine mw_aload_n 0 C dX11_brief_44 rfl rfl ?_
          refine mw_iload_n 1 C dX11_brief_45 rfl rfl ?_
          refine mw_iload_n 2 C dX11_brief_46 rfl rfl ?_
          obtain ⟨q15, hq15, hF⟩ := bind_some hF
          refine mw_callV (c := 0) [iv x1, iv x2] [] C dX11_brief_47 (T_X11_rowLack (zl Z) (zX Z) x1 x2 _ _ hq15) rfl zn0 zk0 (by decide) rfl wd750 wd751 wd1349 wd1 wd752 hd_X11_rowLack rfl (by decide) (by decide) (Nat.le_of_ble_eq_true rfl) ⟨Nat.zero_le _, Nat.zero_le _⟩ ?_
          refine mw_istore [(6, iv q15.1), (0, rfv (xd (zX Z)) 0), (1, iv x1), (2, iv x2), (3, iv x3), (4, iv x4), (5, iv x5)] C dX11_brief_50 (by decide) rfl ?_
          refine mw_iload 0 C dX11_brief_52 rfl ?_
          obtain ⟨g16, hF⟩ := ck_some hF
          rcases ite_some hF with ⟨c17, hF⟩ | ⟨c17, hF⟩
          · refine mw_if_eq_t (tgt := 64) C dX11_brief_54 (by decide) g16 c17 ?_
            refine mw_aload_n 1 C dX11_brief_64 rfl rfl ?_
            refine mw_get (k := 3) (T := TX11) (v := rfv (xd (zX Z)) 1) C dX11_brief_65 zn0 zk0 (by decide) rfl inX11 (by decide) wd252 rfl (zfv_r rfl zg_0_3) ?_
            refine mw_iload_n 2 C dX11_brief_68 rfl rfl ?_
            obtain ⟨g18, hF⟩ := ck_some hF
            refine mw_aald (t := 6) (c2 := (2 + x1.toNat)) (ty := .array .long) C dX11_brief_69 zn1 zk1 (by decide) (fun _ => rfl) rfl (by decide) g18 (zg_26 _) ?_
            refine mw_iload_n 3 C dX11_brief_70 rfl rfl ?_
            refine mw_ldc2 (a := (-999)) C dX11_brief_71 wd791 rfl ?_
            refine mw_ldc2 (a := 9999) C dX11_brief_74 wd589 rfl ?_
            obtain ⟨q19, hq19, hF⟩ := bind_some hF
            refine mw_callS [rfv (xd (zX Z)) (2 + x1.toNat), iv x2, lvv (-999), lvv 9999] [] C dX11_brief_77 (T_X11_allWithin (zl Z) (zX Z) (2 + x1.toNat) x2 (-999) 9999 (ok_row _ (ix_lt g18)) _ _ hq19) rfl wd792 wd793 wd1 wd794 hd_X11_allWithin rfl (by decide) (by decide) (Nat.le_of_ble_eq_true rfl) ⟨Nat.zero_le _, Nat.zero_le _⟩ ?_
            obtain ⟨g20, hF⟩ := ck_some hF
            rcases ite_some hF with ⟨c21, hF⟩ | ⟨c21, hF⟩
            · refine mw_if_ne_t (tgt := 89) C dX11_brief_80 (by decide) g20 c21 ?_
              refine mw_aload_n 1 C dX11_brief_89 rfl rfl ?_
              refine mw_aload_n 1 C dX11_brief_90 rfl rfl ?_
              refine mw_get (k := 3) (T := TX11) (v := rfv (xd (zX Z)) 1) C dX11_brief_91 zn0 zk0 (by decide) rfl inX11 (by decide) wd252 rfl (zfv_r rfl zg_0_3) ?_
              refine mw_iload_n 2 C dX11_brief_94 rfl rfl ?_
              refine mw_aald (t := 6) (c2 := (2 + x1.toNat)) (ty := .array .long) C dX11_brief_95 zn1 zk1 (by decide) (fun _ => rfl) rfl (by decide) g18 (zg_26 _) ?_
              refine mw_iload_n 3 C dX11_brief_96 rfl rfl ?_
              refine mw_iload_n 4 C dX11_brief_97 rfl rfl ?_
              refine mw_iload 5 C dX11_brief_98 rfl ?_
              refine mw_iload 6 C dX11_brief_100 rfl ?_
              obtain ⟨q22, hq22, hF⟩ := bind_some hF
              refine mw_callS [rfv (xd (zX Z)) (2 + x1.toNat), iv x2, iv x3, iv x4, iv x5] [rfv (xd (zX Z)) 0] C dX11_brief_102 (T_X11_thrownForShort (zl Z) (zX Z) (2 + x1.toNat) x2 x3 x4 x5 (ok_row _ (ix_lt g18)) _ _ hq22) rfl wd795 wd796 wd1 wd797 hd_X11_thrownForShort rfl (by decide) (by decide) (Nat.le_of_ble_eq_true rfl) ⟨Nat.zero_le _, Nat.zero_le _⟩ ?_
              obtain ⟨q23, hq23, hF⟩ := bind_some hF
              refine mw_callV (c := 0) [iv q22.1] [] C dX11_brief_105 (T_X11_answer (zl Z) (zX Z) q22.1 _ _ hq23) rfl zn0 zk0 (by decide) rfl wd494 wd495 wd1325 wd1 wd496 hd_X11_answer rfl (by decide) (by decide) (Nat.le_of_ble_eq_true rfl) ⟨Nat.zero_le _, Nat.zero_le _⟩ ?_
              cases hF
              exact mw_iret C dX11_brief_108 rfl rfl
            · refine mw_if_ne_f (tgt := 89) C dX11_brief_80 (by decide) g20 c21 ?_
              refine mw_aload_n 1 C dX11_brief_83 rfl rfl ?_
              refine mw_iconst C dX11_brief_84 ?_
              obtain ⟨q24, hq24, hF⟩ := bind_some hF
              refine mw_callV (c := 0) [iv 5] [] C dX11_brief_85 (T_X11_none (zl Z) (zX Z) 5 _ _ hq24) rfl zn0 zk0 (by decide) rfl wd315 wd316 wd1311 wd1 wd317 hd_X11_none rfl (by decide) (by decide) (Nat.le_of_ble_eq_true rfl) ⟨Nat.zero_le _, Nat.zero_le _⟩ ?_
              cases hF
              exact mw_iret C dX11_brief_88 rfl rfl
          · refine mw_if_eq_f (tgt := 64) C dX11_brief_54 (by decide) g16 c17 ?_
            refine mw_aload_n 1 C dX11_brief_57 rfl rfl ?_
            refine mw_iload 0 C dX11_brief_58 rfl ?_
            obtain ⟨q25, hq25, hF⟩ := bind_some hF
            refine mw_callV (c := 0) [iv q15.1] [] C dX11_brief_60 (T_X11_none (zl Z) (zX Z) q15.1 _ _ hq25) rfl zn0 zk0 (by decide) rfl wd315 wd316 wd1311 wd1 wd317 hd_X11_none rfl (by decide) (by decide) (Nat.le_of_ble_eq_true rfl) ⟨Nat.zero_le _, Nat.zero_le _⟩ ?_
            cases hF
            exact mw_iret C dX11_brief_63 rfl rfl
        · refine mw_icmp_ge_f (tgt := 44) C dX11_brief_35 (by decide) g12 g13 c14 ?_
          refine mw_sub [0] rfl ?_
          exact T_X11_brief_38 C _ _ hF
def F_X11_brief (x1 : Int) (x2 : Int) (x3 : Int) (x4 : Int) (x5 : Int) (h : MH) : Option (Int × MH) := F_X11_brief_0 x1 x2 x3 x4 x5 h
theorem T_X11_brief (l : Launch) (X : XT) (x1 : Int) (x2 : Int) (x3 : Int) (x4 : Int) (x5 : Int) (h : MH) (t : (Int × MH)) (hF : F_X11_brief x1 x2 x3 x4 x5 h = some t) : Ct l X yX11_brief cX11_brief 7 (some .int) 3 [rfv (xd X) 0, iv x1, iv x2, iv x3, iv x4, iv x5] zN zG h (some (iv t.1)) zN zG t.2 0 0 := by
  refine Ct.head (by decide) (Nat.le_of_ble_eq_true rfl) (fun Z hX hl _ _ _ C => ?_)
  subst hX
  subst hl
  exact (T_X11_brief_0 C x1 x2 x3 x4 x5 _ _ hF)
/-! BottleLine.thrownAlready([JIJ)Z -/
def F_X11_thrownAlready_3 : Nat → Nat → Int → Int → Int → MH → Option (Int × MH)
  | 0, _, _, _, _, _ => none
  | n + 1, x1, x2, x3, x5, h =>
    ck (in32 x5) <|
    ck (in32 x2) <|
    if x2 ≤ x5 then
      some (0, h)
    else
      ck (0 ≤ ((2 * x5) + 1) ∧ ((2 * x5) + 1) < 60) <|
      ck (in64 ((h x1 ((2 * x5) + 1).toNat) - x3)) <|
      ck (0 ≤ (2 * x5) ∧ (2 * x5) < 60) <|
      ck (0 ≤ (h x1 (2 * x5).toNat) ∧ (h x1 (2 * x5).toNat) < 6) <|
      ck (in32 (h 47 (h x1 (2 * x5).toNat).toNat)) <|
      ck (in64 (if 0 < ((h x1 ((2 * x5) + 1).toNat) - x3) then ((h x1 ((2 * x5) + 1).toNat) - x3) else -((h x1 ((2 * x5) + 1).toNat) - x3))) <|
      if (h 47 (h x1 (2 * x5).toNat).toNat) < (if 0 < ((h x1 ((2 * x5) + 1).toNat) - x3) then ((h x1 ((2 * x5) + 1).toNat) - x3) else -((h x1 ((2 * x5) + 1).toNat) - x3)) then
        F_X11_thrownAlready_3 n x1 x2 x3 (x5 + 1) h
      else
        some (1, h)
set_option maxRecDepth 100000 in
theorem T_X11_thrownAlready_3 {Z : ZT} (C : Cx Z cX11_thrownAlready 6 RX11 1 (some .boolean)) : ∀ (n : Nat) (x1 : Nat) (x2 : Int) (x3 : Int) (x5 : Int) (hk_x1 : zK x1 = (22, 60) ∧ x1 < zN ∧ 60 < 2147483648) (h : MH) (t : (Int × MH)), F_X11_thrownAlready_3 n x1 x2 x3 x5 h = some t → MW Z (Qm Z (some (iv t.1)) zN zG t.2 0 0) 6 zN zG h 0 0 3 [(0, rfv (xd (zX Z)) 0), (1, rfv (xd (zX Z)) x1), (2, iv x2), (3, lvv x3), (5, iv x5)] [] := by
  intro n
  induction n with
  | zero =>
    intros
    rename_i hF
    exact absurd hF (by intro q; cases q)
  | succ n ih =>
    intro x1 x2 x3 x5 hk_x1 h t hF
    rw [F_X11_thrownAlready_3] at hF
    refine mw_iload 4 C dX11_thrownAlready_3 rfl ?_
    refine mw_iload_n 2 C dX11_thrownAlready_5 rfl rfl ?_
    obtain ⟨g1, hF⟩ := ck_some hF
    obtain ⟨g2, hF⟩ := ck_some hF
    rcases ite_some hF with ⟨c3, hF⟩ | ⟨c3, hF⟩
    · refine mw_icmp_ge_t (tgt := 50) C dX11_thrownAlready_6 (by decide) g1 g2 c3 ?_
      refine mw_iconst C dX11_thrownAlready_50 ?_
      cases hF
      exact mw_zret C dX11_thrownAlready_51 (Or.inl rfl) rfl rfl
    · refine mw_icmp_ge_f (tgt := 50) C dX11_thrownAlready_6 (by decide) g1 g2 c3 ?_
      refine mw_aload_n 1 C dX11_thrownAlready_9 rfl rfl ?_
      refine mw_iconst C dX11_thrownAlready_10 ?_
      refine mw_iload 4 C dX11_thrownAlready_11 rfl ?_
      refine mw_imul C dX11_thrownAlready_13 ?_
      refine mw_iconst C dX11_thrownAlready_14 ?_
      refine mw_iadd C dX11_thrownAlready_15 ?_
      obtain ⟨g4, hF⟩ := ck_some hF
      refine mw_lald C dX11_thrownAlready_16 hk_x1.2.1 hk_x1.1 hk_x1.2.2 g4 ?_
      refine mw_lload_n 3 C dX11_thrownAlready_17 rfl rfl ?_
      refine mw_lsub C dX11_thrownAlready_18 ?_
      obtain ⟨g5, hF⟩ := ck_some hF
      refine mw_mabsL C dX11_thrownAlready_19 wd811 wd812 wd16 wd813 (by decide) (Nat.le_of_ble_eq_true rfl) ⟨Nat.zero_le _, Nat.zero_le _⟩ g5 ?_
      refine mw_aload_n 0 C dX11_thrownAlready_22 rfl rfl ?_
      refine mw_get (k := 9) (T := TX11) (v := rfv (xd (zX Z)) 34) C dX11_thrownAlready_23 zn0 zk0 (by decide) rfl inX11 (by decide) wd258 rfl (zfv_r rfl zg_0_9) ?_
      refine mw_get (k := 2) (T := TX5) (v := rfv (xd (zX Z)) 47) C dX11_thrownAlready_26 zn34 zk34 (by decide) rfl inX5 (by decide) wd127 rfl (zfv_r rfl zg_34_2) ?_
      refine mw_aload_n 1 C dX11_thrownAlready_29 rfl rfl ?_
      refine mw_iconst C dX11_thrownAlready_30 ?_
      refine mw_iload 4 C dX11_thrownAlready_31 rfl ?_
      refine mw_imul C dX11_thrownAlready_33 ?_
      obtain ⟨g6, hF⟩ := ck_some hF
      refine mw_lald C dX11_thrownAlready_34 hk_x1.2.1 hk_x1.1 hk_x1.2.2 g6 ?_
      refine mw_l2i C dX11_thrownAlready_35 ?_
      obtain ⟨g7, hF⟩ := ck_some hF
      refine mw_iald C dX11_thrownAlready_36 zn47 zk47 (by decide) g7 ?_
      obtain ⟨g8, hF⟩ := ck_some hF
      refine mw_i2l C dX11_thrownAlready_37 g8 ?_
      obtain ⟨g9, hF⟩ := ck_some hF
      rcases ite_some hF with ⟨c10, hF⟩ | ⟨c10, hF⟩
      · refine mw_lcmp_gt_t (tgt := 44) C dX11_thrownAlready_38 dX11_thrownAlready_39 (by decide) g9 (in64_of g8) c10 ?_
        refine mw_iinc 4 [(5, iv (x5 + 1)), (0, rfv (xd (zX Z)) 0), (1, rfv (xd (zX Z)) x1), (2, iv x2), (3, lvv x3)] C dX11_thrownAlready_44 rfl (by decide) rfl ?_
        refine mw_goto (tgt := 3) C dX11_thrownAlready_47 (by decide) ?_
        refine mw_sub [1, 2, 3, 4, 0] rfl ?_
        exact ih x1 x2 x3 (x5 + 1) hk_x1 _ _ hF
      · refine mw_lcmp_gt_f (tgt := 44) C dX11_thrownAlready_38 dX11_thrownAlready_39 (by decide) g9 (in64_of g8) c10 ?_
        refine mw_iconst C dX11_thrownAlready_42 ?_
        cases hF
        exact mw_zret C dX11_thrownAlready_43 (Or.inr rfl) rfl rfl
def F_X11_thrownAlready_0 (x1 : Nat) (x2 : Int) (x3 : Int) (h : MH) : Option (Int × MH) :=
  F_X11_thrownAlready_3 20000 x1 x2 x3 0 h
set_option maxRecDepth 100000 in
theorem T_X11_thrownAlready_0 {Z : ZT} (C : Cx Z cX11_thrownAlready 6 RX11 1 (some .boolean)) (x1 : Nat) (x2 : Int) (x3 : Int) (hk_x1 : zK x1 = (22, 60) ∧ x1 < zN ∧ 60 < 2147483648) (h : MH) (t : (Int × MH)) (hF : F_X11_thrownAlready_0 x1 x2 x3 h = some t) : MW Z (Qm Z (some (iv t.1)) zN zG t.2 0 0) 6 zN zG h 0 0 0 [(0, rfv (xd (zX Z)) 0), (1, rfv (xd (zX Z)) x1), (2, iv x2), (3, lvv x3)] [] := by
  unfold F_X11_thrownAlready_0 at hF
  refine mw_iconst C dX11_thrownAlready_0 ?_
  refine mw_istore [(5, iv 0), (0, rfv (xd (zX Z)) 0), (1, rfv (xd (zX Z)) x1), (2, iv x2), (3, lvv x3)] C dX11_thrownAlready_1 (by decide) rfl ?_
  refine mw_sub [1, 2, 3, 4, 0] rfl ?_
  exact T_X11_thrownAlready_3 C 20000 x1 x2 x3 0 hk_x1 _ _ hF
def F_X11_thrownAlready (x1 : Nat) (x2 : Int) (x3 : Int) (h : MH) : Option (Int × MH) := F_X11_thrownAlready_0 x1 x2 x3 h
theorem T_X11_thrownAlready (l : Launch) (X : XT) (x1 : Nat) (x2 : Int) (x3 : Int) (hk_x1 : zK x1 = (22, 60) ∧ x1 < zN ∧ 60 < 2147483648) (h : MH) (t : (Int × MH)) (hF : F_X11_thrownAlready x1 x2 x3 h = some t) : Ct l X yX11_thrownAlready cX11_thrownAlready 6 (some .boolean) 1 [rfv (xd X) 0, rfv (xd X) x1, iv x2, lvv x3] zN zG h (some (iv t.1)) zN zG t.2 0 0 := by
  refine Ct.head (by decide) (Nat.le_of_ble_eq_true rfl) (fun Z hX hl _ _ _ C => ?_)
  subst hX
  subst hl
  exact (T_X11_thrownAlready_0 C x1 x2 x3 hk_x1 _ _ hF)
/-! BottleLine.thrownForGlass([JI)I -/
def F_X11_thrownForGlass_79 (k5 : Nat → Int → Int → Int → MH → Option (Int × MH)) (k46 : Nat → Int → Int → Int → Int → Int → MH → Option (Int × MH)) (x1 : Nat) (x2 : Int) (x3 : Int) (x4 : Int) (x5 : Int) (x6 : Int) (h : MH) : Option (Int × MH) :=
  nx (x6 + 1) fun v1 =>
  k46 x1 x2 x3 x4 x5 v1 h
set_option maxRecDepth 100000 in
theorem T_X11_thrownForGlass_79 {Z : ZT} (C : Cx Z cX11_thrownForGlass 8 RX11 2 (some .int)) (k5 : Nat → Int → Int → Int → MH → Option (Int × MH)) (hk5 : ∀ (x1 : Nat) (x2 : Int) (x3 : Int) (x4 : Int) (hk_x1 : zK x1 = (22, 60) ∧ x1 < zN ∧ 60 < 2147483648) (h : MH) (t : (Int × MH)), k5 x1 x2 x3 x4 h = some t → MW Z (Qm Z (some (iv t.1)) zN zG t.2 0 0) 8 zN zG h 0 0 5 [(0, rfv (xd (zX Z)) 0), (1, rfv (xd (zX Z)) x1), (2, iv x2), (3, iv x3), (4, iv x4)] []) (k46 : Nat → Int → Int → Int → Int → Int → MH → Option (Int × MH)) (hk46 : ∀ (x1 : Nat) (x2 : Int) (x3 : Int) (x4 : Int) (x5 : Int) (x6 : Int) (hk_x1 : zK x1 = (22, 60) ∧ x1 < zN ∧ 60 < 2147483648) (h : MH) (t : (Int × MH)), k46 x1 x2 x3 x4 x5 x6 h = some t → MW Z (Qm Z (some (iv t.1)) zN zG t.2 0 0) 8 zN zG h 0 0 46 [(0, rfv (xd (zX Z)) 0), (1, rfv (xd (zX Z)) x1), (2, iv x2), (3, iv x3), (4, iv x4), (5, iv x5), (6, lvv x6)] []) (x1 : Nat) (x2 : Int) (x3 : Int) (x4 : Int) (x5 : Int) (x6 : Int) (hk_x1 : zK x1 = (22, 60) ∧ x1 < zN ∧ 60 < 2147483648) (h : MH) (t : (Int × MH)) (hF : F_X11_thrownForGlass_79 k5 k46 x1 x2 x3 x4 x5 x6 h = some t) : MW Z (Qm Z (some (iv t.1)) zN zG t.2 0 0) 8 zN zG h 0 0 79 [(0, rfv (xd (zX Z)) 0), (1, rfv (xd (zX Z)) x1), (2, iv x2), (3, iv x3), (4, iv x4), (5, iv x5), (6, lvv x6)] [] := by
  unfold F_X11_thrownForGlass_79 at hF
  refine mw_lload 6 C dX11_thrownForGlass_79 rfl ?_
  refine mw_lconst (a := 1) C dX11_thrownForGlass_81 lc_1 ?_
  refine mw_ladd C dX11_thrownForGlass_82 ?_
  obtain ⟨v1, ev1, hF⟩ := nx_some hF
  refine mw_tl ev1 ?_
  refine mw_lstore [(6, lvv v1), (0, rfv (xd (zX Z)) 0), (1, rfv (xd (zX Z)) x1), (2, iv x2), (3, iv x3), (4, iv x4), (5, iv x5)] C dX11_thrownForGlass_83 (by decide) rfl ?_
  refine mw_goto (tgt := 46) C dX11_thrownForGlass_85 (by decide) ?_
  refine mw_sub [1, 2, 3, 4, 5, 6, 0] rfl ?_
  exact hk46 x1 x2 x3 x4 x5 v1 hk_x1 _ _ hF
def F_X11_thrownForGlass_46 (k5 : Nat → Int → Int → Int → MH → Option (Int × MH)) : Nat → Nat → Int → Int → Int → Int → Int → MH → Option (Int × MH)
  | 0, _, _, _, _, _, _, _ => none
  | n + 1, x1, x2, x3, x4, x5, x6, h =>
    ck (0 ≤ ((2 * x4) + 1) ∧ ((2 * x4) + 1) < 60) <|
    ck (in32 x5) <|
    ck (in64 x6) <|
    ck (in64 ((h x1 ((2 * x4) + 1).toNat) + x5)) <|
    if ((h x1 ((2 * x4) + 1).toNat) + x5) < x6 then
      k5 x1 x2 x3 (x4 + 1) h
    else
      (F_X11_thrownAlready x1 x4 x6 h).bind fun q6 =>
      ck (in32 q6.1) <|
      if q6.1 ≠ 0 then
        F_X11_thrownForGlass_79 k5 (F_X11_thrownForGlass_46 k5 n) x1 x2 x3 x4 x5 x6 q6.2
      else
        F_X11_thrownForGlass_79 k5 (F_X11_thrownForGlass_46 k5 n) x1 x2 (x3 + 1) x4 x5 x6 q6.2
set_option maxRecDepth 100000 in
theorem T_X11_thrownForGlass_46 {Z : ZT} (C : Cx Z cX11_thrownForGlass 8 RX11 2 (some .int)) (k5 : Nat → Int → Int → Int → MH → Option (Int × MH)) (hk5 : ∀ (x1 : Nat) (x2 : Int) (x3 : Int) (x4 : Int) (hk_x1 : zK x1 = (22, 60) ∧ x1 < zN ∧ 60 < 2147483648) (h : MH) (t : (Int × MH)), k5 x1 x2 x3 x4 h = some t → MW Z (Qm Z (some (iv t.1)) zN zG t.2 0 0) 8 zN zG h 0 0 5 [(0, rfv (xd (zX Z)) 0), (1, rfv (xd (zX Z)) x1), (2, iv x2), (3, iv x3), (4, iv x4)] []) : ∀ (n : Nat) (x1 : Nat) (x2 : Int) (x3 : Int) (x4 : Int) (x5 : Int) (x6 : Int) (hk_x1 : zK x1 = (22, 60) ∧ x1 < zN ∧ 60 < 2147483648) (h : MH) (t : (Int × MH)), F_X11_thrownForGlass_46 k5 n x1 x2 x3 x4 x5 x6 h = some t → MW Z (Qm Z (some (iv t.1)) zN zG t.2 0 0) 8 zN zG h 0 0 46 [(0, rfv (xd (zX Z)) 0), (1, rfv (xd (zX Z)) x1), (2, iv x2), (3, iv x3), (4, iv x4), (5, iv x5), (6, lvv x6)] [] := by
  intro n
  induction n with
  | zero =>
    intros
    rename_i hF
    exact absurd hF (by intro q; cases q)
  | succ n ih =>
    intro x1 x2 x3 x4 x5 x6 hk_x1 h t hF
    rw [F_X11_thrownForGlass_46] at hF
    refine mw_lload 6 C dX11_thrownForGlass_46 rfl ?_
    refine mw_aload_n 1 C dX11_thrownForGlass_48 rfl rfl ?_
    refine mw_iconst C dX11_thrownForGlass_49 ?_
    refine mw_iload 4 C dX11_thrownForGlass_50 rfl ?_
    refine mw_imul C dX11_thrownForGlass_52 ?_
    refine mw_iconst C dX11_thrownForGlass_53 ?_
    refine mw_iadd C dX11_thrownForGlass_54 ?_
    obtain ⟨g1, hF⟩ := ck_some hF
    refine mw_lald C dX11_thrownForGlass_55 hk_x1.2.1 hk_x1.1 hk_x1.2.2 g1 ?_
    refine mw_iload 5 C dX11_thrownForGlass_56 rfl ?_
    obtain ⟨g2, hF⟩ := ck_some hF
    refine mw_i2l C dX11_thrownForGlass_58 g2 ?_
    refine mw_ladd C dX11_thrownForGlass_59 ?_
    obtain ⟨g3, hF⟩ := ck_some hF
    obtain ⟨g4, hF⟩ := ck_some hF
    rcases ite_some hF with ⟨c5, hF⟩ | ⟨c5, hF⟩
    · refine mw_lcmp_gt_t (tgt := 88) C dX11_thrownForGlass_60 dX11_thrownForGlass_61 (by decide) g3 g4 c5 ?_
      refine mw_iinc 4 [(4, iv (x4 + 1)), (0, rfv (xd (zX Z)) 0), (1, rfv (xd (zX Z)) x1), (2, iv x2), (3, iv x3), (5, iv x5), (6, lvv x6)] C dX11_thrownForGlass_88 rfl (by decide) rfl ?_
      refine mw_goto (tgt := 5) C dX11_thrownForGlass_91 (by decide) ?_
      refine mw_sub [1, 2, 3, 4, 0] rfl ?_
      exact hk5 x1 x2 x3 (x4 + 1) hk_x1 _ _ hF
    · refine mw_lcmp_gt_f (tgt := 88) C dX11_thrownForGlass_60 dX11_thrownForGlass_61 (by decide) g3 g4 c5 ?_
      refine mw_aload_n 0 C dX11_thrownForGlass_64 rfl rfl ?_
      refine mw_aload_n 1 C dX11_thrownForGlass_65 rfl rfl ?_
      refine mw_iload 4 C dX11_thrownForGlass_66 rfl ?_
      refine mw_lload 6 C dX11_thrownForGlass_68 rfl ?_
      obtain ⟨q6, hq6, hF⟩ := bind_some hF
      refine mw_callV (c := 0) [rfv (xd (zX Z)) x1, iv x4, lvv x6] [] C dX11_thrownForGlass_70 (T_X11_thrownAlready (zl Z) (zX Z) x1 x4 x6 hk_x1 _ _ hq6) rfl zn0 zk0 (by decide) rfl wd808 wd809 wd1354 wd1 wd810 hd_X11_thrownAlready rfl (by decide) (by decide) (Nat.le_of_ble_eq_true rfl) ⟨Nat.zero_le _, Nat.zero_le _⟩ ?_
      obtain ⟨g7, hF⟩ := ck_some hF
      rcases ite_some hF with ⟨c8, hF⟩ | ⟨c8, hF⟩
      · refine mw_if_ne_t (tgt := 79) C dX11_thrownForGlass_73 (by decide) g7 c8 ?_
        exact T_X11_thrownForGlass_79 C k5 hk5 (F_X11_thrownForGlass_46 k5 n) ih x1 x2 x3 x4 x5 x6 hk_x1 _ _ hF
      · refine mw_if_ne_f (tgt := 79) C dX11_thrownForGlass_73 (by decide) g7 c8 ?_
        refine mw_iinc 3 [(3, iv (x3 + 1)), (0, rfv (xd (zX Z)) 0), (1, rfv (xd (zX Z)) x1), (2, iv x2), (4, iv x4), (5, iv x5), (6, lvv x6)] C dX11_thrownForGlass_76 rfl (by decide) rfl ?_
        refine mw_sub [1, 2, 3, 0, 4, 5, 6] rfl ?_
        exact T_X11_thrownForGlass_79 C k5 hk5 (F_X11_thrownForGlass_46 k5 n) ih x1 x2 (x3 + 1) x4 x5 x6 hk_x1 _ _ hF
def F_X11_thrownForGlass_5 : Nat → Nat → Int → Int → Int → MH → Option (Int × MH)
  | 0, _, _, _, _, _ => none
  | n + 1, x1, x2, x3, x4, h =>
    ck (in32 x4) <|
    ck (in32 x2) <|
    if x2 ≤ x4 then
      some (x3, h)
    else
      ck (0 ≤ (2 * x4) ∧ (2 * x4) < 60) <|
      ck (0 ≤ (h x1 (2 * x4).toNat) ∧ (h x1 (2 * x4).toNat) < 6) <|
      nx (h 47 (h x1 (2 * x4).toNat).toNat) fun v6 =>
      ck (0 ≤ ((2 * x4) + 1) ∧ ((2 * x4) + 1) < 60) <|
      ck (in32 v6) <|
      ck (in64 ((h x1 ((2 * x4) + 1).toNat) - v6)) <|
      nx (max 0 ((h x1 ((2 * x4) + 1).toNat) - v6)) fun v10 =>
      F_X11_thrownForGlass_46 (F_X11_thrownForGlass_5 n) 20000 x1 x2 x3 x4 v6 v10 h
set_option maxRecDepth 100000 in
theorem T_X11_thrownForGlass_5 {Z : ZT} (C : Cx Z cX11_thrownForGlass 8 RX11 2 (some .int)) : ∀ (n : Nat) (x1 : Nat) (x2 : Int) (x3 : Int) (x4 : Int) (hk_x1 : zK x1 = (22, 60) ∧ x1 < zN ∧ 60 < 2147483648) (h : MH) (t : (Int × MH)), F_X11_thrownForGlass_5 n x1 x2 x3 x4 h = some t → MW Z (Qm Z (some (iv t.1)) zN zG t.2 0 0) 8 zN zG h 0 0 5 [(0, rfv (xd (zX Z)) 0), (1, rfv (xd (zX Z)) x1), (2, iv x2), (3, iv x3), (4, iv x4)] [] := by
  intro n
  induction n with
  | zero =>
    intros
    rename_i hF
    exact absurd hF (by intro q; cases q)
  | succ n ih =>
    intro x1 x2 x3 x4 hk_x1 h t hF
    rw [F_X11_thrownForGlass_5] at hF
    refine mw_iload 4 C dX11_thrownForGlass_5 rfl ?_
    refine mw_iload_n 2 C dX11_thrownForGlass_7 rfl rfl ?_
    obtain ⟨g1, hF⟩ := ck_some hF
    obtain ⟨g2, hF⟩ := ck_some hF
    rcases ite_some hF with ⟨c3, hF⟩ | ⟨c3, hF⟩
    · refine mw_icmp_ge_t (tgt := 94) C dX11_thrownForGlass_8 (by decide) g1 g2 c3 ?_
      refine mw_iload_n 3 C dX11_thrownForGlass_94 rfl rfl ?_
      cases hF
      exact mw_iret C dX11_thrownForGlass_95 rfl rfl
    · refine mw_icmp_ge_f (tgt := 94) C dX11_thrownForGlass_8 (by decide) g1 g2 c3 ?_
      refine mw_aload_n 0 C dX11_thrownForGlass_11 rfl rfl ?_
      refine mw_get (k := 9) (T := TX11) (v := rfv (xd (zX Z)) 34) C dX11_thrownForGlass_12 zn0 zk0 (by decide) rfl inX11 (by decide) wd258 rfl (zfv_r rfl zg_0_9) ?_
      refine mw_get (k := 2) (T := TX5) (v := rfv (xd (zX Z)) 47) C dX11_thrownForGlass_15 zn34 zk34 (by decide) rfl inX5 (by decide) wd127 rfl (zfv_r rfl zg_34_2) ?_
      refine mw_aload_n 1 C dX11_thrownForGlass_18 rfl rfl ?_
      refine mw_iconst C dX11_thrownForGlass_19 ?_
      refine mw_iload 4 C dX11_thrownForGlass_20 rfl ?_
      refine mw_imul C dX11_thrownForGlass_22 ?_
      obtain ⟨g4, hF⟩ := ck_some hF
      refine mw_lald C dX11_thrownForGlass_23 hk_x1.2.1 hk_x1.1 hk_x1.2.2 g4 ?_
      refine mw_l2i C dX11_thrownForGlass_24 ?_
      obtain ⟨g5, hF⟩ := ck_some hF
      refine mw_iald C dX11_thrownForGlass_25 zn47 zk47 (by decide) g5 ?_
      obtain ⟨v6, ev6, hF⟩ := nx_some hF
      refine mw_ti ev6 ?_
      refine mw_istore [(5, iv v6), (0, rfv (xd (zX Z)) 0), (1, rfv (xd (zX Z)) x1), (2, iv x2), (3, iv x3), (4, iv x4)] C dX11_thrownForGlass_26 (by decide) rfl ?_
      refine mw_lconst (a := 0) C dX11_thrownForGlass_28 lc_0 ?_
      refine mw_aload_n 2 C dX11_thrownForGlass_29 rfl rfl ?_
      refine mw_iconst C dX11_thrownForGlass_30 ?_
      refine mw_iload 5 C dX11_thrownForGlass_31 rfl ?_
      refine mw_imul C dX11_thrownForGlass_33 ?_
      refine mw_iconst C dX11_thrownForGlass_34 ?_
      refine mw_iadd C dX11_thrownForGlass_35 ?_
      obtain ⟨g7, hF⟩ := ck_some hF
      refine mw_lald C dX11_thrownForGlass_36 hk_x1.2.1 hk_x1.1 hk_x1.2.2 g7 ?_
      refine mw_iload 0 C dX11_thrownForGlass_37 rfl ?_
      obtain ⟨g8, hF⟩ := ck_some hF
      refine mw_i2l C dX11_thrownForGlass_39 g8 ?_
      refine mw_lsub C dX11_thrownForGlass_40 ?_
      obtain ⟨g9, hF⟩ := ck_some hF
      refine mw_mmaxL C dX11_thrownForGlass_41 wd805 wd806 wd16 wd807 (by decide) (Nat.le_of_ble_eq_true rfl) ⟨Nat.zero_le _, Nat.zero_le _⟩ (by decide) g9 ?_
      obtain ⟨v10, ev10, hF⟩ := nx_some hF
      refine mw_tl ev10 ?_
      refine mw_lstore [(6, lvv v10), (5, iv v6), (0, rfv (xd (zX Z)) 0), (1, rfv (xd (zX Z)) x1), (2, iv x2), (3, iv x3), (4, iv x4)] C dX11_thrownForGlass_44 (by decide) rfl ?_
      refine mw_sub [2, 3, 4, 5, 6, 1, 0] rfl ?_
      exact T_X11_thrownForGlass_46 C (F_X11_thrownForGlass_5 n) ih 20000 x1 x2 x3 x4 v6 v10 hk_x1 _ _ hF
def F_X11_thrownForGlass_0 (x1 : Nat) (x2 : Int) (h : MH) : Option (Int × MH) :=
  F_X11_thrownForGlass_5 20000 x1 x2 0 0 h
set_option maxRecDepth 100000 in
theorem T_X11_thrownForGlass_0 {Z : ZT} (C : Cx Z cX11_thrownForGlass 8 RX11 2 (some .int)) (x1 : Nat) (x2 : Int) (hk_x1 : zK x1 = (22, 60) ∧ x1 < zN ∧ 60 < 2147483648) (h : MH) (t : (Int × MH)) (hF : F_X11_thrownForGlass_0 x1 x2 h = some t) : MW Z (Qm Z (some (iv t.1)) zN zG t.2 0 0) 8 zN zG h 0 0 0 [(0, rfv (xd (zX Z)) 0), (1, rfv (xd (zX Z)) x1), (2, iv x2)] [] := by
  unfold F_X11_thrownForGlass_0 at hF
  refine mw_iconst C dX11_thrownForGlass_0 ?_
  refine mw_istore_n [(3, iv 0), (0, rfv (xd (zX Z)) 0), (1, rfv (xd (zX Z)) x1), (2, iv x2)] C dX11_thrownForGlass_1 rfl (by decide) rfl ?_
  refine mw_iconst C dX11_thrownForGlass_2 ?_
  refine mw_istore [(4, iv 0), (3, iv 0), (0, rfv (xd (zX Z)) 0), (1, rfv (xd (zX Z)) x1), (2, iv x2)] C dX11_thrownForGlass_3 (by decide) rfl ?_
  refine mw_sub [2, 3, 4, 1, 0] rfl ?_
  exact T_X11_thrownForGlass_5 C 20000 x1 x2 0 0 hk_x1 _ _ hF
def F_X11_thrownForGlass (x1 : Nat) (x2 : Int) (h : MH) : Option (Int × MH) := F_X11_thrownForGlass_0 x1 x2 h
theorem T_X11_thrownForGlass (l : Launch) (X : XT) (x1 : Nat) (x2 : Int) (hk_x1 : zK x1 = (22, 60) ∧ x1 < zN ∧ 60 < 2147483648) (h : MH) (t : (Int × MH)) (hF : F_X11_thrownForGlass x1 x2 h = some t) : Ct l X yX11_thrownForGlass cX11_thrownForGlass 8 (some .int) 2 [rfv (xd X) 0, rfv (xd X) x1, iv x2] zN zG h (some (iv t.1)) zN zG t.2 0 0 := by
  refine Ct.head (by decide) (Nat.le_of_ble_eq_true rfl) (fun Z hX hl _ _ _ C => ?_)
  subst hX
  subst hl
  exact (T_X11_thrownForGlass_0 C x1 x2 hk_x1 _ _ hF)
/-! BottleLine.glass(II)I -/
def F_X11_glass_19 (h : MH) : Option (Int × MH) :=
  (F_X11_none 1 h).bind fun q1 =>
  some (q1.1, q1.2)
set_option maxRecDepth 100000 in
theorem T_X11_glass_19 {Z : ZT} (C : Cx Z cX11_glass 6 RX11 3 (some .int)) (h : MH) (t : (Int × MH)) (hF : F_X11_glass_19 h = some t) : MW Z (Qm Z (some (iv t.1)) zN zG t.2 0 0) 6 zN zG h 0 0 19 [(0, rfv (xd (zX Z)) 0)] [] := by
  unfold F_X11_glass_19 at hF
  refine mw_aload_n 0 C dX11_glass_19 rfl rfl ?_
  refine mw_iconst C dX11_glass_20 ?_
  obtain ⟨q1, hq1, hF⟩ := bind_some hF
  refine mw_callV (c := 0) [iv 1] [] C dX11_glass_21 (T_X11_none (zl Z) (zX Z) 1 _ _ hq1) rfl zn0 zk0 (by decide) rfl wd315 wd316 wd1311 wd1 wd317 hd_X11_none rfl (by decide) (by decide) (Nat.le_of_ble_eq_true rfl) ⟨Nat.zero_le _, Nat.zero_le _⟩ ?_
  cases hF
  exact mw_iret C dX11_glass_24 rfl rfl
def F_X11_glass_107 (h : MH) : Option (Int × MH) :=
  (F_X11_none 5 h).bind fun q1 =>
  some (q1.1, q1.2)
set_option maxRecDepth 100000 in
theorem T_X11_glass_107 {Z : ZT} (C : Cx Z cX11_glass 6 RX11 3 (some .int)) (h : MH) (t : (Int × MH)) (hF : F_X11_glass_107 h = some t) : MW Z (Qm Z (some (iv t.1)) zN zG t.2 0 0) 6 zN zG h 0 0 107 [(0, rfv (xd (zX Z)) 0)] [] := by
  unfold F_X11_glass_107 at hF
  refine mw_aload_n 0 C dX11_glass_107 rfl rfl ?_
  refine mw_iconst C dX11_glass_108 ?_
  obtain ⟨q1, hq1, hF⟩ := bind_some hF
  refine mw_callV (c := 0) [iv 5] [] C dX11_glass_109 (T_X11_none (zl Z) (zX Z) 5 _ _ hq1) rfl zn0 zk0 (by decide) rfl wd315 wd316 wd1311 wd1 wd317 hd_X11_none rfl (by decide) (by decide) (Nat.le_of_ble_eq_true rfl) ⟨Nat.zero_le _, Nat.zero_le _⟩ ?_
  cases hF
  exact mw_iret C dX11_glass_112 rfl rfl
def F_X11_glass_55 : Nat → Int → Nat → Int → MH → Option (Int × MH)
  | 0, _, _, _, _ => none
  | n + 1, x2, x4, x5, h =>
    ck (in32 x5) <|
    ck (in32 x2) <|
    if x2 ≤ x5 then
      (F_X11_thrownForGlass x4 x2 h).bind fun q4 =>
      (F_X11_answer q4.1 q4.2).bind fun q5 =>
      some (q5.1, q5.2)
    else
      ck (0 ≤ (2 * x5) ∧ (2 * x5) < 60) <|
      ck (in32 ((h 35 0) - 1)) <|
      (F_X11_outside (h x4 (2 * x5).toNat) 0 ((h 35 0) - 1) h).bind fun q8 =>
      ck (in32 q8.1) <|
      if q8.1 ≠ 0 then
        F_X11_glass_107 q8.2
      else
        ck (0 ≤ ((2 * x5) + 1) ∧ ((2 * x5) + 1) < 60) <|
        (F_X11_outside (q8.2 x4 ((2 * x5) + 1).toNat) 0 9999 q8.2).bind fun q12 =>
        ck (in32 q12.1) <|
        if q12.1 = 0 then
          F_X11_glass_55 n x2 x4 (x5 + 1) q12.2
        else
          F_X11_glass_107 q12.2
set_option maxRecDepth 100000 in
theorem T_X11_glass_55 {Z : ZT} (C : Cx Z cX11_glass 6 RX11 3 (some .int)) : ∀ (n : Nat) (x2 : Int) (x4 : Nat) (x5 : Int) (hk_x4 : zK x4 = (22, 60) ∧ x4 < zN ∧ 60 < 2147483648) (h : MH) (t : (Int × MH)), F_X11_glass_55 n x2 x4 x5 h = some t → MW Z (Qm Z (some (iv t.1)) zN zG t.2 0 0) 6 zN zG h 0 0 55 [(0, rfv (xd (zX Z)) 0), (2, iv x2), (4, rfv (xd (zX Z)) x4), (5, iv x5)] [] := by
  intro n
  induction n with
  | zero =>
    intros
    rename_i hF
    exact absurd hF (by intro q; cases q)
  | succ n ih =>
    intro x2 x4 x5 hk_x4 h t hF
    rw [F_X11_glass_55] at hF
    refine mw_iload 3 C dX11_glass_55 rfl ?_
    refine mw_iload_n 1 C dX11_glass_57 rfl rfl ?_
    obtain ⟨g1, hF⟩ := ck_some hF
    obtain ⟨g2, hF⟩ := ck_some hF
    rcases ite_some hF with ⟨c3, hF⟩ | ⟨c3, hF⟩
    · refine mw_icmp_ge_t (tgt := 119) C dX11_glass_58 (by decide) g1 g2 c3 ?_
      refine mw_aload_n 0 C dX11_glass_119 rfl rfl ?_
      refine mw_aload_n 0 C dX11_glass_120 rfl rfl ?_
      refine mw_aload 2 C dX11_glass_121 rfl ?_
      refine mw_iload_n 1 C dX11_glass_123 rfl rfl ?_
      obtain ⟨q4, hq4, hF⟩ := bind_some hF
      refine mw_callV (c := 0) [rfv (xd (zX Z)) x4, iv x2] [rfv (xd (zX Z)) 0] C dX11_glass_124 (T_X11_thrownForGlass (zl Z) (zX Z) x4 x2 hk_x4 _ _ hq4) rfl zn0 zk0 (by decide) rfl wd802 wd803 wd1353 wd1 wd804 hd_X11_thrownForGlass rfl (by decide) (by decide) (Nat.le_of_ble_eq_true rfl) ⟨Nat.zero_le _, Nat.zero_le _⟩ ?_
      obtain ⟨q5, hq5, hF⟩ := bind_some hF
      refine mw_callV (c := 0) [iv q4.1] [] C dX11_glass_127 (T_X11_answer (zl Z) (zX Z) q4.1 _ _ hq5) rfl zn0 zk0 (by decide) rfl wd494 wd495 wd1325 wd1 wd496 hd_X11_answer rfl (by decide) (by decide) (Nat.le_of_ble_eq_true rfl) ⟨Nat.zero_le _, Nat.zero_le _⟩ ?_
      cases hF
      exact mw_iret C dX11_glass_130 rfl rfl
    · refine mw_icmp_ge_f (tgt := 119) C dX11_glass_58 (by decide) g1 g2 c3 ?_
      refine mw_aload 2 C dX11_glass_61 rfl ?_
      refine mw_iconst C dX11_glass_63 ?_
      refine mw_iload 3 C dX11_glass_64 rfl ?_
      refine mw_imul C dX11_glass_66 ?_
      obtain ⟨g6, hF⟩ := ck_some hF
      refine mw_lald C dX11_glass_67 hk_x4.2.1 hk_x4.1 hk_x4.2.2 g6 ?_
      refine mw_lconst (a := 0) C dX11_glass_68 lc_0 ?_
      refine mw_aload_n 0 C dX11_glass_69 rfl rfl ?_
      refine mw_get (k := 9) (T := TX11) (v := rfv (xd (zX Z)) 34) C dX11_glass_70 zn0 zk0 (by decide) rfl inX11 (by decide) wd258 rfl (zfv_r rfl zg_0_9) ?_
      refine mw_get (k := 0) (T := TX5) (v := rfv (xd (zX Z)) 35) C dX11_glass_73 zn34 zk34 (by decide) rfl inX5 (by decide) wd121 rfl (zfv_r rfl zg_34_0) ?_
      refine mw_get (k := 0) (T := TX1) (v := iv (h 35 0)) C dX11_glass_76 zn35 zk35 (by decide) rfl inX1 (by decide) wd81 rfl rfl ?_
      refine mw_iconst C dX11_glass_79 ?_
      refine mw_isub C dX11_glass_80 ?_
      obtain ⟨g7, hF⟩ := ck_some hF
      refine mw_i2l C dX11_glass_81 g7 ?_
      obtain ⟨q8, hq8, hF⟩ := bind_some hF
      refine mw_callS [lvv (h x4 (2 * x5).toNat), lvv 0, lvv ((h 35 0) - 1)] [] C dX11_glass_82 (T_X11_outside (zl Z) (zX Z) (h x4 (2 * x5).toNat) 0 ((h 35 0) - 1) _ _ hq8) rfl wd288 wd289 wd1 wd290 hd_X11_outside rfl (by decide) (by decide) (Nat.le_of_ble_eq_true rfl) ⟨Nat.zero_le _, Nat.zero_le _⟩ ?_
      obtain ⟨g9, hF⟩ := ck_some hF
      rcases ite_some hF with ⟨c10, hF⟩ | ⟨c10, hF⟩
      · refine mw_if_ne_t (tgt := 107) C dX11_glass_85 (by decide) g9 c10 ?_
        refine mw_sub [0] rfl ?_
        exact T_X11_glass_107 C _ _ hF
      · refine mw_if_ne_f (tgt := 107) C dX11_glass_85 (by decide) g9 c10 ?_
        refine mw_aload 2 C dX11_glass_88 rfl ?_
        refine mw_iconst C dX11_glass_90 ?_
        refine mw_iload 3 C dX11_glass_91 rfl ?_
        refine mw_imul C dX11_glass_93 ?_
        refine mw_iconst C dX11_glass_94 ?_
        refine mw_iadd C dX11_glass_95 ?_
        obtain ⟨g11, hF⟩ := ck_some hF
        refine mw_lald C dX11_glass_96 hk_x4.2.1 hk_x4.1 hk_x4.2.2 g11 ?_
        refine mw_lconst (a := 0) C dX11_glass_97 lc_0 ?_
        refine mw_ldc2 (a := 9999) C dX11_glass_98 wd589 rfl ?_
        obtain ⟨q12, hq12, hF⟩ := bind_some hF
        refine mw_callS [lvv (q8.2 x4 ((2 * x5) + 1).toNat), lvv 0, lvv 9999] [] C dX11_glass_101 (T_X11_outside (zl Z) (zX Z) (q8.2 x4 ((2 * x5) + 1).toNat) 0 9999 _ _ hq12) rfl wd288 wd289 wd1 wd290 hd_X11_outside rfl (by decide) (by decide) (Nat.le_of_ble_eq_true rfl) ⟨Nat.zero_le _, Nat.zero_le _⟩ ?_
        obtain ⟨g13, hF⟩ := ck_some hF
        rcases ite_some hF with ⟨c14, hF⟩ | ⟨c14, hF⟩
        · refine mw_if_eq_t (tgt := 113) C dX11_glass_104 (by decide) g13 c14 ?_
          refine mw_iinc 3 [(5, iv (x5 + 1)), (0, rfv (xd (zX Z)) 0), (2, iv x2), (4, rfv (xd (zX Z)) x4)] C dX11_glass_113 rfl (by decide) rfl ?_
          refine mw_goto (tgt := 55) C dX11_glass_116 (by decide) ?_
          refine mw_sub [1, 2, 3, 0] rfl ?_
          exact ih x2 x4 (x5 + 1) hk_x4 _ _ hF
        · refine mw_if_eq_f (tgt := 113) C dX11_glass_104 (by decide) g13 c14 ?_
          refine mw_sub [0] rfl ?_
          exact T_X11_glass_107 C _ _ hF
def F_X11_glass_0 (x1 : Int) (x2 : Int) (h : MH) : Option (Int × MH) :=
  (F_X11_isTray x1 h).bind fun q1 =>
  ck (in32 q1.1) <|
  if q1.1 = 0 then
    F_X11_glass_19 q1.2
  else
    ck (in32 x2) <|
    (F_X11_outside x2 1 20 q1.2).bind fun q5 =>
    ck (in32 q5.1) <|
    if q5.1 = 0 then
      (F_X11_rowLack x1 (2 * x2) q5.2).bind fun q8 =>
      ck (in32 q8.1) <|
      if q8.1 = 0 then
        ck (0 ≤ x1 ∧ x1 < 4) <|
        F_X11_glass_55 20000 x2 (2 + x1.toNat) 0 q8.2
      else
        (F_X11_none q8.1 q8.2).bind fun q12 =>
        some (q12.1, q12.2)
    else
      F_X11_glass_19 q5.2
set_option maxRecDepth 100000 in
theorem T_X11_glass_0 {Z : ZT} (C : Cx Z cX11_glass 6 RX11 3 (some .int)) (x1 : Int) (x2 : Int) (h : MH) (t : (Int × MH)) (hF : F_X11_glass_0 x1 x2 h = some t) : MW Z (Qm Z (some (iv t.1)) zN zG t.2 0 0) 6 zN zG h 0 0 0 [(0, rfv (xd (zX Z)) 0), (1, iv x1), (2, iv x2)] [] := by
  unfold F_X11_glass_0 at hF
  refine mw_iload_n 1 C dX11_glass_0 rfl rfl ?_
  obtain ⟨q1, hq1, hF⟩ := bind_some hF
  refine mw_callS [iv x1] [] C dX11_glass_1 (T_X11_isTray (zl Z) (zX Z) x1 _ _ hq1) rfl wd284 wd285 wd1 wd286 hd_X11_isTray rfl (by decide) (by decide) (Nat.le_of_ble_eq_true rfl) ⟨Nat.zero_le _, Nat.zero_le _⟩ ?_
  obtain ⟨g2, hF⟩ := ck_some hF
  rcases ite_some hF with ⟨c3, hF⟩ | ⟨c3, hF⟩
  · refine mw_if_eq_t (tgt := 19) C dX11_glass_4 (by decide) g2 c3 ?_
    refine mw_sub [0] rfl ?_
    exact T_X11_glass_19 C _ _ hF
  · refine mw_if_eq_f (tgt := 19) C dX11_glass_4 (by decide) g2 c3 ?_
    refine mw_iload_n 2 C dX11_glass_7 rfl rfl ?_
    obtain ⟨g4, hF⟩ := ck_some hF
    refine mw_i2l C dX11_glass_8 g4 ?_
    refine mw_lconst (a := 1) C dX11_glass_9 lc_1 ?_
    refine mw_ldc2 (a := 20) C dX11_glass_10 wd662 rfl ?_
    obtain ⟨q5, hq5, hF⟩ := bind_some hF
    refine mw_callS [lvv x2, lvv 1, lvv 20] [] C dX11_glass_13 (T_X11_outside (zl Z) (zX Z) x2 1 20 _ _ hq5) rfl wd288 wd289 wd1 wd290 hd_X11_outside rfl (by decide) (by decide) (Nat.le_of_ble_eq_true rfl) ⟨Nat.zero_le _, Nat.zero_le _⟩ ?_
    obtain ⟨g6, hF⟩ := ck_some hF
    rcases ite_some hF with ⟨c7, hF⟩ | ⟨c7, hF⟩
    · refine mw_if_eq_t (tgt := 25) C dX11_glass_16 (by decide) g6 c7 ?_
      refine mw_aload_n 0 C dX11_glass_25 rfl rfl ?_
      refine mw_iload_n 1 C dX11_glass_26 rfl rfl ?_
      refine mw_iconst C dX11_glass_27 ?_
      refine mw_iload_n 2 C dX11_glass_28 rfl rfl ?_
      refine mw_imul C dX11_glass_29 ?_
      obtain ⟨q8, hq8, hF⟩ := bind_some hF
      refine mw_callV (c := 0) [iv x1, iv (2 * x2)] [] C dX11_glass_30 (T_X11_rowLack (zl Z) (zX Z) x1 (2 * x2) _ _ hq8) rfl zn0 zk0 (by decide) rfl wd750 wd751 wd1349 wd1 wd752 hd_X11_rowLack rfl (by decide) (by decide) (Nat.le_of_ble_eq_true rfl) ⟨Nat.zero_le _, Nat.zero_le _⟩ ?_
      refine mw_istore_n [(3, iv q8.1), (0, rfv (xd (zX Z)) 0), (1, iv x1), (2, iv x2)] C dX11_glass_33 rfl (by decide) rfl ?_
      refine mw_iload_n 0 C dX11_glass_34 rfl rfl ?_
      obtain ⟨g9, hF⟩ := ck_some hF
      rcases ite_some hF with ⟨c10, hF⟩ | ⟨c10, hF⟩
      · refine mw_if_eq_t (tgt := 44) C dX11_glass_35 (by decide) g9 c10 ?_
        refine mw_aload_n 1 C dX11_glass_44 rfl rfl ?_
        refine mw_get (k := 3) (T := TX11) (v := rfv (xd (zX Z)) 1) C dX11_glass_45 zn0 zk0 (by decide) rfl inX11 (by decide) wd252 rfl (zfv_r rfl zg_0_3) ?_
        refine mw_iload_n 2 C dX11_glass_48 rfl rfl ?_
        obtain ⟨g11, hF⟩ := ck_some hF
        refine mw_aald (t := 6) (c2 := (2 + x1.toNat)) (ty := .array .long) C dX11_glass_49 zn1 zk1 (by decide) (fun _ => rfl) rfl (by decide) g11 (zg_26 _) ?_
        refine mw_astore [(4, rfv (xd (zX Z)) (2 + x1.toNat)), (3, iv q8.1), (0, rfv (xd (zX Z)) 0), (1, iv x1), (2, iv x2)] C dX11_glass_50 (by decide) rfl ?_
        refine mw_iconst C dX11_glass_52 ?_
        refine mw_istore [(5, iv 0), (4, rfv (xd (zX Z)) (2 + x1.toNat)), (3, iv q8.1), (0, rfv (xd (zX Z)) 0), (1, iv x1), (2, iv x2)] C dX11_glass_53 (by decide) rfl ?_
        refine mw_sub [3, 5, 1, 0] rfl ?_
        exact T_X11_glass_55 C 20000 x2 (2 + x1.toNat) 0 (ok_row _ (ix_lt g11)) _ _ hF
      · refine mw_if_eq_f (tgt := 44) C dX11_glass_35 (by decide) g9 c10 ?_
        refine mw_aload_n 1 C dX11_glass_38 rfl rfl ?_
        refine mw_iload_n 0 C dX11_glass_39 rfl rfl ?_
        obtain ⟨q12, hq12, hF⟩ := bind_some hF
        refine mw_callV (c := 0) [iv q8.1] [] C dX11_glass_40 (T_X11_none (zl Z) (zX Z) q8.1 _ _ hq12) rfl zn0 zk0 (by decide) rfl wd315 wd316 wd1311 wd1 wd317 hd_X11_none rfl (by decide) (by decide) (Nat.le_of_ble_eq_true rfl) ⟨Nat.zero_le _, Nat.zero_le _⟩ ?_
        cases hF
        exact mw_iret C dX11_glass_43 rfl rfl
    · refine mw_if_eq_f (tgt := 25) C dX11_glass_16 (by decide) g6 c7 ?_
      refine mw_sub [0] rfl ?_
      exact T_X11_glass_19 C _ _ hF
def F_X11_glass (x1 : Int) (x2 : Int) (h : MH) : Option (Int × MH) := F_X11_glass_0 x1 x2 h
theorem T_X11_glass (l : Launch) (X : XT) (x1 : Int) (x2 : Int) (h : MH) (t : (Int × MH)) (hF : F_X11_glass x1 x2 h = some t) : Ct l X yX11_glass cX11_glass 6 (some .int) 3 [rfv (xd X) 0, iv x1, iv x2] zN zG h (some (iv t.1)) zN zG t.2 0 0 := by
  refine Ct.head (by decide) (Nat.le_of_ble_eq_true rfl) (fun Z hX hl _ _ _ C => ?_)
  subst hX
  subst hl
  exact (T_X11_glass_0 C x1 x2 _ _ hF)
/-! BottleLine.order(II)I -/
def F_X11_order_37 (h : MH) : Option (Int × MH) :=
  (F_X11_none 1 h).bind fun q1 =>
  some (q1.1, q1.2)
set_option maxRecDepth 100000 in
theorem T_X11_order_37 {Z : ZT} (C : Cx Z cX11_order 3 RX11 17 (some .int)) (h : MH) (t : (Int × MH)) (hF : F_X11_order_37 h = some t) : MW Z (Qm Z (some (iv t.1)) zN zG t.2 0 0) 3 zN zG h 0 0 37 [(0, rfv (xd (zX Z)) 0)] [] := by
  unfold F_X11_order_37 at hF
  refine mw_aload_n 0 C dX11_order_37 rfl rfl ?_
  refine mw_iconst C dX11_order_38 ?_
  obtain ⟨q1, hq1, hF⟩ := bind_some hF
  refine mw_callV (c := 0) [iv 1] [] C dX11_order_39 (T_X11_none (zl Z) (zX Z) 1 _ _ hq1) rfl zn0 zk0 (by decide) rfl wd315 wd316 wd1311 wd1 wd317 hd_X11_none rfl (by decide) (by decide) (Nat.le_of_ble_eq_true rfl) ⟨Nat.zero_le _, Nat.zero_le _⟩ ?_
  cases hF
  exact mw_iret C dX11_order_42 rfl rfl
def F_X11_order_0 (x1 : Int) (x2 : Int) (h : MH) : Option (Int × MH) :=
  ck (in32 x1) <|
  ck (in32 ((shl32 1 (h 34 4)) - 1)) <|
  (F_X11_outside x1 0 ((shl32 1 (h 34 4)) - 1) h).bind fun q3 =>
  ck (in32 q3.1) <|
  if q3.1 ≠ 0 then
    F_X11_order_37 q3.2
  else
    (F_X11_isSort x2 q3.2).bind fun q6 =>
    ck (in32 q6.1) <|
    if q6.1 = 0 then
      F_X11_order_37 q6.2
    else
      ck (in32 (land32 (shr32 x1 x2) 1)) <|
      if (land32 (shr32 x1 x2) 1) ≠ 0 then
        (F_X10_findOrder 34 x1 x2 q6.2).bind fun q11 =>
        (F_X11_answer q11.1 q11.2).bind fun q12 =>
        some (q12.1, q12.2)
      else
        F_X11_order_37 q6.2
set_option maxRecDepth 100000 in
theorem T_X11_order_0 {Z : ZT} (C : Cx Z cX11_order 3 RX11 17 (some .int)) (x1 : Int) (x2 : Int) (h : MH) (t : (Int × MH)) (hF : F_X11_order_0 x1 x2 h = some t) : MW Z (Qm Z (some (iv t.1)) zN zG t.2 0 0) 3 zN zG h 0 0 0 [(0, rfv (xd (zX Z)) 0), (1, iv x1), (2, iv x2)] [] := by
  unfold F_X11_order_0 at hF
  refine mw_iload_n 1 C dX11_order_0 rfl rfl ?_
  obtain ⟨g1, hF⟩ := ck_some hF
  refine mw_i2l C dX11_order_1 g1 ?_
  refine mw_lconst (a := 0) C dX11_order_2 lc_0 ?_
  refine mw_iconst C dX11_order_3 ?_
  refine mw_aload_n 0 C dX11_order_4 rfl rfl ?_
  refine mw_get (k := 9) (T := TX11) (v := rfv (xd (zX Z)) 34) C dX11_order_5 zn0 zk0 (by decide) rfl inX11 (by decide) wd258 rfl (zfv_r rfl zg_0_9) ?_
  refine mw_get (k := 4) (T := TX5) (v := iv (h 34 4)) C dX11_order_8 zn34 zk34 (by decide) rfl inX5 (by decide) wd133 rfl rfl ?_
  refine mw_ishl C dX11_order_11 ?_
  refine mw_iconst C dX11_order_12 ?_
  refine mw_isub C dX11_order_13 ?_
  obtain ⟨g2, hF⟩ := ck_some hF
  refine mw_i2l C dX11_order_14 g2 ?_
  obtain ⟨q3, hq3, hF⟩ := bind_some hF
  refine mw_callS [lvv x1, lvv 0, lvv ((shl32 1 (h 34 4)) - 1)] [] C dX11_order_15 (T_X11_outside (zl Z) (zX Z) x1 0 ((shl32 1 (h 34 4)) - 1) _ _ hq3) rfl wd288 wd289 wd1 wd290 hd_X11_outside rfl (by decide) (by decide) (Nat.le_of_ble_eq_true rfl) ⟨Nat.zero_le _, Nat.zero_le _⟩ ?_
  obtain ⟨g4, hF⟩ := ck_some hF
  rcases ite_some hF with ⟨c5, hF⟩ | ⟨c5, hF⟩
  · refine mw_if_ne_t (tgt := 37) C dX11_order_18 (by decide) g4 c5 ?_
    refine mw_sub [0] rfl ?_
    exact T_X11_order_37 C _ _ hF
  · refine mw_if_ne_f (tgt := 37) C dX11_order_18 (by decide) g4 c5 ?_
    refine mw_aload_n 0 C dX11_order_21 rfl rfl ?_
    refine mw_iload_n 2 C dX11_order_22 rfl rfl ?_
    obtain ⟨q6, hq6, hF⟩ := bind_some hF
    refine mw_callV (c := 0) [iv x2] [] C dX11_order_23 (T_X11_isSort (zl Z) (zX Z) x2 _ _ hq6) rfl zn0 zk0 (by decide) rfl wd577 wd578 wd1335 wd1 wd579 hd_X11_isSort rfl (by decide) (by decide) (Nat.le_of_ble_eq_true rfl) ⟨Nat.zero_le _, Nat.zero_le _⟩ ?_
    obtain ⟨g7, hF⟩ := ck_some hF
    rcases ite_some hF with ⟨c8, hF⟩ | ⟨c8, hF⟩
    · refine mw_if_eq_t (tgt := 37) C dX11_order_26 (by decide) g7 c8 ?_
      refine mw_sub [0] rfl ?_
      exact T_X11_order_37 C _ _ hF
    · refine mw_if_eq_f (tgt := 37) C dX11_order_26 (by decide) g7 c8 ?_
      refine mw_iload_n 1 C dX11_order_29 rfl rfl ?_
      refine mw_iload_n 2 C dX11_order_30 rfl rfl ?_
      refine mw_ishr C dX11_order_31 ?_
      refine mw_iconst C dX11_order_32 ?_
      refine mw_iand C dX11_order_33 ?_
      obtain ⟨g9, hF⟩ := ck_some hF
      rcases ite_some hF with ⟨c10, hF⟩ | ⟨c10, hF⟩
      · refine mw_if_ne_t (tgt := 43) C dX11_order_34 (by decide) g9 c10 ?_
        refine mw_aload_n 0 C dX11_order_43 rfl rfl ?_
        refine mw_aload_n 0 C dX11_order_44 rfl rfl ?_
        refine mw_get (k := 17) (T := TX11) (v := rfv (xd (zX Z)) 75) C dX11_order_45 zn0 zk0 (by decide) rfl inX11 (by decide) wd266 rfl (zfv_r rfl zg_0_17) ?_
        refine mw_aload_n 0 C dX11_order_48 rfl rfl ?_
        refine mw_get (k := 9) (T := TX11) (v := rfv (xd (zX Z)) 34) C dX11_order_49 zn0 zk0 (by decide) rfl inX11 (by decide) wd258 rfl (zfv_r rfl zg_0_9) ?_
        refine mw_iload_n 1 C dX11_order_52 rfl rfl ?_
        refine mw_iload_n 2 C dX11_order_53 rfl rfl ?_
        obtain ⟨q11, hq11, hF⟩ := bind_some hF
        refine mw_callV (c := 75) [rfv (xd (zX Z)) 34, iv x1, iv x2] [rfv (xd (zX Z)) 0] C dX11_order_54 (T_X10_findOrder (zl Z) (zX Z) 34 x1 x2 ok_34 _ _ hq11) rfl zn75 zk75 (by decide) rfl wd818 wd819 wd820 wd11 wd821 hd_X10_findOrder rfl (by decide) (by decide) (Nat.le_of_ble_eq_true rfl) ⟨Nat.zero_le _, Nat.zero_le _⟩ ?_
        obtain ⟨q12, hq12, hF⟩ := bind_some hF
        refine mw_callV (c := 0) [iv q11.1] [] C dX11_order_57 (T_X11_answer (zl Z) (zX Z) q11.1 _ _ hq12) rfl zn0 zk0 (by decide) rfl wd494 wd495 wd1325 wd1 wd496 hd_X11_answer rfl (by decide) (by decide) (Nat.le_of_ble_eq_true rfl) ⟨Nat.zero_le _, Nat.zero_le _⟩ ?_
        cases hF
        exact mw_iret C dX11_order_60 rfl rfl
      · refine mw_if_ne_f (tgt := 43) C dX11_order_34 (by decide) g9 c10 ?_
        refine mw_sub [0] rfl ?_
        exact T_X11_order_37 C _ _ hF
def F_X11_order (x1 : Int) (x2 : Int) (h : MH) : Option (Int × MH) := F_X11_order_0 x1 x2 h
theorem T_X11_order (l : Launch) (X : XT) (x1 : Int) (x2 : Int) (h : MH) (t : (Int × MH)) (hF : F_X11_order x1 x2 h = some t) : Ct l X yX11_order cX11_order 3 (some .int) 17 [rfv (xd X) 0, iv x1, iv x2] zN zG h (some (iv t.1)) zN zG t.2 0 0 := by
  refine Ct.head (by decide) (Nat.le_of_ble_eq_true rfl) (fun Z hX hl _ _ _ C => ?_)
  subst hX
  subst hl
  exact (T_X11_order_0 C x1 x2 _ _ hF)
/-! BottleLine.ordered(I)I -/
def F_X11_ordered_0 (x1 : Int) (h : MH) : Option (Int × MH) :=
  ck (in32 x1) <|
  if 0 ≤ x1 then
    ck (in32 (h 75 2)) <|
    if (h 75 2) ≤ x1 then
      (F_X11_none 6 h).bind fun q5 =>
      some (q5.1, q5.2)
    else
      ck (0 ≤ x1 ∧ x1 < 7) <|
      (F_X11_answer (h 77 x1.toNat) h).bind fun q7 =>
      some (q7.1, q7.2)
  else
    (F_X11_none 1 h).bind fun q8 =>
    some (q8.1, q8.2)
set_option maxRecDepth 100000 in
theorem T_X11_ordered_0 {Z : ZT} (C : Cx Z cX11_ordered 2 RX11 2 (some .int)) (x1 : Int) (h : MH) (t : (Int × MH)) (hF : F_X11_ordered_0 x1 h = some t) : MW Z (Qm Z (some (iv t.1)) zN zG t.2 0 0) 2 zN zG h 0 0 0 [(0, rfv (xd (zX Z)) 0), (1, iv x1)] [] := by
  unfold F_X11_ordered_0 at hF
  refine mw_iload_n 1 C dX11_ordered_0 rfl rfl ?_
  obtain ⟨g1, hF⟩ := ck_some hF
  rcases ite_some hF with ⟨c2, hF⟩ | ⟨c2, hF⟩
  · refine mw_if_ge_t (tgt := 10) C dX11_ordered_1 (by decide) g1 c2 ?_
    refine mw_iload_n 1 C dX11_ordered_10 rfl rfl ?_
    refine mw_aload_n 0 C dX11_ordered_11 rfl rfl ?_
    refine mw_get (k := 17) (T := TX11) (v := rfv (xd (zX Z)) 75) C dX11_ordered_12 zn0 zk0 (by decide) rfl inX11 (by decide) wd266 rfl (zfv_r rfl zg_0_17) ?_
    refine mw_get (k := 2) (T := TX10) (v := iv (h 75 2)) C dX11_ordered_15 zn75 zk75 (by decide) rfl inX10 (by decide) wd234 rfl rfl ?_
    obtain ⟨g3, hF⟩ := ck_some hF
    rcases ite_some hF with ⟨c4, hF⟩ | ⟨c4, hF⟩
    · refine mw_icmp_ge_t (tgt := 37) C dX11_ordered_18 (by decide) g1 g3 c4 ?_
      refine mw_aload_n 0 C dX11_ordered_37 rfl rfl ?_
      refine mw_bipush C dX11_ordered_38 bp_6 ?_
      obtain ⟨q5, hq5, hF⟩ := bind_some hF
      refine mw_callV (c := 0) [iv 6] [] C dX11_ordered_40 (T_X11_none (zl Z) (zX Z) 6 _ _ hq5) rfl zn0 zk0 (by decide) rfl wd315 wd316 wd1311 wd1 wd317 hd_X11_none rfl (by decide) (by decide) (Nat.le_of_ble_eq_true rfl) ⟨Nat.zero_le _, Nat.zero_le _⟩ ?_
      cases hF
      exact mw_iret C dX11_ordered_43 rfl rfl
    · refine mw_icmp_ge_f (tgt := 37) C dX11_ordered_18 (by decide) g1 g3 c4 ?_
      refine mw_aload_n 0 C dX11_ordered_21 rfl rfl ?_
      refine mw_aload_n 0 C dX11_ordered_22 rfl rfl ?_
      refine mw_get (k := 17) (T := TX11) (v := rfv (xd (zX Z)) 75) C dX11_ordered_23 zn0 zk0 (by decide) rfl inX11 (by decide) wd266 rfl (zfv_r rfl zg_0_17) ?_
      refine mw_get (k := 1) (T := TX10) (v := rfv (xd (zX Z)) 77) C dX11_ordered_26 zn75 zk75 (by decide) rfl inX10 (by decide) wd232 rfl (zfv_r rfl zg_75_1) ?_
      refine mw_iload_n 1 C dX11_ordered_29 rfl rfl ?_
      obtain ⟨g6, hF⟩ := ck_some hF
      refine mw_iald C dX11_ordered_30 zn77 zk77 (by decide) g6 ?_
      obtain ⟨q7, hq7, hF⟩ := bind_some hF
      refine mw_callV (c := 0) [iv (h 77 x1.toNat)] [] C dX11_ordered_31 (T_X11_answer (zl Z) (zX Z) (h 77 x1.toNat) _ _ hq7) rfl zn0 zk0 (by decide) rfl wd494 wd495 wd1325 wd1 wd496 hd_X11_answer rfl (by decide) (by decide) (Nat.le_of_ble_eq_true rfl) ⟨Nat.zero_le _, Nat.zero_le _⟩ ?_
      refine mw_goto (tgt := 43) C dX11_ordered_34 (by decide) ?_
      cases hF
      exact mw_iret C dX11_ordered_43 rfl rfl
  · refine mw_if_ge_f (tgt := 10) C dX11_ordered_1 (by decide) g1 c2 ?_
    refine mw_aload_n 0 C dX11_ordered_4 rfl rfl ?_
    refine mw_iconst C dX11_ordered_5 ?_
    obtain ⟨q8, hq8, hF⟩ := bind_some hF
    refine mw_callV (c := 0) [iv 1] [] C dX11_ordered_6 (T_X11_none (zl Z) (zX Z) 1 _ _ hq8) rfl zn0 zk0 (by decide) rfl wd315 wd316 wd1311 wd1 wd317 hd_X11_none rfl (by decide) (by decide) (Nat.le_of_ble_eq_true rfl) ⟨Nat.zero_le _, Nat.zero_le _⟩ ?_
    cases hF
    exact mw_iret C dX11_ordered_9 rfl rfl
def F_X11_ordered (x1 : Int) (h : MH) : Option (Int × MH) := F_X11_ordered_0 x1 h
theorem T_X11_ordered (l : Launch) (X : XT) (x1 : Int) (h : MH) (t : (Int × MH)) (hF : F_X11_ordered x1 h = some t) : Ct l X yX11_ordered cX11_ordered 2 (some .int) 2 [rfv (xd X) 0, iv x1] zN zG h (some (iv t.1)) zN zG t.2 0 0 := by
  refine Ct.head (by decide) (Nat.le_of_ble_eq_true rfl) (fun Z hX hl _ _ _ C => ?_)
  subst hX
  subst hl
  exact (T_X11_ordered_0 C x1 _ _ hF)
/-! BottleLine.closes(I)I -/
def F_X11_closes_75 : Nat → Int → Nat → Int → MH → Option (Int × MH)
  | 0, _, _, _, _ => none
  | n + 1, x2, x4, x5, h =>
    ck (in32 x5) <|
    ck (in32 x2) <|
    if x2 ≤ x5 then
      (F_X11_answer (-1) h).bind fun q4 =>
      some (q4.1, q4.2)
    else
      ck (0 ≤ (4 * x5) ∧ (4 * x5) < 60) <|
      ck (0 ≤ ((4 * x5) + 1) ∧ ((4 * x5) + 1) < 60) <|
      ck (0 ≤ ((4 * x5) + 2) ∧ ((4 * x5) + 2) < 60) <|
      ck (0 ≤ ((4 * x5) + 3) ∧ ((4 * x5) + 3) < 60) <|
      ck (in64 (h x4 (4 * x5).toNat)) <|
      ck (in64 (((h x4 ((4 * x5) + 1).toNat) + (h x4 ((4 * x5) + 2).toNat)) + (h x4 ((4 * x5) + 3).toNat))) <|
      if (h x4 (4 * x5).toNat) = (((h x4 ((4 * x5) + 1).toNat) + (h x4 ((4 * x5) + 2).toNat)) + (h x4 ((4 * x5) + 3).toNat)) then
        F_X11_closes_75 n x2 x4 (x5 + 1) h
      else
        (F_X11_answer x5 h).bind fun q12 =>
        some (q12.1, q12.2)
set_option maxRecDepth 100000 in
theorem T_X11_closes_75 {Z : ZT} (C : Cx Z cX11_closes 6 RX11 3 (some .int)) : ∀ (n : Nat) (x2 : Int) (x4 : Nat) (x5 : Int) (hk_x4 : zK x4 = (22, 60) ∧ x4 < zN ∧ 60 < 2147483648) (h : MH) (t : (Int × MH)), F_X11_closes_75 n x2 x4 x5 h = some t → MW Z (Qm Z (some (iv t.1)) zN zG t.2 0 0) 6 zN zG h 0 0 75 [(0, rfv (xd (zX Z)) 0), (2, iv x2), (4, rfv (xd (zX Z)) x4), (5, iv x5)] [] := by
  intro n
  induction n with
  | zero =>
    intros
    rename_i hF
    exact absurd hF (by intro q; cases q)
  | succ n ih =>
    intro x2 x4 x5 hk_x4 h t hF
    rw [F_X11_closes_75] at hF
    refine mw_iload 3 C dX11_closes_75 rfl ?_
    refine mw_iload_n 1 C dX11_closes_77 rfl rfl ?_
    obtain ⟨g1, hF⟩ := ck_some hF
    obtain ⟨g2, hF⟩ := ck_some hF
    rcases ite_some hF with ⟨c3, hF⟩ | ⟨c3, hF⟩
    · refine mw_icmp_ge_t (tgt := 134) C dX11_closes_78 (by decide) g1 g2 c3 ?_
      refine mw_aload_n 0 C dX11_closes_134 rfl rfl ?_
      refine mw_iconst C dX11_closes_135 ?_
      obtain ⟨q4, hq4, hF⟩ := bind_some hF
      refine mw_callV (c := 0) [iv (-1)] [] C dX11_closes_136 (T_X11_answer (zl Z) (zX Z) (-1) _ _ hq4) rfl zn0 zk0 (by decide) rfl wd494 wd495 wd1325 wd1 wd496 hd_X11_answer rfl (by decide) (by decide) (Nat.le_of_ble_eq_true rfl) ⟨Nat.zero_le _, Nat.zero_le _⟩ ?_
      cases hF
      exact mw_iret C dX11_closes_139 rfl rfl
    · refine mw_icmp_ge_f (tgt := 134) C dX11_closes_78 (by decide) g1 g2 c3 ?_
      refine mw_aload 2 C dX11_closes_81 rfl ?_
      refine mw_iconst C dX11_closes_83 ?_
      refine mw_iload 3 C dX11_closes_84 rfl ?_
      refine mw_imul C dX11_closes_86 ?_
      obtain ⟨g5, hF⟩ := ck_some hF
      refine mw_lald C dX11_closes_87 hk_x4.2.1 hk_x4.1 hk_x4.2.2 g5 ?_
      refine mw_aload 2 C dX11_closes_88 rfl ?_
      refine mw_iconst C dX11_closes_90 ?_
      refine mw_iload 3 C dX11_closes_91 rfl ?_
      refine mw_imul C dX11_closes_93 ?_
      refine mw_iconst C dX11_closes_94 ?_
      refine mw_iadd C dX11_closes_95 ?_
      obtain ⟨g6, hF⟩ := ck_some hF
      refine mw_lald C dX11_closes_96 hk_x4.2.1 hk_x4.1 hk_x4.2.2 g6 ?_
      refine mw_aload 2 C dX11_closes_97 rfl ?_
      refine mw_iconst C dX11_closes_99 ?_
      refine mw_iload 3 C dX11_closes_100 rfl ?_
      refine mw_imul C dX11_closes_102 ?_
      refine mw_iconst C dX11_closes_103 ?_
      refine mw_iadd C dX11_closes_104 ?_
      obtain ⟨g7, hF⟩ := ck_some hF
      refine mw_lald C dX11_closes_105 hk_x4.2.1 hk_x4.1 hk_x4.2.2 g7 ?_
      refine mw_ladd C dX11_closes_106 ?_
      refine mw_aload 2 C dX11_closes_107 rfl ?_
      refine mw_iconst C dX11_closes_109 ?_
      refine mw_iload 3 C dX11_closes_110 rfl ?_
      refine mw_imul C dX11_closes_112 ?_
      refine mw_iconst C dX11_closes_113 ?_
      refine mw_iadd C dX11_closes_114 ?_
      obtain ⟨g8, hF⟩ := ck_some hF
      refine mw_lald C dX11_closes_115 hk_x4.2.1 hk_x4.1 hk_x4.2.2 g8 ?_
      refine mw_ladd C dX11_closes_116 ?_
      obtain ⟨g9, hF⟩ := ck_some hF
      obtain ⟨g10, hF⟩ := ck_some hF
      rcases ite_some hF with ⟨c11, hF⟩ | ⟨c11, hF⟩
      · refine mw_lcmp_eq_t (tgt := 128) C dX11_closes_117 dX11_closes_118 (by decide) g9 g10 c11 ?_
        refine mw_iinc 3 [(5, iv (x5 + 1)), (0, rfv (xd (zX Z)) 0), (2, iv x2), (4, rfv (xd (zX Z)) x4)] C dX11_closes_128 rfl (by decide) rfl ?_
        refine mw_goto (tgt := 75) C dX11_closes_131 (by decide) ?_
        refine mw_sub [1, 2, 3, 0] rfl ?_
        exact ih x2 x4 (x5 + 1) hk_x4 _ _ hF
      · refine mw_lcmp_eq_f (tgt := 128) C dX11_closes_117 dX11_closes_118 (by decide) g9 g10 c11 ?_
        refine mw_aload_n 0 C dX11_closes_121 rfl rfl ?_
        refine mw_iload 3 C dX11_closes_122 rfl ?_
        obtain ⟨q12, hq12, hF⟩ := bind_some hF
        refine mw_callV (c := 0) [iv x5] [] C dX11_closes_124 (T_X11_answer (zl Z) (zX Z) x5 _ _ hq12) rfl zn0 zk0 (by decide) rfl wd494 wd495 wd1325 wd1 wd496 hd_X11_answer rfl (by decide) (by decide) (Nat.le_of_ble_eq_true rfl) ⟨Nat.zero_le _, Nat.zero_le _⟩ ?_
        cases hF
        exact mw_iret C dX11_closes_127 rfl rfl
def F_X11_closes_0 (x1 : Int) (h : MH) : Option (Int × MH) :=
  (F_X11_isTray x1 h).bind fun q1 =>
  ck (in32 q1.1) <|
  if q1.1 ≠ 0 then
    (F_X1_tables 35 q1.2).bind fun q4 =>
    (F_X11_rowLack x1 (4 * q4.1) q4.2).bind fun q5 =>
    ck (in32 q5.1) <|
    if q5.1 = 0 then
      ck (0 ≤ x1 ∧ x1 < 4) <|
      (F_X11_allWithin (2 + x1.toNat) (4 * q4.1) 0 1000000 q5.2).bind fun q9 =>
      ck (in32 q9.1) <|
      if q9.1 ≠ 0 then
        F_X11_closes_75 20000 q4.1 (2 + x1.toNat) 0 q9.2
      else
        (F_X11_none 5 q9.2).bind fun q12 =>
        some (q12.1, q12.2)
    else
      (F_X11_none q5.1 q5.2).bind fun q13 =>
      some (q13.1, q13.2)
  else
    (F_X11_none 1 q1.2).bind fun q14 =>
    some (q14.1, q14.2)
set_option maxRecDepth 100000 in
theorem T_X11_closes_0 {Z : ZT} (C : Cx Z cX11_closes 6 RX11 3 (some .int)) (x1 : Int) (h : MH) (t : (Int × MH)) (hF : F_X11_closes_0 x1 h = some t) : MW Z (Qm Z (some (iv t.1)) zN zG t.2 0 0) 6 zN zG h 0 0 0 [(0, rfv (xd (zX Z)) 0), (1, iv x1)] [] := by
  unfold F_X11_closes_0 at hF
  refine mw_iload_n 1 C dX11_closes_0 rfl rfl ?_
  obtain ⟨q1, hq1, hF⟩ := bind_some hF
  refine mw_callS [iv x1] [] C dX11_closes_1 (T_X11_isTray (zl Z) (zX Z) x1 _ _ hq1) rfl wd284 wd285 wd1 wd286 hd_X11_isTray rfl (by decide) (by decide) (Nat.le_of_ble_eq_true rfl) ⟨Nat.zero_le _, Nat.zero_le _⟩ ?_
  obtain ⟨g2, hF⟩ := ck_some hF
  rcases ite_some hF with ⟨c3, hF⟩ | ⟨c3, hF⟩
  · refine mw_if_ne_t (tgt := 13) C dX11_closes_4 (by decide) g2 c3 ?_
    refine mw_aload_n 0 C dX11_closes_13 rfl rfl ?_
    refine mw_get (k := 9) (T := TX11) (v := rfv (xd (zX Z)) 34) C dX11_closes_14 zn0 zk0 (by decide) rfl inX11 (by decide) wd258 rfl (zfv_r rfl zg_0_9) ?_
    refine mw_get (k := 0) (T := TX5) (v := rfv (xd (zX Z)) 35) C dX11_closes_17 zn34 zk34 (by decide) rfl inX5 (by decide) wd121 rfl (zfv_r rfl zg_34_0) ?_
    obtain ⟨q4, hq4, hF⟩ := bind_some hF
    refine mw_callV (c := 35) [] [] C dX11_closes_20 (T_X1_tables (zl Z) (zX Z) 35 ok_35 _ _ hq4) rfl zn35 zk35 (by decide) rfl wd566 wd567 wd568 wd5 wd569 hd_X1_tables rfl (by decide) (by decide) (Nat.le_of_ble_eq_true rfl) ⟨Nat.zero_le _, Nat.zero_le _⟩ ?_
    refine mw_istore_n [(2, iv q4.1), (0, rfv (xd (zX Z)) 0), (1, iv x1)] C dX11_closes_23 rfl (by decide) rfl ?_
    refine mw_aload_n 1 C dX11_closes_24 rfl rfl ?_
    refine mw_iload_n 2 C dX11_closes_25 rfl rfl ?_
    refine mw_iconst C dX11_closes_26 ?_
    refine mw_iload_n 0 C dX11_closes_27 rfl rfl ?_
    refine mw_imul C dX11_closes_28 ?_
    obtain ⟨q5, hq5, hF⟩ := bind_some hF
    refine mw_callV (c := 0) [iv x1, iv (4 * q4.1)] [] C dX11_closes_29 (T_X11_rowLack (zl Z) (zX Z) x1 (4 * q4.1) _ _ hq5) rfl zn0 zk0 (by decide) rfl wd750 wd751 wd1349 wd1 wd752 hd_X11_rowLack rfl (by decide) (by decide) (Nat.le_of_ble_eq_true rfl) ⟨Nat.zero_le _, Nat.zero_le _⟩ ?_
    refine mw_istore_n [(3, iv q5.1), (2, iv q4.1), (0, rfv (xd (zX Z)) 0), (1, iv x1)] C dX11_closes_32 rfl (by decide) rfl ?_
    refine mw_iload_n 0 C dX11_closes_33 rfl rfl ?_
    obtain ⟨g6, hF⟩ := ck_some hF
    rcases ite_some hF with ⟨c7, hF⟩ | ⟨c7, hF⟩
    · refine mw_if_eq_t (tgt := 43) C dX11_closes_34 (by decide) g6 c7 ?_
      refine mw_aload_n 2 C dX11_closes_43 rfl rfl ?_
      refine mw_get (k := 3) (T := TX11) (v := rfv (xd (zX Z)) 1) C dX11_closes_44 zn0 zk0 (by decide) rfl inX11 (by decide) wd252 rfl (zfv_r rfl zg_0_3) ?_
      refine mw_iload_n 3 C dX11_closes_47 rfl rfl ?_
      obtain ⟨g8, hF⟩ := ck_some hF
      refine mw_aald (t := 6) (c2 := (2 + x1.toNat)) (ty := .array .long) C dX11_closes_48 zn1 zk1 (by decide) (fun _ => rfl) rfl (by decide) g8 (zg_26 _) ?_
      refine mw_astore [(4, rfv (xd (zX Z)) (2 + x1.toNat)), (3, iv q5.1), (2, iv q4.1), (0, rfv (xd (zX Z)) 0), (1, iv x1)] C dX11_closes_49 (by decide) rfl ?_
      refine mw_aload 0 C dX11_closes_51 rfl ?_
      refine mw_iconst C dX11_closes_53 ?_
      refine mw_iload_n 2 C dX11_closes_54 rfl rfl ?_
      refine mw_imul C dX11_closes_55 ?_
      refine mw_lconst (a := 0) C dX11_closes_56 lc_0 ?_
      refine mw_ldc2 (a := 1000000) C dX11_closes_57 wd842 rfl ?_
      obtain ⟨q9, hq9, hF⟩ := bind_some hF
      refine mw_callS [rfv (xd (zX Z)) (2 + x1.toNat), iv (4 * q4.1), lvv 0, lvv 1000000] [] C dX11_closes_60 (T_X11_allWithin (zl Z) (zX Z) (2 + x1.toNat) (4 * q4.1) 0 1000000 (ok_row _ (ix_lt g8)) _ _ hq9) rfl wd792 wd793 wd1 wd794 hd_X11_allWithin rfl (by decide) (by decide) (Nat.le_of_ble_eq_true rfl) ⟨Nat.zero_le _, Nat.zero_le _⟩ ?_
      obtain ⟨g10, hF⟩ := ck_some hF
      rcases ite_some hF with ⟨c11, hF⟩ | ⟨c11, hF⟩
      · refine mw_if_ne_t (tgt := 72) C dX11_closes_63 (by decide) g10 c11 ?_
        refine mw_iconst C dX11_closes_72 ?_
        refine mw_istore [(5, iv 0), (4, rfv (xd (zX Z)) (2 + x1.toNat)), (3, iv q5.1), (2, iv q4.1), (0, rfv (xd (zX Z)) 0), (1, iv x1)] C dX11_closes_73 (by decide) rfl ?_
        refine mw_sub [4, 3, 1, 0] rfl ?_
        exact T_X11_closes_75 C 20000 q4.1 (2 + x1.toNat) 0 (ok_row _ (ix_lt g8)) _ _ hF
      · refine mw_if_ne_f (tgt := 72) C dX11_closes_63 (by decide) g10 c11 ?_
        refine mw_aload_n 3 C dX11_closes_66 rfl rfl ?_
        refine mw_iconst C dX11_closes_67 ?_
        obtain ⟨q12, hq12, hF⟩ := bind_some hF
        refine mw_callV (c := 0) [iv 5] [] C dX11_closes_68 (T_X11_none (zl Z) (zX Z) 5 _ _ hq12) rfl zn0 zk0 (by decide) rfl wd315 wd316 wd1311 wd1 wd317 hd_X11_none rfl (by decide) (by decide) (Nat.le_of_ble_eq_true rfl) ⟨Nat.zero_le _, Nat.zero_le _⟩ ?_
        cases hF
        exact mw_iret C dX11_closes_71 rfl rfl
    · refine mw_if_eq_f (tgt := 43) C dX11_closes_34 (by decide) g6 c7 ?_
      refine mw_aload_n 2 C dX11_closes_37 rfl rfl ?_
      refine mw_iload_n 0 C dX11_closes_38 rfl rfl ?_
      obtain ⟨q13, hq13, hF⟩ := bind_some hF
      refine mw_callV (c := 0) [iv q5.1] [] C dX11_closes_39 (T_X11_none (zl Z) (zX Z) q5.1 _ _ hq13) rfl zn0 zk0 (by decide) rfl wd315 wd316 wd1311 wd1 wd317 hd_X11_none rfl (by decide) (by decide) (Nat.le_of_ble_eq_true rfl) ⟨Nat.zero_le _, Nat.zero_le _⟩ ?_
      cases hF
      exact mw_iret C dX11_closes_42 rfl rfl
  · refine mw_if_ne_f (tgt := 13) C dX11_closes_4 (by decide) g2 c3 ?_
    refine mw_aload_n 0 C dX11_closes_7 rfl rfl ?_
    refine mw_iconst C dX11_closes_8 ?_
    obtain ⟨q14, hq14, hF⟩ := bind_some hF
    refine mw_callV (c := 0) [iv 1] [] C dX11_closes_9 (T_X11_none (zl Z) (zX Z) 1 _ _ hq14) rfl zn0 zk0 (by decide) rfl wd315 wd316 wd1311 wd1 wd317 hd_X11_none rfl (by decide) (by decide) (Nat.le_of_ble_eq_true rfl) ⟨Nat.zero_le _, Nat.zero_le _⟩ ?_
    cases hF
    exact mw_iret C dX11_closes_12 rfl rfl
def F_X11_closes (x1 : Int) (h : MH) : Option (Int × MH) := F_X11_closes_0 x1 h
theorem T_X11_closes (l : Launch) (X : XT) (x1 : Int) (h : MH) (t : (Int × MH)) (hF : F_X11_closes x1 h = some t) : Ct l X yX11_closes cX11_closes 6 (some .int) 3 [rfv (xd X) 0, iv x1] zN zG h (some (iv t.1)) zN zG t.2 0 0 := by
  refine Ct.head (by decide) (Nat.le_of_ble_eq_true rfl) (fun Z hX hl _ _ _ C => ?_)
  subst hX
  subst hl
  exact (T_X11_closes_0 C x1 _ _ hF)
/-! BottleLine.recall(IIIIII)I -/
def F_X11_recall_55 (h : MH) : Option (Int × MH) :=
  (F_X11_none 1 h).bind fun q1 =>
  some (q1.1, q1.2)
set_option maxRecDepth 100000 in
theorem T_X11_recall_55 {Z : ZT} (C : Cx Z cX11_recall 11 RX11 2 (some .int)) (h : MH) (t : (Int × MH)) (hF : F_X11_recall_55 h = some t) : MW Z (Qm Z (some (iv t.1)) zN zG t.2 0 0) 11 zN zG h 0 0 55 [(0, rfv (xd (zX Z)) 0)] [] := by
  unfold F_X11_recall_55 at hF
  refine mw_aload_n 0 C dX11_recall_55 rfl rfl ?_
  refine mw_iconst C dX11_recall_56 ?_
  obtain ⟨q1, hq1, hF⟩ := bind_some hF
  refine mw_callV (c := 0) [iv 1] [] C dX11_recall_57 (T_X11_none (zl Z) (zX Z) 1 _ _ hq1) rfl zn0 zk0 (by decide) rfl wd315 wd316 wd1311 wd1 wd317 hd_X11_none rfl (by decide) (by decide) (Nat.le_of_ble_eq_true rfl) ⟨Nat.zero_le _, Nat.zero_le _⟩ ?_
  cases hF
  exact mw_iret C dX11_recall_60 rfl rfl
def F_X11_recall_177 (s1 : Int) (h : MH) : Option (Int × MH) :=
  (F_X11_answer s1 h).bind fun q1 =>
  some (q1.1, q1.2)
set_option maxRecDepth 100000 in
theorem T_X11_recall_177 {Z : ZT} (C : Cx Z cX11_recall 11 RX11 2 (some .int)) (s1 : Int) (h : MH) (t : (Int × MH)) (hF : F_X11_recall_177 s1 h = some t) : MW Z (Qm Z (some (iv t.1)) zN zG t.2 0 0) 11 zN zG h 0 0 177 [] [iv s1, rfv (xd (zX Z)) 0] := by
  unfold F_X11_recall_177 at hF
  obtain ⟨q1, hq1, hF⟩ := bind_some hF
  refine mw_callV (c := 0) [iv s1] [] C dX11_recall_177 (T_X11_answer (zl Z) (zX Z) s1 _ _ hq1) rfl zn0 zk0 (by decide) rfl wd494 wd495 wd1325 wd1 wd496 hd_X11_answer rfl (by decide) (by decide) (Nat.le_of_ble_eq_true rfl) ⟨Nat.zero_le _, Nat.zero_le _⟩ ?_
  cases hF
  exact mw_iret C dX11_recall_180 rfl rfl
def F_X11_recall_0 (x1 : Int) (x2 : Int) (x3 : Int) (x4 : Int) (x5 : Int) (x6 : Int) (h : MH) : Option (Int × MH) :=
  ck (in32 x1) <|
  (F_X11_outside x1 1 99 h).bind fun q2 =>
  ck (in32 q2.1) <|
  if q2.1 ≠ 0 then
    F_X11_recall_55 q2.2
  else
    ck (in32 x6) <|
    (F_X11_outside x6 0 3 q2.2).bind fun q6 =>
    ck (in32 q6.1) <|
    if q6.1 ≠ 0 then
      F_X11_recall_55 q6.2
    else
      ck (in32 x4) <|
      if x4 < 0 then
        F_X11_recall_55 q6.2
      else
        ck (in32 x2) <|
        if x2 < x4 then
          F_X11_recall_55 q6.2
        else
          ck (in32 x3) <|
          if x3 < x2 then
            F_X11_recall_55 q6.2
          else
            ck (in32 x5) <|
            if x5 < x3 then
              F_X11_recall_55 q6.2
            else
              if x5 ≤ 9999 then
                ck (x1 ≠ 0) <|
                nx (Int.tdiv x2 x1) fun v19 =>
                ck (x1 ≠ 0) <|
                nx (Int.tdiv x3 x1) fun v21 =>
                ck (x1 ≠ 0) <|
                nx (v19 - (Int.tdiv x4 x1)) fun v23 =>
                ck (x1 ≠ 0) <|
                nx ((Int.tdiv x5 x1) - v21) fun v25 =>
                if x6 = 0 then
                  (F_X11_answer ((v21 - v19) + 1) q6.2).bind fun q27 =>
                  some (q27.1, q27.2)
                else
                if x6 = 1 then
                  (F_X11_answer v19 q6.2).bind fun q29 =>
                  some (q29.1, q29.2)
                else
                if x6 = 2 then
                  (F_X11_answer (v23 + v25) q6.2).bind fun q31 =>
                  some (q31.1, q31.2)
                else
                ck (in32 (v23 + v25)) <|
                if (v23 + v25) ≠ 0 then
                  ck (in32 v23) <|
                  if v23 ≤ 0 then
                    F_X11_recall_177 (v21 + 1) q6.2
                  else
                    ck (x1 ≠ 0) <|
                    F_X11_recall_177 (Int.tdiv x4 x1) q6.2
                else
                  (F_X11_none 6 q6.2).bind fun q37 =>
                  some (q37.1, q37.2)
              else
                F_X11_recall_55 q6.2
set_option maxRecDepth 100000 in
theorem T_X11_recall_0 {Z : ZT} (C : Cx Z cX11_recall 11 RX11 2 (some .int)) (x1 : Int) (x2 : Int) (x3 : Int) (x4 : Int) (x5 : Int) (x6 : Int) (h : MH) (t : (Int × MH)) (hF : F_X11_recall_0 x1 x2 x3 x4 x5 x6 h = some t) : MW Z (Qm Z (some (iv t.1)) zN zG t.2 0 0) 11 zN zG h 0 0 0 [(0, rfv (xd (zX Z)) 0), (1, iv x1), (2, iv x2), (3, iv x3), (4, iv x4), (5, iv x5), (6, iv x6)] [] := by
  unfold F_X11_recall_0 at hF
  refine mw_iload_n 1 C dX11_recall_0 rfl rfl ?_
  obtain ⟨g1, hF⟩ := ck_some hF
  refine mw_i2l C dX11_recall_1 g1 ?_
  refine mw_lconst (a := 1) C dX11_recall_2 lc_1 ?_
  refine mw_ldc2 (a := 99) C dX11_recall_3 wd648 rfl ?_
  obtain ⟨q2, hq2, hF⟩ := bind_some hF
  refine mw_callS [lvv x1, lvv 1, lvv 99] [] C dX11_recall_6 (T_X11_outside (zl Z) (zX Z) x1 1 99 _ _ hq2) rfl wd288 wd289 wd1 wd290 hd_X11_outside rfl (by decide) (by decide) (Nat.le_of_ble_eq_true rfl) ⟨Nat.zero_le _, Nat.zero_le _⟩ ?_
  obtain ⟨g3, hF⟩ := ck_some hF
  rcases ite_some hF with ⟨c4, hF⟩ | ⟨c4, hF⟩
  · refine mw_if_ne_t (tgt := 55) C dX11_recall_9 (by decide) g3 c4 ?_
    refine mw_sub [0] rfl ?_
    exact T_X11_recall_55 C _ _ hF
  · refine mw_if_ne_f (tgt := 55) C dX11_recall_9 (by decide) g3 c4 ?_
    refine mw_iload 6 C dX11_recall_12 rfl ?_
    obtain ⟨g5, hF⟩ := ck_some hF
    refine mw_i2l C dX11_recall_14 g5 ?_
    refine mw_lconst (a := 0) C dX11_recall_15 lc_0 ?_
    refine mw_ldc2 (a := 3) C dX11_recall_16 wd287 rfl ?_
    obtain ⟨q6, hq6, hF⟩ := bind_some hF
    refine mw_callS [lvv x6, lvv 0, lvv 3] [] C dX11_recall_19 (T_X11_outside (zl Z) (zX Z) x6 0 3 _ _ hq6) rfl wd288 wd289 wd1 wd290 hd_X11_outside rfl (by decide) (by decide) (Nat.le_of_ble_eq_true rfl) ⟨Nat.zero_le _, Nat.zero_le _⟩ ?_
    obtain ⟨g7, hF⟩ := ck_some hF
    rcases ite_some hF with ⟨c8, hF⟩ | ⟨c8, hF⟩
    · refine mw_if_ne_t (tgt := 55) C dX11_recall_22 (by decide) g7 c8 ?_
      refine mw_sub [0] rfl ?_
      exact T_X11_recall_55 C _ _ hF
    · refine mw_if_ne_f (tgt := 55) C dX11_recall_22 (by decide) g7 c8 ?_
      refine mw_iload 4 C dX11_recall_25 rfl ?_
      obtain ⟨g9, hF⟩ := ck_some hF
      rcases ite_some hF with ⟨c10, hF⟩ | ⟨c10, hF⟩
      · refine mw_if_lt_t (tgt := 55) C dX11_recall_27 (by decide) g9 c10 ?_
        refine mw_sub [0] rfl ?_
        exact T_X11_recall_55 C _ _ hF
      · refine mw_if_lt_f (tgt := 55) C dX11_recall_27 (by decide) g9 c10 ?_
        refine mw_iload_n 2 C dX11_recall_30 rfl rfl ?_
        refine mw_iload 4 C dX11_recall_31 rfl ?_
        obtain ⟨g11, hF⟩ := ck_some hF
        rcases ite_some hF with ⟨c12, hF⟩ | ⟨c12, hF⟩
        · refine mw_icmp_lt_t (tgt := 55) C dX11_recall_33 (by decide) g11 g9 c12 ?_
          refine mw_sub [0] rfl ?_
          exact T_X11_recall_55 C _ _ hF
        · refine mw_icmp_lt_f (tgt := 55) C dX11_recall_33 (by decide) g11 g9 c12 ?_
          refine mw_iload_n 3 C dX11_recall_36 rfl rfl ?_
          refine mw_iload_n 2 C dX11_recall_37 rfl rfl ?_
          obtain ⟨g13, hF⟩ := ck_some hF
          rcases ite_some hF with ⟨c14, hF⟩ | ⟨c14, hF⟩
          · refine mw_icmp_lt_t (tgt := 55) C dX11_recall_38 (by decide) g13 g11 c14 ?_
            refine mw_sub [0] rfl ?_
            exact T_X11_recall_55 C _ _ hF
          · refine mw_icmp_lt_f (tgt := 55) C dX11_recall_38 (by decide) g13 g11 c14 ?_
            refine mw_iload 5 C dX11_recall_41 rfl ?_
            refine mw_iload_n 3 C dX11_recall_43 rfl rfl ?_
            obtain ⟨g15, hF⟩ := ck_some hF
            rcases ite_some hF with ⟨c16, hF⟩ | ⟨c16, hF⟩
            · refine mw_icmp_lt_t (tgt := 55) C dX11_recall_44 (by decide) g15 g13 c16 ?_
              refine mw_sub [0] rfl ?_
              exact T_X11_recall_55 C _ _ hF
            · refine mw_icmp_lt_f (tgt := 55) C dX11_recall_44 (by decide) g15 g13 c16 ?_
              refine mw_iload 5 C dX11_recall_47 rfl ?_
              refine mw_sipush C dX11_recall_49 sp_9999 ?_
              rcases ite_some hF with ⟨c17, hF⟩ | ⟨c17, hF⟩
              · refine mw_icmp_le_t (tgt := 61) C dX11_recall_52 (by decide) g15 (by decide) c17 ?_
                refine mw_iload_n 2 C dX11_recall_61 rfl rfl ?_
                refine mw_iload_n 1 C dX11_recall_62 rfl rfl ?_
                obtain ⟨g18, hF⟩ := ck_some hF
                refine mw_idiv C dX11_recall_63 g11 g1 g18 ?_
                obtain ⟨v19, ev19, hF⟩ := nx_some hF
                refine mw_ti ev19 ?_
                refine mw_istore [(7, iv v19), (0, rfv (xd (zX Z)) 0), (1, iv x1), (2, iv x2), (3, iv x3), (4, iv x4), (5, iv x5), (6, iv x6)] C dX11_recall_64 (by decide) rfl ?_
                refine mw_iload_n 4 C dX11_recall_66 rfl rfl ?_
                refine mw_iload_n 2 C dX11_recall_67 rfl rfl ?_
                obtain ⟨g20, hF⟩ := ck_some hF
                refine mw_idiv C dX11_recall_68 g13 g1 g20 ?_
                obtain ⟨v21, ev21, hF⟩ := nx_some hF
                refine mw_ti ev21 ?_
                refine mw_istore [(8, iv v21), (7, iv v19), (0, rfv (xd (zX Z)) 0), (1, iv x1), (2, iv x2), (3, iv x3), (4, iv x4), (5, iv x5), (6, iv x6)] C dX11_recall_69 (by decide) rfl ?_
                refine mw_iload 1 C dX11_recall_71 rfl ?_
                refine mw_iload 6 C dX11_recall_73 rfl ?_
                refine mw_iload_n 3 C dX11_recall_75 rfl rfl ?_
                obtain ⟨g22, hF⟩ := ck_some hF
                refine mw_idiv C dX11_recall_76 g9 g1 g22 ?_
                refine mw_isub C dX11_recall_77 ?_
                obtain ⟨v23, ev23, hF⟩ := nx_some hF
                refine mw_ti ev23 ?_
                refine mw_istore [(9, iv v23), (8, iv v21), (7, iv v19), (0, rfv (xd (zX Z)) 0), (1, iv x1), (2, iv x2), (3, iv x3), (4, iv x4), (5, iv x5), (6, iv x6)] C dX11_recall_78 (by decide) rfl ?_
                refine mw_iload 8 C dX11_recall_80 rfl ?_
                refine mw_iload_n 4 C dX11_recall_82 rfl rfl ?_
                obtain ⟨g24, hF⟩ := ck_some hF
                refine mw_idiv C dX11_recall_83 g15 g1 g24 ?_
                refine mw_iload 1 C dX11_recall_84 rfl ?_
                refine mw_isub C dX11_recall_86 ?_
                obtain ⟨v25, ev25, hF⟩ := nx_some hF
                refine mw_ti ev25 ?_
                refine mw_istore [(10, iv v25), (9, iv v23), (8, iv v21), (7, iv v19), (0, rfv (xd (zX Z)) 0), (1, iv x1), (2, iv x2), (3, iv x3), (4, iv x4), (5, iv x5), (6, iv x6)] C dX11_recall_87 (by decide) rfl ?_
                refine mw_iload 10 C dX11_recall_89 rfl ?_
                rcases ite_some hF with ⟨c26, hF⟩ | ⟨c26, hF⟩
                · refine mw_tabI (tgt := 116) 0 C dX11_recall_91 (by decide) c26 (by decide) (by decide) rfl (by decide) ?_
                  refine mw_aload_n 4 C dX11_recall_116 rfl rfl ?_
                  refine mw_iload 2 C dX11_recall_117 rfl ?_
                  refine mw_iload 3 C dX11_recall_119 rfl ?_
                  refine mw_isub C dX11_recall_121 ?_
                  refine mw_iconst C dX11_recall_122 ?_
                  refine mw_iadd C dX11_recall_123 ?_
                  obtain ⟨q27, hq27, hF⟩ := bind_some hF
                  refine mw_callV (c := 0) [iv ((v21 - v19) + 1)] [] C dX11_recall_124 (T_X11_answer (zl Z) (zX Z) ((v21 - v19) + 1) _ _ hq27) rfl zn0 zk0 (by decide) rfl wd494 wd495 wd1325 wd1 wd496 hd_X11_answer rfl (by decide) (by decide) (Nat.le_of_ble_eq_true rfl) ⟨Nat.zero_le _, Nat.zero_le _⟩ ?_
                  cases hF
                  exact mw_iret C dX11_recall_127 rfl rfl
                rcases ite_some hF with ⟨c28, hF⟩ | ⟨c28, hF⟩
                · refine mw_tabI (tgt := 128) 1 C dX11_recall_91 (by decide) c28 (by decide) (by decide) rfl (by decide) ?_
                  refine mw_aload_n 4 C dX11_recall_128 rfl rfl ?_
                  refine mw_iload 3 C dX11_recall_129 rfl ?_
                  obtain ⟨q29, hq29, hF⟩ := bind_some hF
                  refine mw_callV (c := 0) [iv v19] [] C dX11_recall_131 (T_X11_answer (zl Z) (zX Z) v19 _ _ hq29) rfl zn0 zk0 (by decide) rfl wd494 wd495 wd1325 wd1 wd496 hd_X11_answer rfl (by decide) (by decide) (Nat.le_of_ble_eq_true rfl) ⟨Nat.zero_le _, Nat.zero_le _⟩ ?_
                  cases hF
                  exact mw_iret C dX11_recall_134 rfl rfl
                rcases ite_some hF with ⟨c30, hF⟩ | ⟨c30, hF⟩
                · refine mw_tabI (tgt := 135) 2 C dX11_recall_91 (by decide) c30 (by decide) (by decide) rfl (by decide) ?_
                  refine mw_aload_n 4 C dX11_recall_135 rfl rfl ?_
                  refine mw_iload 1 C dX11_recall_136 rfl ?_
                  refine mw_iload 0 C dX11_recall_138 rfl ?_
                  refine mw_iadd C dX11_recall_140 ?_
                  obtain ⟨q31, hq31, hF⟩ := bind_some hF
                  refine mw_callV (c := 0) [iv (v23 + v25)] [] C dX11_recall_141 (T_X11_answer (zl Z) (zX Z) (v23 + v25) _ _ hq31) rfl zn0 zk0 (by decide) rfl wd494 wd495 wd1325 wd1 wd496 hd_X11_answer rfl (by decide) (by decide) (Nat.le_of_ble_eq_true rfl) ⟨Nat.zero_le _, Nat.zero_le _⟩ ?_
                  cases hF
                  exact mw_iret C dX11_recall_144 rfl rfl
                refine mw_tabO (tgt := 145) C dX11_recall_91 g5 (by omega) (by decide) ?_
                refine mw_iload 1 C dX11_recall_145 rfl ?_
                refine mw_iload 0 C dX11_recall_147 rfl ?_
                refine mw_iadd C dX11_recall_149 ?_
                obtain ⟨g32, hF⟩ := ck_some hF
                rcases ite_some hF with ⟨c33, hF⟩ | ⟨c33, hF⟩
                · refine mw_if_ne_t (tgt := 160) C dX11_recall_150 (by decide) g32 c33 ?_
                  refine mw_aload_n 4 C dX11_recall_160 rfl rfl ?_
                  refine mw_iload 1 C dX11_recall_161 rfl ?_
                  obtain ⟨g34, hF⟩ := ck_some hF
                  rcases ite_some hF with ⟨c35, hF⟩ | ⟨c35, hF⟩
                  · refine mw_if_le_t (tgt := 173) C dX11_recall_163 (by decide) g34 c35 ?_
                    refine mw_iload 2 C dX11_recall_173 rfl ?_
                    refine mw_iconst C dX11_recall_175 ?_
                    refine mw_iadd C dX11_recall_176 ?_
                    refine mw_sub [] rfl ?_
                    exact T_X11_recall_177 C (v21 + 1) _ _ hF
                  · refine mw_if_le_f (tgt := 173) C dX11_recall_163 (by decide) g34 c35 ?_
                    refine mw_iload 8 C dX11_recall_166 rfl ?_
                    refine mw_iload_n 5 C dX11_recall_168 rfl rfl ?_
                    obtain ⟨g36, hF⟩ := ck_some hF
                    refine mw_idiv C dX11_recall_169 g9 g1 g36 ?_
                    refine mw_goto (tgt := 177) C dX11_recall_170 (by decide) ?_
                    refine mw_sub [] rfl ?_
                    exact T_X11_recall_177 C (Int.tdiv x4 x1) _ _ hF
                · refine mw_if_ne_f (tgt := 160) C dX11_recall_150 (by decide) g32 c33 ?_
                  refine mw_aload_n 4 C dX11_recall_153 rfl rfl ?_
                  refine mw_bipush C dX11_recall_154 bp_6 ?_
                  obtain ⟨q37, hq37, hF⟩ := bind_some hF
                  refine mw_callV (c := 0) [iv 6] [] C dX11_recall_156 (T_X11_none (zl Z) (zX Z) 6 _ _ hq37) rfl zn0 zk0 (by decide) rfl wd315 wd316 wd1311 wd1 wd317 hd_X11_none rfl (by decide) (by decide) (Nat.le_of_ble_eq_true rfl) ⟨Nat.zero_le _, Nat.zero_le _⟩ ?_
                  cases hF
                  exact mw_iret C dX11_recall_159 rfl rfl
              · refine mw_icmp_le_f (tgt := 61) C dX11_recall_52 (by decide) g15 (by decide) c17 ?_
                refine mw_sub [0] rfl ?_
                exact T_X11_recall_55 C _ _ hF
def F_X11_recall (x1 : Int) (x2 : Int) (x3 : Int) (x4 : Int) (x5 : Int) (x6 : Int) (h : MH) : Option (Int × MH) := F_X11_recall_0 x1 x2 x3 x4 x5 x6 h
theorem T_X11_recall (l : Launch) (X : XT) (x1 : Int) (x2 : Int) (x3 : Int) (x4 : Int) (x5 : Int) (x6 : Int) (h : MH) (t : (Int × MH)) (hF : F_X11_recall x1 x2 x3 x4 x5 x6 h = some t) : Ct l X yX11_recall cX11_recall 11 (some .int) 2 [rfv (xd X) 0, iv x1, iv x2, iv x3, iv x4, iv x5, iv x6] zN zG h (some (iv t.1)) zN zG t.2 0 0 := by
  refine Ct.head (by decide) (Nat.le_of_ble_eq_true rfl) (fun Z hX hl _ _ _ C => ?_)
  subst hX
  subst hl
  exact (T_X11_recall_0 C x1 x2 x3 x4 x5 x6 _ _ hF)
/-! BottleLine.shifts(III)I -/
def F_X11_shifts_31 (h : MH) : Option (Int × MH) :=
  (F_X11_none 1 h).bind fun q1 =>
  some (q1.1, q1.2)
set_option maxRecDepth 100000 in
theorem T_X11_shifts_31 {Z : ZT} (C : Cx Z cX11_shifts 5 RX11 15 (some .int)) (h : MH) (t : (Int × MH)) (hF : F_X11_shifts_31 h = some t) : MW Z (Qm Z (some (iv t.1)) zN zG t.2 0 0) 5 zN zG h 0 0 31 [(0, rfv (xd (zX Z)) 0)] [] := by
  unfold F_X11_shifts_31 at hF
  refine mw_aload_n 0 C dX11_shifts_31 rfl rfl ?_
  refine mw_iconst C dX11_shifts_32 ?_
  obtain ⟨q1, hq1, hF⟩ := bind_some hF
  refine mw_callV (c := 0) [iv 1] [] C dX11_shifts_33 (T_X11_none (zl Z) (zX Z) 1 _ _ hq1) rfl zn0 zk0 (by decide) rfl wd315 wd316 wd1311 wd1 wd317 hd_X11_none rfl (by decide) (by decide) (Nat.le_of_ble_eq_true rfl) ⟨Nat.zero_le _, Nat.zero_le _⟩ ?_
  cases hF
  exact mw_iret C dX11_shifts_36 rfl rfl
def F_X11_shifts_0 (x1 : Int) (x2 : Int) (x3 : Int) (h : MH) : Option (Int × MH) :=
  (F_X11_isTray x1 h).bind fun q1 =>
  ck (in32 q1.1) <|
  if q1.1 = 0 then
    F_X11_shifts_31 q1.2
  else
    ck (in32 x2) <|
    (F_X11_outside x2 1 8 q1.2).bind fun q5 =>
    ck (in32 q5.1) <|
    if q5.1 ≠ 0 then
      F_X11_shifts_31 q5.2
    else
      ck (in32 x3) <|
      (F_X11_outside x3 1 999 q5.2).bind fun q9 =>
      ck (in32 q9.1) <|
      if q9.1 = 0 then
        (F_X11_rowLack x1 x2 q9.2).bind fun q12 =>
        ck (in32 q12.1) <|
        if q12.1 = 0 then
          ck (0 ≤ x1 ∧ x1 < 4) <|
          (F_X11_allWithin (2 + x1.toNat) x2 1 x3 q12.2).bind fun q16 =>
          ck (in32 q16.1) <|
          if q16.1 ≠ 0 then
            (F_X4_pack (2 + x1.toNat) x2 x3 q16.2).bind fun q19 =>
            (F_X11_answer q19.1 q19.2).bind fun q20 =>
            some (q20.1, q20.2)
          else
            (F_X11_none 5 q16.2).bind fun q21 =>
            some (q21.1, q21.2)
        else
          (F_X11_none q12.1 q12.2).bind fun q22 =>
          some (q22.1, q22.2)
      else
        F_X11_shifts_31 q9.2
set_option maxRecDepth 100000 in
theorem T_X11_shifts_0 {Z : ZT} (C : Cx Z cX11_shifts 5 RX11 15 (some .int)) (x1 : Int) (x2 : Int) (x3 : Int) (h : MH) (t : (Int × MH)) (hF : F_X11_shifts_0 x1 x2 x3 h = some t) : MW Z (Qm Z (some (iv t.1)) zN zG t.2 0 0) 5 zN zG h 0 0 0 [(0, rfv (xd (zX Z)) 0), (1, iv x1), (2, iv x2), (3, iv x3)] [] := by
  unfold F_X11_shifts_0 at hF
  refine mw_iload_n 1 C dX11_shifts_0 rfl rfl ?_
  obtain ⟨q1, hq1, hF⟩ := bind_some hF
  refine mw_callS [iv x1] [] C dX11_shifts_1 (T_X11_isTray (zl Z) (zX Z) x1 _ _ hq1) rfl wd284 wd285 wd1 wd286 hd_X11_isTray rfl (by decide) (by decide) (Nat.le_of_ble_eq_true rfl) ⟨Nat.zero_le _, Nat.zero_le _⟩ ?_
  obtain ⟨g2, hF⟩ := ck_some hF
  rcases ite_some hF with ⟨c3, hF⟩ | ⟨c3, hF⟩
  · refine mw_if_eq_t (tgt := 31) C dX11_shifts_4 (by decide) g2 c3 ?_
    refine mw_sub [0] rfl ?_
    exact T_X11_shifts_31 C _ _ hF
  · refine mw_if_eq_f (tgt := 31) C dX11_shifts_4 (by decide) g2 c3 ?_
    refine mw_iload_n 2 C dX11_shifts_7 rfl rfl ?_
    obtain ⟨g4, hF⟩ := ck_some hF
    refine mw_i2l C dX11_shifts_8 g4 ?_
    refine mw_lconst (a := 1) C dX11_shifts_9 lc_1 ?_
    refine mw_ldc2 (a := 8) C dX11_shifts_10 wd680 rfl ?_
    obtain ⟨q5, hq5, hF⟩ := bind_some hF
    refine mw_callS [lvv x2, lvv 1, lvv 8] [] C dX11_shifts_13 (T_X11_outside (zl Z) (zX Z) x2 1 8 _ _ hq5) rfl wd288 wd289 wd1 wd290 hd_X11_outside rfl (by decide) (by decide) (Nat.le_of_ble_eq_true rfl) ⟨Nat.zero_le _, Nat.zero_le _⟩ ?_
    obtain ⟨g6, hF⟩ := ck_some hF
    rcases ite_some hF with ⟨c7, hF⟩ | ⟨c7, hF⟩
    · refine mw_if_ne_t (tgt := 31) C dX11_shifts_16 (by decide) g6 c7 ?_
      refine mw_sub [0] rfl ?_
      exact T_X11_shifts_31 C _ _ hF
    · refine mw_if_ne_f (tgt := 31) C dX11_shifts_16 (by decide) g6 c7 ?_
      refine mw_iload_n 3 C dX11_shifts_19 rfl rfl ?_
      obtain ⟨g8, hF⟩ := ck_some hF
      refine mw_i2l C dX11_shifts_20 g8 ?_
      refine mw_lconst (a := 1) C dX11_shifts_21 lc_1 ?_
      refine mw_ldc2 (a := 999) C dX11_shifts_22 wd851 rfl ?_
      obtain ⟨q9, hq9, hF⟩ := bind_some hF
      refine mw_callS [lvv x3, lvv 1, lvv 999] [] C dX11_shifts_25 (T_X11_outside (zl Z) (zX Z) x3 1 999 _ _ hq9) rfl wd288 wd289 wd1 wd290 hd_X11_outside rfl (by decide) (by decide) (Nat.le_of_ble_eq_true rfl) ⟨Nat.zero_le _, Nat.zero_le _⟩ ?_
      obtain ⟨g10, hF⟩ := ck_some hF
      rcases ite_some hF with ⟨c11, hF⟩ | ⟨c11, hF⟩
      · refine mw_if_eq_t (tgt := 37) C dX11_shifts_28 (by decide) g10 c11 ?_
        refine mw_aload_n 0 C dX11_shifts_37 rfl rfl ?_
        refine mw_iload_n 1 C dX11_shifts_38 rfl rfl ?_
        refine mw_iload_n 2 C dX11_shifts_39 rfl rfl ?_
        obtain ⟨q12, hq12, hF⟩ := bind_some hF
        refine mw_callV (c := 0) [iv x1, iv x2] [] C dX11_shifts_40 (T_X11_rowLack (zl Z) (zX Z) x1 x2 _ _ hq12) rfl zn0 zk0 (by decide) rfl wd750 wd751 wd1349 wd1 wd752 hd_X11_rowLack rfl (by decide) (by decide) (Nat.le_of_ble_eq_true rfl) ⟨Nat.zero_le _, Nat.zero_le _⟩ ?_
        refine mw_istore [(4, iv q12.1), (0, rfv (xd (zX Z)) 0), (1, iv x1), (2, iv x2), (3, iv x3)] C dX11_shifts_43 (by decide) rfl ?_
        refine mw_iload 0 C dX11_shifts_45 rfl ?_
        obtain ⟨g13, hF⟩ := ck_some hF
        rcases ite_some hF with ⟨c14, hF⟩ | ⟨c14, hF⟩
        · refine mw_if_eq_t (tgt := 57) C dX11_shifts_47 (by decide) g13 c14 ?_
          refine mw_aload_n 1 C dX11_shifts_57 rfl rfl ?_
          refine mw_get (k := 3) (T := TX11) (v := rfv (xd (zX Z)) 1) C dX11_shifts_58 zn0 zk0 (by decide) rfl inX11 (by decide) wd252 rfl (zfv_r rfl zg_0_3) ?_
          refine mw_iload_n 2 C dX11_shifts_61 rfl rfl ?_
          obtain ⟨g15, hF⟩ := ck_some hF
          refine mw_aald (t := 6) (c2 := (2 + x1.toNat)) (ty := .array .long) C dX11_shifts_62 zn1 zk1 (by decide) (fun _ => rfl) rfl (by decide) g15 (zg_26 _) ?_
          refine mw_iload_n 3 C dX11_shifts_63 rfl rfl ?_
          refine mw_lconst (a := 1) C dX11_shifts_64 lc_1 ?_
          refine mw_iload_n 4 C dX11_shifts_65 rfl rfl ?_
          refine mw_i2l C dX11_shifts_66 g8 ?_
          obtain ⟨q16, hq16, hF⟩ := bind_some hF
          refine mw_callS [rfv (xd (zX Z)) (2 + x1.toNat), iv x2, lvv 1, lvv x3] [] C dX11_shifts_67 (T_X11_allWithin (zl Z) (zX Z) (2 + x1.toNat) x2 1 x3 (ok_row _ (ix_lt g15)) _ _ hq16) rfl wd792 wd793 wd1 wd794 hd_X11_allWithin rfl (by decide) (by decide) (Nat.le_of_ble_eq_true rfl) ⟨Nat.zero_le _, Nat.zero_le _⟩ ?_
          obtain ⟨g17, hF⟩ := ck_some hF
          rcases ite_some hF with ⟨c18, hF⟩ | ⟨c18, hF⟩
          · refine mw_if_ne_t (tgt := 79) C dX11_shifts_70 (by decide) g17 c18 ?_
            refine mw_aload_n 1 C dX11_shifts_79 rfl rfl ?_
            refine mw_aload_n 1 C dX11_shifts_80 rfl rfl ?_
            refine mw_get (k := 18) (T := TX11) (v := rfv (xd (zX Z)) 78) C dX11_shifts_81 zn0 zk0 (by decide) rfl inX11 (by decide) wd267 rfl (zfv_r rfl zg_0_18) ?_
            refine mw_aload_n 1 C dX11_shifts_84 rfl rfl ?_
            refine mw_get (k := 3) (T := TX11) (v := rfv (xd (zX Z)) 1) C dX11_shifts_85 zn0 zk0 (by decide) rfl inX11 (by decide) wd252 rfl (zfv_r rfl zg_0_3) ?_
            refine mw_iload_n 2 C dX11_shifts_88 rfl rfl ?_
            refine mw_aald (t := 6) (c2 := (2 + x1.toNat)) (ty := .array .long) C dX11_shifts_89 zn1 zk1 (by decide) (fun _ => rfl) rfl (by decide) g15 (zg_26 _) ?_
            refine mw_iload_n 3 C dX11_shifts_90 rfl rfl ?_
            refine mw_iload_n 4 C dX11_shifts_91 rfl rfl ?_
            obtain ⟨q19, hq19, hF⟩ := bind_some hF
            refine mw_callV (c := 78) [rfv (xd (zX Z)) (2 + x1.toNat), iv x2, iv x3] [rfv (xd (zX Z)) 0] C dX11_shifts_92 (T_X4_pack (zl Z) (zX Z) (2 + x1.toNat) x2 x3 (ok_row _ (ix_lt g15)) _ _ hq19) rfl zn78 zk78 (by decide) rfl wd852 wd853 wd854 wd12 wd855 hd_X4_pack rfl (by decide) (by decide) (Nat.le_of_ble_eq_true rfl) ⟨Nat.zero_le _, Nat.zero_le _⟩ ?_
            obtain ⟨q20, hq20, hF⟩ := bind_some hF
            refine mw_callV (c := 0) [iv q19.1] [] C dX11_shifts_95 (T_X11_answer (zl Z) (zX Z) q19.1 _ _ hq20) rfl zn0 zk0 (by decide) rfl wd494 wd495 wd1325 wd1 wd496 hd_X11_answer rfl (by decide) (by decide) (Nat.le_of_ble_eq_true rfl) ⟨Nat.zero_le _, Nat.zero_le _⟩ ?_
            cases hF
            exact mw_iret C dX11_shifts_98 rfl rfl
          · refine mw_if_ne_f (tgt := 79) C dX11_shifts_70 (by decide) g17 c18 ?_
            refine mw_aload_n 1 C dX11_shifts_73 rfl rfl ?_
            refine mw_iconst C dX11_shifts_74 ?_
            obtain ⟨q21, hq21, hF⟩ := bind_some hF
            refine mw_callV (c := 0) [iv 5] [] C dX11_shifts_75 (T_X11_none (zl Z) (zX Z) 5 _ _ hq21) rfl zn0 zk0 (by decide) rfl wd315 wd316 wd1311 wd1 wd317 hd_X11_none rfl (by decide) (by decide) (Nat.le_of_ble_eq_true rfl) ⟨Nat.zero_le _, Nat.zero_le _⟩ ?_
            cases hF
            exact mw_iret C dX11_shifts_78 rfl rfl
        · refine mw_if_eq_f (tgt := 57) C dX11_shifts_47 (by decide) g13 c14 ?_
          refine mw_aload_n 1 C dX11_shifts_50 rfl rfl ?_
          refine mw_iload 0 C dX11_shifts_51 rfl ?_
          obtain ⟨q22, hq22, hF⟩ := bind_some hF
          refine mw_callV (c := 0) [iv q12.1] [] C dX11_shifts_53 (T_X11_none (zl Z) (zX Z) q12.1 _ _ hq22) rfl zn0 zk0 (by decide) rfl wd315 wd316 wd1311 wd1 wd317 hd_X11_none rfl (by decide) (by decide) (Nat.le_of_ble_eq_true rfl) ⟨Nat.zero_le _, Nat.zero_le _⟩ ?_
          cases hF
          exact mw_iret C dX11_shifts_56 rfl rfl
      · refine mw_if_eq_f (tgt := 37) C dX11_shifts_28 (by decide) g10 c11 ?_
        refine mw_sub [0] rfl ?_
        exact T_X11_shifts_31 C _ _ hF
def F_X11_shifts (x1 : Int) (x2 : Int) (x3 : Int) (h : MH) : Option (Int × MH) := F_X11_shifts_0 x1 x2 x3 h
theorem T_X11_shifts (l : Launch) (X : XT) (x1 : Int) (x2 : Int) (x3 : Int) (h : MH) (t : (Int × MH)) (hF : F_X11_shifts x1 x2 x3 h = some t) : Ct l X yX11_shifts cX11_shifts 5 (some .int) 15 [rfv (xd X) 0, iv x1, iv x2, iv x3] zN zG h (some (iv t.1)) zN zG t.2 0 0 := by
  refine Ct.head (by decide) (Nat.le_of_ble_eq_true rfl) (fun Z hX hl _ _ _ C => ?_)
  subst hX
  subst hl
  exact (T_X11_shifts_0 C x1 x2 x3 _ _ hF)
/-! BottleLine.shiftOf(I)I -/
def F_X11_shiftOf_0 (x1 : Int) (h : MH) : Option (Int × MH) :=
  ck (in32 x1) <|
  if 0 ≤ x1 then
    ck (in32 (h 78 1)) <|
    if (h 78 1) ≤ x1 then
      (F_X11_none 6 h).bind fun q5 =>
      some (q5.1, q5.2)
    else
      ck (0 ≤ x1 ∧ x1 < 8) <|
      (F_X11_answer (h 79 x1.toNat) h).bind fun q7 =>
      some (q7.1, q7.2)
  else
    (F_X11_none 1 h).bind fun q8 =>
    some (q8.1, q8.2)
set_option maxRecDepth 100000 in
theorem T_X11_shiftOf_0 {Z : ZT} (C : Cx Z cX11_shiftOf 2 RX11 2 (some .int)) (x1 : Int) (h : MH) (t : (Int × MH)) (hF : F_X11_shiftOf_0 x1 h = some t) : MW Z (Qm Z (some (iv t.1)) zN zG t.2 0 0) 2 zN zG h 0 0 0 [(0, rfv (xd (zX Z)) 0), (1, iv x1)] [] := by
  unfold F_X11_shiftOf_0 at hF
  refine mw_iload_n 1 C dX11_shiftOf_0 rfl rfl ?_
  obtain ⟨g1, hF⟩ := ck_some hF
  rcases ite_some hF with ⟨c2, hF⟩ | ⟨c2, hF⟩
  · refine mw_if_ge_t (tgt := 10) C dX11_shiftOf_1 (by decide) g1 c2 ?_
    refine mw_iload_n 1 C dX11_shiftOf_10 rfl rfl ?_
    refine mw_aload_n 0 C dX11_shiftOf_11 rfl rfl ?_
    refine mw_get (k := 18) (T := TX11) (v := rfv (xd (zX Z)) 78) C dX11_shiftOf_12 zn0 zk0 (by decide) rfl inX11 (by decide) wd267 rfl (zfv_r rfl zg_0_18) ?_
    refine mw_get (k := 1) (T := TX4) (v := iv (h 78 1)) C dX11_shiftOf_15 zn78 zk78 (by decide) rfl inX4 (by decide) wd244 rfl rfl ?_
    obtain ⟨g3, hF⟩ := ck_some hF
    rcases ite_some hF with ⟨c4, hF⟩ | ⟨c4, hF⟩
    · refine mw_icmp_ge_t (tgt := 37) C dX11_shiftOf_18 (by decide) g1 g3 c4 ?_
      refine mw_aload_n 0 C dX11_shiftOf_37 rfl rfl ?_
      refine mw_bipush C dX11_shiftOf_38 bp_6 ?_
      obtain ⟨q5, hq5, hF⟩ := bind_some hF
      refine mw_callV (c := 0) [iv 6] [] C dX11_shiftOf_40 (T_X11_none (zl Z) (zX Z) 6 _ _ hq5) rfl zn0 zk0 (by decide) rfl wd315 wd316 wd1311 wd1 wd317 hd_X11_none rfl (by decide) (by decide) (Nat.le_of_ble_eq_true rfl) ⟨Nat.zero_le _, Nat.zero_le _⟩ ?_
      cases hF
      exact mw_iret C dX11_shiftOf_43 rfl rfl
    · refine mw_icmp_ge_f (tgt := 37) C dX11_shiftOf_18 (by decide) g1 g3 c4 ?_
      refine mw_aload_n 0 C dX11_shiftOf_21 rfl rfl ?_
      refine mw_aload_n 0 C dX11_shiftOf_22 rfl rfl ?_
      refine mw_get (k := 18) (T := TX11) (v := rfv (xd (zX Z)) 78) C dX11_shiftOf_23 zn0 zk0 (by decide) rfl inX11 (by decide) wd267 rfl (zfv_r rfl zg_0_18) ?_
      refine mw_get (k := 0) (T := TX4) (v := rfv (xd (zX Z)) 79) C dX11_shiftOf_26 zn78 zk78 (by decide) rfl inX4 (by decide) wd242 rfl (zfv_r rfl zg_78_0) ?_
      refine mw_iload_n 1 C dX11_shiftOf_29 rfl rfl ?_
      obtain ⟨g6, hF⟩ := ck_some hF
      refine mw_iald C dX11_shiftOf_30 zn79 zk79 (by decide) g6 ?_
      obtain ⟨q7, hq7, hF⟩ := bind_some hF
      refine mw_callV (c := 0) [iv (h 79 x1.toNat)] [] C dX11_shiftOf_31 (T_X11_answer (zl Z) (zX Z) (h 79 x1.toNat) _ _ hq7) rfl zn0 zk0 (by decide) rfl wd494 wd495 wd1325 wd1 wd496 hd_X11_answer rfl (by decide) (by decide) (Nat.le_of_ble_eq_true rfl) ⟨Nat.zero_le _, Nat.zero_le _⟩ ?_
      refine mw_goto (tgt := 43) C dX11_shiftOf_34 (by decide) ?_
      cases hF
      exact mw_iret C dX11_shiftOf_43 rfl rfl
  · refine mw_if_ge_f (tgt := 10) C dX11_shiftOf_1 (by decide) g1 c2 ?_
    refine mw_aload_n 0 C dX11_shiftOf_4 rfl rfl ?_
    refine mw_iconst C dX11_shiftOf_5 ?_
    obtain ⟨q8, hq8, hF⟩ := bind_some hF
    refine mw_callV (c := 0) [iv 1] [] C dX11_shiftOf_6 (T_X11_none (zl Z) (zX Z) 1 _ _ hq8) rfl zn0 zk0 (by decide) rfl wd315 wd316 wd1311 wd1 wd317 hd_X11_none rfl (by decide) (by decide) (Nat.le_of_ble_eq_true rfl) ⟨Nat.zero_le _, Nat.zero_le _⟩ ?_
    cases hF
    exact mw_iret C dX11_shiftOf_9 rfl rfl
def F_X11_shiftOf (x1 : Int) (h : MH) : Option (Int × MH) := F_X11_shiftOf_0 x1 h
theorem T_X11_shiftOf (l : Launch) (X : XT) (x1 : Int) (h : MH) (t : (Int × MH)) (hF : F_X11_shiftOf x1 h = some t) : Ct l X yX11_shiftOf cX11_shiftOf 2 (some .int) 2 [rfv (xd X) 0, iv x1] zN zG h (some (iv t.1)) zN zG t.2 0 0 := by
  refine Ct.head (by decide) (Nat.le_of_ble_eq_true rfl) (fun Z hX hl _ _ _ C => ?_)
  subst hX
  subst hl
  exact (T_X11_shiftOf_0 C x1 _ _ hF)
/-! BottleLine.lot(III)I -/
def F_X11_lot_31 (h : MH) : Option (Int × MH) :=
  (F_X11_none 1 h).bind fun q1 =>
  some (q1.1, q1.2)
set_option maxRecDepth 100000 in
theorem T_X11_lot_31 {Z : ZT} (C : Cx Z cX11_lot 7 RX11 3 (some .int)) (h : MH) (t : (Int × MH)) (hF : F_X11_lot_31 h = some t) : MW Z (Qm Z (some (iv t.1)) zN zG t.2 0 0) 7 zN zG h 0 0 31 [(0, rfv (xd (zX Z)) 0)] [] := by
  unfold F_X11_lot_31 at hF
  refine mw_aload_n 0 C dX11_lot_31 rfl rfl ?_
  refine mw_iconst C dX11_lot_32 ?_
  obtain ⟨q1, hq1, hF⟩ := bind_some hF
  refine mw_callV (c := 0) [iv 1] [] C dX11_lot_33 (T_X11_none (zl Z) (zX Z) 1 _ _ hq1) rfl zn0 zk0 (by decide) rfl wd315 wd316 wd1311 wd1 wd317 hd_X11_none rfl (by decide) (by decide) (Nat.le_of_ble_eq_true rfl) ⟨Nat.zero_le _, Nat.zero_le _⟩ ?_
  cases hF
  exact mw_iret C dX11_lot_36 rfl rfl
def F_X11_lot_110 (x6 : Int) (h : MH) : Option (Int × MH) :=
  ck (in32 x6) <|
  if 0 ≤ x6 then
    (F_X11_answer x6 h).bind fun q3 =>
    some (q3.1, q3.2)
  else
    (F_X11_none 6 h).bind fun q4 =>
    some (q4.1, q4.2)
set_option maxRecDepth 100000 in
theorem T_X11_lot_110 {Z : ZT} (C : Cx Z cX11_lot 7 RX11 3 (some .int)) (x6 : Int) (h : MH) (t : (Int × MH)) (hF : F_X11_lot_110 x6 h = some t) : MW Z (Qm Z (some (iv t.1)) zN zG t.2 0 0) 7 zN zG h 0 0 110 [(0, rfv (xd (zX Z)) 0), (6, iv x6)] [] := by
  unfold F_X11_lot_110 at hF
  refine mw_iload 1 C dX11_lot_110 rfl ?_
  obtain ⟨g1, hF⟩ := ck_some hF
  rcases ite_some hF with ⟨c2, hF⟩ | ⟨c2, hF⟩
  · refine mw_if_ge_t (tgt := 124) C dX11_lot_112 (by decide) g1 c2 ?_
    refine mw_aload_n 0 C dX11_lot_124 rfl rfl ?_
    refine mw_iload 1 C dX11_lot_125 rfl ?_
    obtain ⟨q3, hq3, hF⟩ := bind_some hF
    refine mw_callV (c := 0) [iv x6] [] C dX11_lot_127 (T_X11_answer (zl Z) (zX Z) x6 _ _ hq3) rfl zn0 zk0 (by decide) rfl wd494 wd495 wd1325 wd1 wd496 hd_X11_answer rfl (by decide) (by decide) (Nat.le_of_ble_eq_true rfl) ⟨Nat.zero_le _, Nat.zero_le _⟩ ?_
    cases hF
    exact mw_iret C dX11_lot_130 rfl rfl
  · refine mw_if_ge_f (tgt := 124) C dX11_lot_112 (by decide) g1 c2 ?_
    refine mw_aload_n 0 C dX11_lot_115 rfl rfl ?_
    refine mw_bipush C dX11_lot_116 bp_6 ?_
    obtain ⟨q4, hq4, hF⟩ := bind_some hF
    refine mw_callV (c := 0) [iv 6] [] C dX11_lot_118 (T_X11_none (zl Z) (zX Z) 6 _ _ hq4) rfl zn0 zk0 (by decide) rfl wd315 wd316 wd1311 wd1 wd317 hd_X11_none rfl (by decide) (by decide) (Nat.le_of_ble_eq_true rfl) ⟨Nat.zero_le _, Nat.zero_le _⟩ ?_
    refine mw_goto (tgt := 130) C dX11_lot_121 (by decide) ?_
    cases hF
    exact mw_iret C dX11_lot_130 rfl rfl
def F_X11_lot_88 : Nat → Int → Nat → Int → MH → Option (Int × MH)
  | 0, _, _, _, _ => none
  | n + 1, x3, x5, x6, h =>
    ck (in32 x6) <|
    if x6 < 0 then
      F_X11_lot_110 x6 h
    else
      ck (0 ≤ x6 ∧ x6 < 60) <|
      ck (in32 x3) <|
      ck (in64 (h x5 x6.toNat)) <|
      if (h x5 x6.toNat) ≤ x3 then
        F_X11_lot_110 x6 h
      else
        F_X11_lot_88 n x3 x5 (x6 + (-1)) h
set_option maxRecDepth 100000 in
theorem T_X11_lot_88 {Z : ZT} (C : Cx Z cX11_lot 7 RX11 3 (some .int)) : ∀ (n : Nat) (x3 : Int) (x5 : Nat) (x6 : Int) (hk_x5 : zK x5 = (22, 60) ∧ x5 < zN ∧ 60 < 2147483648) (h : MH) (t : (Int × MH)), F_X11_lot_88 n x3 x5 x6 h = some t → MW Z (Qm Z (some (iv t.1)) zN zG t.2 0 0) 7 zN zG h 0 0 88 [(0, rfv (xd (zX Z)) 0), (3, iv x3), (5, rfv (xd (zX Z)) x5), (6, iv x6)] [] := by
  intro n
  induction n with
  | zero =>
    intros
    rename_i hF
    exact absurd hF (by intro q; cases q)
  | succ n ih =>
    intro x3 x5 x6 hk_x5 h t hF
    rw [F_X11_lot_88] at hF
    refine mw_iload 3 C dX11_lot_88 rfl ?_
    obtain ⟨g1, hF⟩ := ck_some hF
    rcases ite_some hF with ⟨c2, hF⟩ | ⟨c2, hF⟩
    · refine mw_if_lt_t (tgt := 110) C dX11_lot_90 (by decide) g1 c2 ?_
      refine mw_sub [0, 3] rfl ?_
      exact T_X11_lot_110 C x6 _ _ hF
    · refine mw_if_lt_f (tgt := 110) C dX11_lot_90 (by decide) g1 c2 ?_
      refine mw_aload 2 C dX11_lot_93 rfl ?_
      refine mw_iload 3 C dX11_lot_95 rfl ?_
      obtain ⟨g3, hF⟩ := ck_some hF
      refine mw_lald C dX11_lot_97 hk_x5.2.1 hk_x5.1 hk_x5.2.2 g3 ?_
      refine mw_iload_n 1 C dX11_lot_98 rfl rfl ?_
      obtain ⟨g4, hF⟩ := ck_some hF
      refine mw_i2l C dX11_lot_99 g4 ?_
      obtain ⟨g5, hF⟩ := ck_some hF
      rcases ite_some hF with ⟨c6, hF⟩ | ⟨c6, hF⟩
      · refine mw_lcmp_le_t (tgt := 110) C dX11_lot_100 dX11_lot_101 (by decide) g5 (in64_of g4) c6 ?_
        refine mw_sub [0, 3] rfl ?_
        exact T_X11_lot_110 C x6 _ _ hF
      · refine mw_lcmp_le_f (tgt := 110) C dX11_lot_100 dX11_lot_101 (by decide) g5 (in64_of g4) c6 ?_
        refine mw_iinc 3 [(6, iv (x6 + (-1))), (0, rfv (xd (zX Z)) 0), (3, iv x3), (5, rfv (xd (zX Z)) x5)] C dX11_lot_104 rfl (by decide) rfl ?_
        refine mw_goto (tgt := 88) C dX11_lot_107 (by decide) ?_
        refine mw_sub [1, 2, 3, 0] rfl ?_
        exact ih x3 x5 (x6 + (-1)) hk_x5 _ _ hF
def F_X11_lot_0 (x1 : Int) (x2 : Int) (x3 : Int) (h : MH) : Option (Int × MH) :=
  (F_X11_isTray x1 h).bind fun q1 =>
  ck (in32 q1.1) <|
  if q1.1 = 0 then
    F_X11_lot_31 q1.2
  else
    ck (in32 x2) <|
    (F_X11_outside x2 1 30 q1.2).bind fun q5 =>
    ck (in32 q5.1) <|
    if q5.1 ≠ 0 then
      F_X11_lot_31 q5.2
    else
      ck (in32 x3) <|
      (F_X11_outside x3 0 9999 q5.2).bind fun q9 =>
      ck (in32 q9.1) <|
      if q9.1 = 0 then
        (F_X11_rowLack x1 x2 q9.2).bind fun q12 =>
        ck (in32 q12.1) <|
        if q12.1 = 0 then
          ck (0 ≤ x1 ∧ x1 < 4) <|
          (F_X11_rises (2 + x1.toNat) x2 9999 q12.2).bind fun q16 =>
          ck (in32 q16.1) <|
          if q16.1 ≠ 0 then
            nx (x2 - 1) fun v19 =>
            F_X11_lot_88 20000 x3 (2 + x1.toNat) v19 q16.2
          else
            (F_X11_none 5 q16.2).bind fun q20 =>
            some (q20.1, q20.2)
        else
          (F_X11_none q12.1 q12.2).bind fun q21 =>
          some (q21.1, q21.2)
      else
        F_X11_lot_31 q9.2
set_option maxRecDepth 100000 in
theorem T_X11_lot_0 {Z : ZT} (C : Cx Z cX11_lot 7 RX11 3 (some .int)) (x1 : Int) (x2 : Int) (x3 : Int) (h : MH) (t : (Int × MH)) (hF : F_X11_lot_0 x1 x2 x3 h = some t) : MW Z (Qm Z (some (iv t.1)) zN zG t.2 0 0) 7 zN zG h 0 0 0 [(0, rfv (xd (zX Z)) 0), (1, iv x1), (2, iv x2), (3, iv x3)] [] := by
  unfold F_X11_lot_0 at hF
  refine mw_iload_n 1 C dX11_lot_0 rfl rfl ?_
  obtain ⟨q1, hq1, hF⟩ := bind_some hF
  refine mw_callS [iv x1] [] C dX11_lot_1 (T_X11_isTray (zl Z) (zX Z) x1 _ _ hq1) rfl wd284 wd285 wd1 wd286 hd_X11_isTray rfl (by decide) (by decide) (Nat.le_of_ble_eq_true rfl) ⟨Nat.zero_le _, Nat.zero_le _⟩ ?_
  obtain ⟨g2, hF⟩ := ck_some hF
  rcases ite_some hF with ⟨c3, hF⟩ | ⟨c3, hF⟩
  · refine mw_if_eq_t (tgt := 31) C dX11_lot_4 (by decide) g2 c3 ?_
    refine mw_sub [0] rfl ?_
    exact T_X11_lot_31 C _ _ hF
  · refine mw_if_eq_f (tgt := 31) C dX11_lot_4 (by decide) g2 c3 ?_
    refine mw_iload_n 2 C dX11_lot_7 rfl rfl ?_
    obtain ⟨g4, hF⟩ := ck_some hF
    refine mw_i2l C dX11_lot_8 g4 ?_
    refine mw_lconst (a := 1) C dX11_lot_9 lc_1 ?_
    refine mw_ldc2 (a := 30) C dX11_lot_10 wd869 rfl ?_
    obtain ⟨q5, hq5, hF⟩ := bind_some hF
    refine mw_callS [lvv x2, lvv 1, lvv 30] [] C dX11_lot_13 (T_X11_outside (zl Z) (zX Z) x2 1 30 _ _ hq5) rfl wd288 wd289 wd1 wd290 hd_X11_outside rfl (by decide) (by decide) (Nat.le_of_ble_eq_true rfl) ⟨Nat.zero_le _, Nat.zero_le _⟩ ?_
    obtain ⟨g6, hF⟩ := ck_some hF
    rcases ite_some hF with ⟨c7, hF⟩ | ⟨c7, hF⟩
    · refine mw_if_ne_t (tgt := 31) C dX11_lot_16 (by decide) g6 c7 ?_
      refine mw_sub [0] rfl ?_
      exact T_X11_lot_31 C _ _ hF
    · refine mw_if_ne_f (tgt := 31) C dX11_lot_16 (by decide) g6 c7 ?_
      refine mw_iload_n 3 C dX11_lot_19 rfl rfl ?_
      obtain ⟨g8, hF⟩ := ck_some hF
      refine mw_i2l C dX11_lot_20 g8 ?_
      refine mw_lconst (a := 0) C dX11_lot_21 lc_0 ?_
      refine mw_ldc2 (a := 9999) C dX11_lot_22 wd589 rfl ?_
      obtain ⟨q9, hq9, hF⟩ := bind_some hF
      refine mw_callS [lvv x3, lvv 0, lvv 9999] [] C dX11_lot_25 (T_X11_outside (zl Z) (zX Z) x3 0 9999 _ _ hq9) rfl wd288 wd289 wd1 wd290 hd_X11_outside rfl (by decide) (by decide) (Nat.le_of_ble_eq_true rfl) ⟨Nat.zero_le _, Nat.zero_le _⟩ ?_
      obtain ⟨g10, hF⟩ := ck_some hF
      rcases ite_some hF with ⟨c11, hF⟩ | ⟨c11, hF⟩
      · refine mw_if_eq_t (tgt := 37) C dX11_lot_28 (by decide) g10 c11 ?_
        refine mw_aload_n 0 C dX11_lot_37 rfl rfl ?_
        refine mw_iload_n 1 C dX11_lot_38 rfl rfl ?_
        refine mw_iload_n 2 C dX11_lot_39 rfl rfl ?_
        obtain ⟨q12, hq12, hF⟩ := bind_some hF
        refine mw_callV (c := 0) [iv x1, iv x2] [] C dX11_lot_40 (T_X11_rowLack (zl Z) (zX Z) x1 x2 _ _ hq12) rfl zn0 zk0 (by decide) rfl wd750 wd751 wd1349 wd1 wd752 hd_X11_rowLack rfl (by decide) (by decide) (Nat.le_of_ble_eq_true rfl) ⟨Nat.zero_le _, Nat.zero_le _⟩ ?_
        refine mw_istore [(4, iv q12.1), (0, rfv (xd (zX Z)) 0), (1, iv x1), (2, iv x2), (3, iv x3)] C dX11_lot_43 (by decide) rfl ?_
        refine mw_iload 0 C dX11_lot_45 rfl ?_
        obtain ⟨g13, hF⟩ := ck_some hF
        rcases ite_some hF with ⟨c14, hF⟩ | ⟨c14, hF⟩
        · refine mw_if_eq_t (tgt := 57) C dX11_lot_47 (by decide) g13 c14 ?_
          refine mw_aload_n 1 C dX11_lot_57 rfl rfl ?_
          refine mw_get (k := 3) (T := TX11) (v := rfv (xd (zX Z)) 1) C dX11_lot_58 zn0 zk0 (by decide) rfl inX11 (by decide) wd252 rfl (zfv_r rfl zg_0_3) ?_
          refine mw_iload_n 2 C dX11_lot_61 rfl rfl ?_
          obtain ⟨g15, hF⟩ := ck_some hF
          refine mw_aald (t := 6) (c2 := (2 + x1.toNat)) (ty := .array .long) C dX11_lot_62 zn1 zk1 (by decide) (fun _ => rfl) rfl (by decide) g15 (zg_26 _) ?_
          refine mw_astore [(5, rfv (xd (zX Z)) (2 + x1.toNat)), (4, iv q12.1), (0, rfv (xd (zX Z)) 0), (1, iv x1), (2, iv x2), (3, iv x3)] C dX11_lot_63 (by decide) rfl ?_
          refine mw_aload 0 C dX11_lot_65 rfl ?_
          refine mw_iload_n 4 C dX11_lot_67 rfl rfl ?_
          refine mw_sipush C dX11_lot_68 sp_9999 ?_
          obtain ⟨q16, hq16, hF⟩ := bind_some hF
          refine mw_callS [rfv (xd (zX Z)) (2 + x1.toNat), iv x2, iv 9999] [] C dX11_lot_71 (T_X11_rises (zl Z) (zX Z) (2 + x1.toNat) x2 9999 (ok_row _ (ix_lt g15)) _ _ hq16) rfl wd753 wd754 wd1 wd755 hd_X11_rises rfl (by decide) (by decide) (Nat.le_of_ble_eq_true rfl) ⟨Nat.zero_le _, Nat.zero_le _⟩ ?_
          obtain ⟨g17, hF⟩ := ck_some hF
          rcases ite_some hF with ⟨c18, hF⟩ | ⟨c18, hF⟩
          · refine mw_if_ne_t (tgt := 83) C dX11_lot_74 (by decide) g17 c18 ?_
            refine mw_iload_n 4 C dX11_lot_83 rfl rfl ?_
            refine mw_iconst C dX11_lot_84 ?_
            refine mw_isub C dX11_lot_85 ?_
            obtain ⟨v19, ev19, hF⟩ := nx_some hF
            refine mw_ti ev19 ?_
            refine mw_istore [(6, iv v19), (5, rfv (xd (zX Z)) (2 + x1.toNat)), (4, iv q12.1), (0, rfv (xd (zX Z)) 0), (1, iv x1), (2, iv x2), (3, iv x3)] C dX11_lot_86 (by decide) rfl ?_
            refine mw_sub [3, 6, 1, 0] rfl ?_
            exact T_X11_lot_88 C 20000 x3 (2 + x1.toNat) v19 (ok_row _ (ix_lt g15)) _ _ hF
          · refine mw_if_ne_f (tgt := 83) C dX11_lot_74 (by decide) g17 c18 ?_
            refine mw_aload_n 2 C dX11_lot_77 rfl rfl ?_
            refine mw_iconst C dX11_lot_78 ?_
            obtain ⟨q20, hq20, hF⟩ := bind_some hF
            refine mw_callV (c := 0) [iv 5] [] C dX11_lot_79 (T_X11_none (zl Z) (zX Z) 5 _ _ hq20) rfl zn0 zk0 (by decide) rfl wd315 wd316 wd1311 wd1 wd317 hd_X11_none rfl (by decide) (by decide) (Nat.le_of_ble_eq_true rfl) ⟨Nat.zero_le _, Nat.zero_le _⟩ ?_
            cases hF
            exact mw_iret C dX11_lot_82 rfl rfl
        · refine mw_if_eq_f (tgt := 57) C dX11_lot_47 (by decide) g13 c14 ?_
          refine mw_aload_n 1 C dX11_lot_50 rfl rfl ?_
          refine mw_iload 0 C dX11_lot_51 rfl ?_
          obtain ⟨q21, hq21, hF⟩ := bind_some hF
          refine mw_callV (c := 0) [iv q12.1] [] C dX11_lot_53 (T_X11_none (zl Z) (zX Z) q12.1 _ _ hq21) rfl zn0 zk0 (by decide) rfl wd315 wd316 wd1311 wd1 wd317 hd_X11_none rfl (by decide) (by decide) (Nat.le_of_ble_eq_true rfl) ⟨Nat.zero_le _, Nat.zero_le _⟩ ?_
          cases hF
          exact mw_iret C dX11_lot_56 rfl rfl
      · refine mw_if_eq_f (tgt := 37) C dX11_lot_28 (by decide) g10 c11 ?_
        refine mw_sub [0] rfl ?_
        exact T_X11_lot_31 C _ _ hF
def F_X11_lot (x1 : Int) (x2 : Int) (x3 : Int) (h : MH) : Option (Int × MH) := F_X11_lot_0 x1 x2 x3 h
theorem T_X11_lot (l : Launch) (X : XT) (x1 : Int) (x2 : Int) (x3 : Int) (h : MH) (t : (Int × MH)) (hF : F_X11_lot x1 x2 x3 h = some t) : Ct l X yX11_lot cX11_lot 7 (some .int) 3 [rfv (xd X) 0, iv x1, iv x2, iv x3] zN zG h (some (iv t.1)) zN zG t.2 0 0 := by
  refine Ct.head (by decide) (Nat.le_of_ble_eq_true rfl) (fun Z hX hl _ _ _ C => ?_)
  subst hX
  subst hl
  exact (T_X11_lot_0 C x1 x2 x3 _ _ hF)
/-! BottleLine.torn(III)Z -/
def F_X11_torn_31 (h : MH) : Option (Int × MH) :=
  (F_X11_refused 1 h).bind fun q1 =>
  ck (q1.1 = 0 ∨ q1.1 = 1) <|
  some (q1.1, q1.2)
set_option maxRecDepth 100000 in
theorem T_X11_torn_31 {Z : ZT} (C : Cx Z cX11_torn 10 RX11 3 (some .boolean)) (h : MH) (t : (Int × MH)) (hF : F_X11_torn_31 h = some t) : MW Z (Qm Z (some (iv t.1)) zN zG t.2 0 0) 10 zN zG h 0 0 31 [(0, rfv (xd (zX Z)) 0)] [] := by
  unfold F_X11_torn_31 at hF
  refine mw_aload_n 0 C dX11_torn_31 rfl rfl ?_
  refine mw_iconst C dX11_torn_32 ?_
  obtain ⟨q1, hq1, hF⟩ := bind_some hF
  refine mw_callV (c := 0) [iv 1] [] C dX11_torn_33 (T_X11_refused (zl Z) (zX Z) 1 _ _ hq1) rfl zn0 zk0 (by decide) rfl wd292 wd293 wd1308 wd1 wd294 hd_X11_refused rfl (by decide) (by decide) (Nat.le_of_ble_eq_true rfl) ⟨Nat.zero_le _, Nat.zero_le _⟩ ?_
  obtain ⟨g2, hF⟩ := ck_some hF
  cases hF
  exact mw_zret C dX11_torn_36 g2 rfl rfl
def F_X11_torn_159 (h : MH) : Option (Int × MH) :=
  (F_X11_refused 6 h).bind fun q1 =>
  ck (q1.1 = 0 ∨ q1.1 = 1) <|
  some (q1.1, q1.2)
set_option maxRecDepth 100000 in
theorem T_X11_torn_159 {Z : ZT} (C : Cx Z cX11_torn 10 RX11 3 (some .boolean)) (h : MH) (t : (Int × MH)) (hF : F_X11_torn_159 h = some t) : MW Z (Qm Z (some (iv t.1)) zN zG t.2 0 0) 10 zN zG h 0 0 159 [(0, rfv (xd (zX Z)) 0)] [] := by
  unfold F_X11_torn_159 at hF
  refine mw_aload_n 0 C dX11_torn_159 rfl rfl ?_
  refine mw_bipush C dX11_torn_160 bp_6 ?_
  obtain ⟨q1, hq1, hF⟩ := bind_some hF
  refine mw_callV (c := 0) [iv 6] [] C dX11_torn_162 (T_X11_refused (zl Z) (zX Z) 6 _ _ hq1) rfl zn0 zk0 (by decide) rfl wd292 wd293 wd1308 wd1 wd294 hd_X11_refused rfl (by decide) (by decide) (Nat.le_of_ble_eq_true rfl) ⟨Nat.zero_le _, Nat.zero_le _⟩ ?_
  obtain ⟨g2, hF⟩ := ck_some hF
  cases hF
  exact mw_zret C dX11_torn_165 g2 rfl rfl
def F_X11_torn_128 (k96 : Int → Nat → Int → Int → Int → MH → Option (Int × MH)) (x2 : Int) (x5 : Nat) (x6 : Int) (x7 : Int) (x9 : Int) (h : MH) : Option (Int × MH) :=
  k96 x2 x5 x6 x7 (x9 + 1) h
set_option maxRecDepth 100000 in
theorem T_X11_torn_128 {Z : ZT} (C : Cx Z cX11_torn 10 RX11 3 (some .boolean)) (k96 : Int → Nat → Int → Int → Int → MH → Option (Int × MH)) (hk96 : ∀ (x2 : Int) (x5 : Nat) (x6 : Int) (x7 : Int) (x9 : Int) (hk_x5 : zK x5 = (22, 60) ∧ x5 < zN ∧ 60 < 2147483648) (h : MH) (t : (Int × MH)), k96 x2 x5 x6 x7 x9 h = some t → MW Z (Qm Z (some (iv t.1)) zN zG t.2 0 0) 10 zN zG h 0 0 96 [(0, rfv (xd (zX Z)) 0), (2, iv x2), (5, rfv (xd (zX Z)) x5), (6, iv x6), (7, lvv x7), (9, iv x9)] []) (x2 : Int) (x5 : Nat) (x6 : Int) (x7 : Int) (x9 : Int) (hk_x5 : zK x5 = (22, 60) ∧ x5 < zN ∧ 60 < 2147483648) (h : MH) (t : (Int × MH)) (hF : F_X11_torn_128 k96 x2 x5 x6 x7 x9 h = some t) : MW Z (Qm Z (some (iv t.1)) zN zG t.2 0 0) 10 zN zG h 0 0 128 [(0, rfv (xd (zX Z)) 0), (2, iv x2), (5, rfv (xd (zX Z)) x5), (6, iv x6), (7, lvv x7), (9, iv x9)] [] := by
  unfold F_X11_torn_128 at hF
  refine mw_iinc 5 [(9, iv (x9 + 1)), (0, rfv (xd (zX Z)) 0), (2, iv x2), (5, rfv (xd (zX Z)) x5), (6, iv x6), (7, lvv x7)] C dX11_torn_128 rfl (by decide) rfl ?_
  refine mw_goto (tgt := 96) C dX11_torn_131 (by decide) ?_
  refine mw_sub [1, 2, 3, 4, 5, 0] rfl ?_
  exact hk96 x2 x5 x6 x7 (x9 + 1) hk_x5 _ _ hF
def F_X11_torn_96 : Nat → Int → Nat → Int → Int → Int → MH → Option (Int × MH)
  | 0, _, _, _, _, _, _ => none
  | n + 1, x2, x5, x6, x7, x9, h =>
    ck (in32 x9) <|
    ck (in32 x2) <|
    if x2 ≤ x9 then
      ck (in32 x6) <|
      if x6 = 0 then
        F_X11_torn_159 h
      else
        ck (in64 x7) <|
        if x7 < 0 then
          F_X11_torn_159 h
        else
          ck (in64 (99 * x6)) <|
          if x7 ≤ (99 * x6) then
            (F_X11_tell x7 x6 h).bind fun q10 =>
            (F_X11_granted q10).bind fun q11 =>
            ck (q11.1 = 0 ∨ q11.1 = 1) <|
            some (q11.1, q11.2)
          else
            F_X11_torn_159 h
    else
      ck (0 ≤ x9 ∧ x9 < 60) <|
      ck (in64 (h x5 x9.toNat)) <|
      if 0 ≤ (h x5 x9.toNat) then
        nx (x7 - (h x5 x9.toNat)) fun v16 =>
        F_X11_torn_128 (F_X11_torn_96 n) x2 x5 x6 v16 x9 h
      else
        F_X11_torn_128 (F_X11_torn_96 n) x2 x5 (x6 + 1) x7 x9 h
set_option maxRecDepth 100000 in
theorem T_X11_torn_96 {Z : ZT} (C : Cx Z cX11_torn 10 RX11 3 (some .boolean)) : ∀ (n : Nat) (x2 : Int) (x5 : Nat) (x6 : Int) (x7 : Int) (x9 : Int) (hk_x5 : zK x5 = (22, 60) ∧ x5 < zN ∧ 60 < 2147483648) (h : MH) (t : (Int × MH)), F_X11_torn_96 n x2 x5 x6 x7 x9 h = some t → MW Z (Qm Z (some (iv t.1)) zN zG t.2 0 0) 10 zN zG h 0 0 96 [(0, rfv (xd (zX Z)) 0), (2, iv x2), (5, rfv (xd (zX Z)) x5), (6, iv x6), (7, lvv x7), (9, iv x9)] [] := by
  intro n
  induction n with
  | zero =>
    intros
    rename_i hF
    exact absurd hF (by intro q; cases q)
  | succ n ih =>
    intro x2 x5 x6 x7 x9 hk_x5 h t hF
    rw [F_X11_torn_96] at hF
    refine mw_iload 5 C dX11_torn_96 rfl ?_
    refine mw_iload_n 1 C dX11_torn_98 rfl rfl ?_
    obtain ⟨g1, hF⟩ := ck_some hF
    obtain ⟨g2, hF⟩ := ck_some hF
    rcases ite_some hF with ⟨c3, hF⟩ | ⟨c3, hF⟩
    · refine mw_icmp_ge_t (tgt := 134) C dX11_torn_99 (by decide) g1 g2 c3 ?_
      refine mw_iload 3 C dX11_torn_134 rfl ?_
      obtain ⟨g4, hF⟩ := ck_some hF
      rcases ite_some hF with ⟨c5, hF⟩ | ⟨c5, hF⟩
      · refine mw_if_eq_t (tgt := 159) C dX11_torn_136 (by decide) g4 c5 ?_
        refine mw_sub [0] rfl ?_
        exact T_X11_torn_159 C _ _ hF
      · refine mw_if_eq_f (tgt := 159) C dX11_torn_136 (by decide) g4 c5 ?_
        refine mw_lload 4 C dX11_torn_139 rfl ?_
        refine mw_lconst (a := 0) C dX11_torn_141 lc_0 ?_
        obtain ⟨g6, hF⟩ := ck_some hF
        rcases ite_some hF with ⟨c7, hF⟩ | ⟨c7, hF⟩
        · refine mw_lcmp_lt_t (tgt := 159) C dX11_torn_142 dX11_torn_143 (by decide) g6 (by decide) c7 ?_
          refine mw_sub [0] rfl ?_
          exact T_X11_torn_159 C _ _ hF
        · refine mw_lcmp_lt_f (tgt := 159) C dX11_torn_142 dX11_torn_143 (by decide) g6 (by decide) c7 ?_
          refine mw_lload 4 C dX11_torn_146 rfl ?_
          refine mw_ldc2 (a := 99) C dX11_torn_148 wd648 rfl ?_
          refine mw_iload 3 C dX11_torn_151 rfl ?_
          refine mw_i2l C dX11_torn_153 g4 ?_
          refine mw_lmul C dX11_torn_154 ?_
          obtain ⟨g8, hF⟩ := ck_some hF
          rcases ite_some hF with ⟨c9, hF⟩ | ⟨c9, hF⟩
          · refine mw_lcmp_le_t (tgt := 166) C dX11_torn_155 dX11_torn_156 (by decide) g6 g8 c9 ?_
            refine mw_aload_n 0 C dX11_torn_166 rfl rfl ?_
            refine mw_lload 4 C dX11_torn_167 rfl ?_
            refine mw_iload 3 C dX11_torn_169 rfl ?_
            refine mw_i2l C dX11_torn_171 g4 ?_
            obtain ⟨q10, hq10, hF⟩ := bind_some hF
            refine mw_callV (c := 0) [lvv x7, lvv x6] [] C dX11_torn_172 (T_X11_tell (zl Z) (zX Z) x7 x6 _ _ hq10) rfl zn0 zk0 (by decide) rfl wd638 wd639 wd1342 wd1 wd640 hd_X11_tell rfl (by decide) (by decide) (Nat.le_of_ble_eq_true rfl) ⟨Nat.zero_le _, Nat.zero_le _⟩ ?_
            refine mw_aload_n 0 C dX11_torn_175 rfl rfl ?_
            obtain ⟨q11, hq11, hF⟩ := bind_some hF
            refine mw_callV (c := 0) [] [] C dX11_torn_176 (T_X11_granted (zl Z) (zX Z) _ _ hq11) rfl zn0 zk0 (by decide) rfl wd298 wd299 wd1309 wd1 wd300 hd_X11_granted rfl (by decide) (by decide) (Nat.le_of_ble_eq_true rfl) ⟨Nat.zero_le _, Nat.zero_le _⟩ ?_
            obtain ⟨g12, hF⟩ := ck_some hF
            cases hF
            exact mw_zret C dX11_torn_179 g12 rfl rfl
          · refine mw_lcmp_le_f (tgt := 166) C dX11_torn_155 dX11_torn_156 (by decide) g6 g8 c9 ?_
            refine mw_sub [0] rfl ?_
            exact T_X11_torn_159 C _ _ hF
    · refine mw_icmp_ge_f (tgt := 134) C dX11_torn_99 (by decide) g1 g2 c3 ?_
      refine mw_aload 2 C dX11_torn_102 rfl ?_
      refine mw_iload 5 C dX11_torn_104 rfl ?_
      obtain ⟨g13, hF⟩ := ck_some hF
      refine mw_lald C dX11_torn_106 hk_x5.2.1 hk_x5.1 hk_x5.2.2 g13 ?_
      refine mw_lconst (a := 0) C dX11_torn_107 lc_0 ?_
      obtain ⟨g14, hF⟩ := ck_some hF
      rcases ite_some hF with ⟨c15, hF⟩ | ⟨c15, hF⟩
      · refine mw_lcmp_ge_t (tgt := 118) C dX11_torn_108 dX11_torn_109 (by decide) g14 (by decide) c15 ?_
        refine mw_lload 4 C dX11_torn_118 rfl ?_
        refine mw_aload 2 C dX11_torn_120 rfl ?_
        refine mw_iload 5 C dX11_torn_122 rfl ?_
        refine mw_lald C dX11_torn_124 hk_x5.2.1 hk_x5.1 hk_x5.2.2 g13 ?_
        refine mw_lsub C dX11_torn_125 ?_
        obtain ⟨v16, ev16, hF⟩ := nx_some hF
        refine mw_tl ev16 ?_
        refine mw_lstore [(7, lvv v16), (0, rfv (xd (zX Z)) 0), (2, iv x2), (5, rfv (xd (zX Z)) x5), (6, iv x6), (9, iv x9)] C dX11_torn_126 (by decide) rfl ?_
        refine mw_sub [1, 2, 3, 4, 0, 5] rfl ?_
        exact T_X11_torn_128 C (F_X11_torn_96 n) ih x2 x5 x6 v16 x9 hk_x5 _ _ hF
      · refine mw_lcmp_ge_f (tgt := 118) C dX11_torn_108 dX11_torn_109 (by decide) g14 (by decide) c15 ?_
        refine mw_iinc 3 [(6, iv (x6 + 1)), (0, rfv (xd (zX Z)) 0), (2, iv x2), (5, rfv (xd (zX Z)) x5), (7, lvv x7), (9, iv x9)] C dX11_torn_112 rfl (by decide) rfl ?_
        refine mw_goto (tgt := 128) C dX11_torn_115 (by decide) ?_
        refine mw_sub [1, 2, 3, 0, 4, 5] rfl ?_
        exact T_X11_torn_128 C (F_X11_torn_96 n) ih x2 x5 (x6 + 1) x7 x9 hk_x5 _ _ hF
def F_X11_torn_0 (x1 : Int) (x2 : Int) (x3 : Int) (h : MH) : Option (Int × MH) :=
  (F_X11_isTray x1 h).bind fun q1 =>
  ck (in32 q1.1) <|
  if q1.1 = 0 then
    F_X11_torn_31 q1.2
  else
    ck (in32 x2) <|
    (F_X11_outside x2 1 60 q1.2).bind fun q5 =>
    ck (in32 q5.1) <|
    if q5.1 ≠ 0 then
      F_X11_torn_31 q5.2
    else
      ck (in32 x3) <|
      (F_X11_outside x3 0 9999 q5.2).bind fun q9 =>
      ck (in32 q9.1) <|
      if q9.1 = 0 then
        (F_X11_rowLack x1 x2 q9.2).bind fun q12 =>
        ck (in32 q12.1) <|
        if q12.1 = 0 then
          ck (0 ≤ x1 ∧ x1 < 4) <|
          (F_X11_allWithin (2 + x1.toNat) x2 (-1) 99 q12.2).bind fun q16 =>
          ck (in32 q16.1) <|
          if q16.1 ≠ 0 then
            F_X11_torn_96 20000 x2 (2 + x1.toNat) 0 x3 0 q16.2
          else
            (F_X11_refused 5 q16.2).bind fun q19 =>
            ck (q19.1 = 0 ∨ q19.1 = 1) <|
            some (q19.1, q19.2)
        else
          (F_X11_refused q12.1 q12.2).bind fun q21 =>
          ck (q21.1 = 0 ∨ q21.1 = 1) <|
          some (q21.1, q21.2)
      else
        F_X11_torn_31 q9.2
set_option maxRecDepth 100000 in
theorem T_X11_torn_0 {Z : ZT} (C : Cx Z cX11_torn 10 RX11 3 (some .boolean)) (x1 : Int) (x2 : Int) (x3 : Int) (h : MH) (t : (Int × MH)) (hF : F_X11_torn_0 x1 x2 x3 h = some t) : MW Z (Qm Z (some (iv t.1)) zN zG t.2 0 0) 10 zN zG h 0 0 0 [(0, rfv (xd (zX Z)) 0), (1, iv x1), (2, iv x2), (3, iv x3)] [] := by
  unfold F_X11_torn_0 at hF
  refine mw_iload_n 1 C dX11_torn_0 rfl rfl ?_
  obtain ⟨q1, hq1, hF⟩ := bind_some hF
  refine mw_callS [iv x1] [] C dX11_torn_1 (T_X11_isTray (zl Z) (zX Z) x1 _ _ hq1) rfl wd284 wd285 wd1 wd286 hd_X11_isTray rfl (by decide) (by decide) (Nat.le_of_ble_eq_true rfl) ⟨Nat.zero_le _, Nat.zero_le _⟩ ?_
  obtain ⟨g2, hF⟩ := ck_some hF
  rcases ite_some hF with ⟨c3, hF⟩ | ⟨c3, hF⟩
  · refine mw_if_eq_t (tgt := 31) C dX11_torn_4 (by decide) g2 c3 ?_
    refine mw_sub [0] rfl ?_
    exact T_X11_torn_31 C _ _ hF
  · refine mw_if_eq_f (tgt := 31) C dX11_torn_4 (by decide) g2 c3 ?_
    refine mw_iload_n 2 C dX11_torn_7 rfl rfl ?_
    obtain ⟨g4, hF⟩ := ck_some hF
    refine mw_i2l C dX11_torn_8 g4 ?_
    refine mw_lconst (a := 1) C dX11_torn_9 lc_1 ?_
    refine mw_ldc2 (a := 60) C dX11_torn_10 wd291 rfl ?_
    obtain ⟨q5, hq5, hF⟩ := bind_some hF
    refine mw_callS [lvv x2, lvv 1, lvv 60] [] C dX11_torn_13 (T_X11_outside (zl Z) (zX Z) x2 1 60 _ _ hq5) rfl wd288 wd289 wd1 wd290 hd_X11_outside rfl (by decide) (by decide) (Nat.le_of_ble_eq_true rfl) ⟨Nat.zero_le _, Nat.zero_le _⟩ ?_
    obtain ⟨g6, hF⟩ := ck_some hF
    rcases ite_some hF with ⟨c7, hF⟩ | ⟨c7, hF⟩
    · refine mw_if_ne_t (tgt := 31) C dX11_torn_16 (by decide) g6 c7 ?_
      refine mw_sub [0] rfl ?_
      exact T_X11_torn_31 C _ _ hF
    · refine mw_if_ne_f (tgt := 31) C dX11_torn_16 (by decide) g6 c7 ?_
      refine mw_iload_n 3 C dX11_torn_19 rfl rfl ?_
      obtain ⟨g8, hF⟩ := ck_some hF
      refine mw_i2l C dX11_torn_20 g8 ?_
      refine mw_lconst (a := 0) C dX11_torn_21 lc_0 ?_
      refine mw_ldc2 (a := 9999) C dX11_torn_22 wd589 rfl ?_
      obtain ⟨q9, hq9, hF⟩ := bind_some hF
      refine mw_callS [lvv x3, lvv 0, lvv 9999] [] C dX11_torn_25 (T_X11_outside (zl Z) (zX Z) x3 0 9999 _ _ hq9) rfl wd288 wd289 wd1 wd290 hd_X11_outside rfl (by decide) (by decide) (Nat.le_of_ble_eq_true rfl) ⟨Nat.zero_le _, Nat.zero_le _⟩ ?_
      obtain ⟨g10, hF⟩ := ck_some hF
      rcases ite_some hF with ⟨c11, hF⟩ | ⟨c11, hF⟩
      · refine mw_if_eq_t (tgt := 37) C dX11_torn_28 (by decide) g10 c11 ?_
        refine mw_aload_n 0 C dX11_torn_37 rfl rfl ?_
        refine mw_iload_n 1 C dX11_torn_38 rfl rfl ?_
        refine mw_iload_n 2 C dX11_torn_39 rfl rfl ?_
        obtain ⟨q12, hq12, hF⟩ := bind_some hF
        refine mw_callV (c := 0) [iv x1, iv x2] [] C dX11_torn_40 (T_X11_rowLack (zl Z) (zX Z) x1 x2 _ _ hq12) rfl zn0 zk0 (by decide) rfl wd750 wd751 wd1349 wd1 wd752 hd_X11_rowLack rfl (by decide) (by decide) (Nat.le_of_ble_eq_true rfl) ⟨Nat.zero_le _, Nat.zero_le _⟩ ?_
        refine mw_istore [(4, iv q12.1), (0, rfv (xd (zX Z)) 0), (1, iv x1), (2, iv x2), (3, iv x3)] C dX11_torn_43 (by decide) rfl ?_
        refine mw_iload 0 C dX11_torn_45 rfl ?_
        obtain ⟨g13, hF⟩ := ck_some hF
        rcases ite_some hF with ⟨c14, hF⟩ | ⟨c14, hF⟩
        · refine mw_if_eq_t (tgt := 57) C dX11_torn_47 (by decide) g13 c14 ?_
          refine mw_aload_n 1 C dX11_torn_57 rfl rfl ?_
          refine mw_get (k := 3) (T := TX11) (v := rfv (xd (zX Z)) 1) C dX11_torn_58 zn0 zk0 (by decide) rfl inX11 (by decide) wd252 rfl (zfv_r rfl zg_0_3) ?_
          refine mw_iload_n 2 C dX11_torn_61 rfl rfl ?_
          obtain ⟨g15, hF⟩ := ck_some hF
          refine mw_aald (t := 6) (c2 := (2 + x1.toNat)) (ty := .array .long) C dX11_torn_62 zn1 zk1 (by decide) (fun _ => rfl) rfl (by decide) g15 (zg_26 _) ?_
          refine mw_astore [(5, rfv (xd (zX Z)) (2 + x1.toNat)), (4, iv q12.1), (0, rfv (xd (zX Z)) 0), (1, iv x1), (2, iv x2), (3, iv x3)] C dX11_torn_63 (by decide) rfl ?_
          refine mw_aload 0 C dX11_torn_65 rfl ?_
          refine mw_iload_n 4 C dX11_torn_67 rfl rfl ?_
          refine mw_ldc2 (a := (-1)) C dX11_torn_68 wd874 rfl ?_
          refine mw_ldc2 (a := 99) C dX11_torn_71 wd648 rfl ?_
          obtain ⟨q16, hq16, hF⟩ := bind_some hF
          refine mw_callS [rfv (xd (zX Z)) (2 + x1.toNat), iv x2, lvv (-1), lvv 99] [] C dX11_torn_74 (T_X11_allWithin (zl Z) (zX Z) (2 + x1.toNat) x2 (-1) 99 (ok_row _ (ix_lt g15)) _ _ hq16) rfl wd792 wd793 wd1 wd794 hd_X11_allWithin rfl (by decide) (by decide) (Nat.le_of_ble_eq_true rfl) ⟨Nat.zero_le _, Nat.zero_le _⟩ ?_
          obtain ⟨g17, hF⟩ := ck_some hF
          rcases ite_some hF with ⟨c18, hF⟩ | ⟨c18, hF⟩
          · refine mw_if_ne_t (tgt := 86) C dX11_torn_77 (by decide) g17 c18 ?_
            refine mw_iconst C dX11_torn_86 ?_
            refine mw_istore [(6, iv 0), (5, rfv (xd (zX Z)) (2 + x1.toNat)), (4, iv q12.1), (0, rfv (xd (zX Z)) 0), (1, iv x1), (2, iv x2), (3, iv x3)] C dX11_torn_87 (by decide) rfl ?_
            refine mw_iload_n 6 C dX11_torn_89 rfl rfl ?_
            refine mw_i2l C dX11_torn_90 g8 ?_
            refine mw_lstore [(7, lvv x3), (6, iv 0), (5, rfv (xd (zX Z)) (2 + x1.toNat)), (4, iv q12.1), (0, rfv (xd (zX Z)) 0), (1, iv x1), (2, iv x2), (3, iv x3)] C dX11_torn_91 (by decide) rfl ?_
            refine mw_iconst C dX11_torn_93 ?_
            refine mw_istore [(9, iv 0), (7, lvv x3), (6, iv 0), (5, rfv (xd (zX Z)) (2 + x1.toNat)), (4, iv q12.1), (0, rfv (xd (zX Z)) 0), (1, iv x1), (2, iv x2), (3, iv x3)] C dX11_torn_94 (by decide) rfl ?_
            refine mw_sub [5, 7, 3, 2, 1, 0] rfl ?_
            exact T_X11_torn_96 C 20000 x2 (2 + x1.toNat) 0 x3 0 (ok_row _ (ix_lt g15)) _ _ hF
          · refine mw_if_ne_f (tgt := 86) C dX11_torn_77 (by decide) g17 c18 ?_
            refine mw_aload_n 2 C dX11_torn_80 rfl rfl ?_
            refine mw_iconst C dX11_torn_81 ?_
            obtain ⟨q19, hq19, hF⟩ := bind_some hF
            refine mw_callV (c := 0) [iv 5] [] C dX11_torn_82 (T_X11_refused (zl Z) (zX Z) 5 _ _ hq19) rfl zn0 zk0 (by decide) rfl wd292 wd293 wd1308 wd1 wd294 hd_X11_refused rfl (by decide) (by decide) (Nat.le_of_ble_eq_true rfl) ⟨Nat.zero_le _, Nat.zero_le _⟩ ?_
            obtain ⟨g20, hF⟩ := ck_some hF
            cases hF
            exact mw_zret C dX11_torn_85 g20 rfl rfl
        · refine mw_if_eq_f (tgt := 57) C dX11_torn_47 (by decide) g13 c14 ?_
          refine mw_aload_n 1 C dX11_torn_50 rfl rfl ?_
          refine mw_iload 0 C dX11_torn_51 rfl ?_
          obtain ⟨q21, hq21, hF⟩ := bind_some hF
          refine mw_callV (c := 0) [iv q12.1] [] C dX11_torn_53 (T_X11_refused (zl Z) (zX Z) q12.1 _ _ hq21) rfl zn0 zk0 (by decide) rfl wd292 wd293 wd1308 wd1 wd294 hd_X11_refused rfl (by decide) (by decide) (Nat.le_of_ble_eq_true rfl) ⟨Nat.zero_le _, Nat.zero_le _⟩ ?_
          obtain ⟨g22, hF⟩ := ck_some hF
          cases hF
          exact mw_zret C dX11_torn_56 g22 rfl rfl
      · refine mw_if_eq_f (tgt := 37) C dX11_torn_28 (by decide) g10 c11 ?_
        refine mw_sub [0] rfl ?_
        exact T_X11_torn_31 C _ _ hF
def F_X11_torn (x1 : Int) (x2 : Int) (x3 : Int) (h : MH) : Option (Int × MH) := F_X11_torn_0 x1 x2 x3 h
theorem T_X11_torn (l : Launch) (X : XT) (x1 : Int) (x2 : Int) (x3 : Int) (h : MH) (t : (Int × MH)) (hF : F_X11_torn x1 x2 x3 h = some t) : Ct l X yX11_torn cX11_torn 10 (some .boolean) 3 [rfv (xd X) 0, iv x1, iv x2, iv x3] zN zG h (some (iv t.1)) zN zG t.2 0 0 := by
  refine Ct.head (by decide) (Nat.le_of_ble_eq_true rfl) (fun Z hX hl _ _ _ C => ?_)
  subst hX
  subst hl
  exact (T_X11_torn_0 C x1 x2 x3 _ _ hF)
/-! BottleLine.mark()I -/
def F_X11_mark_0 (h : MH) : Option (Int × MH) :=
  ck (in32 (h 0 13)) <|
  if (h 0 13) < 3 then
    ck (0 ≤ (h 0 13) ∧ (h 0 13) < 3) <|
    (F_X5_copy (81 + 20 * (h 0 13).toNat) 34 h).bind fun q4 =>
    ck (0 ≤ (q4 0 13) ∧ (q4 0 13) < 3) <|
    (F_X6_copy (96 + 20 * (q4 0 13).toNat) 49 q4).bind fun q6 =>
    nx (hup q6 0 13 ((q6 0 13) + 1)) fun h7 =>
    (F_X11_answer (h7 0 13) h7).bind fun q8 =>
    some (q8.1, q8.2)
  else
    (F_X11_none 4 h).bind fun q9 =>
    some (q9.1, q9.2)
set_option maxRecDepth 100000 in
theorem T_X11_mark_0 {Z : ZT} (C : Cx Z cX11_mark 1 RX11 3 (some .int)) (h : MH) (t : (Int × MH)) (hF : F_X11_mark_0 h = some t) : MW Z (Qm Z (some (iv t.1)) zN zG t.2 0 0) 1 zN zG h 0 0 0 [(0, rfv (xd (zX Z)) 0)] [] := by
  unfold F_X11_mark_0 at hF
  refine mw_aload_n 0 C dX11_mark_0 rfl rfl ?_
  refine mw_get (k := 13) (T := TX11) (v := iv (h 0 13)) C dX11_mark_1 zn0 zk0 (by decide) rfl inX11 (by decide) wd262 rfl rfl ?_
  refine mw_iconst C dX11_mark_4 ?_
  obtain ⟨g1, hF⟩ := ck_some hF
  rcases ite_some hF with ⟨c2, hF⟩ | ⟨c2, hF⟩
  · refine mw_icmp_lt_t (tgt := 14) C dX11_mark_5 (by decide) g1 (by decide) c2 ?_
    refine mw_aload_n 0 C dX11_mark_14 rfl rfl ?_
    refine mw_get (k := 11) (T := TX11) (v := rfv (xd (zX Z)) 54) C dX11_mark_15 zn0 zk0 (by decide) rfl inX11 (by decide) wd260 rfl (zfv_r rfl zg_0_11) ?_
    refine mw_aload_n 0 C dX11_mark_18 rfl rfl ?_
    refine mw_get (k := 13) (T := TX11) (v := iv (h 0 13)) C dX11_mark_19 zn0 zk0 (by decide) rfl inX11 (by decide) wd262 rfl rfl ?_
    obtain ⟨g3, hF⟩ := ck_some hF
    refine mw_aald (t := 4) (c2 := (81 + 20 * (h 0 13).toNat)) (ty := .object "BottleLine$Plan") C dX11_mark_22 zn54 zk54 (by decide) (fun _ => rfl) rfl (by decide) g3 (zg_24 _) ?_
    refine mw_aload_n 0 C dX11_mark_23 rfl rfl ?_
    refine mw_get (k := 9) (T := TX11) (v := rfv (xd (zX Z)) 34) C dX11_mark_24 zn0 zk0 (by decide) rfl inX11 (by decide) wd258 rfl (zfv_r rfl zg_0_9) ?_
    obtain ⟨q4, hq4, hF⟩ := bind_some hF
    refine mw_callV (c := (81 + 20 * (h 0 13).toNat)) [rfv (xd (zX Z)) 34] [] C dX11_mark_27 (T_X5_copy (zl Z) (zX Z) (81 + 20 * (h 0 13).toNat) 34 (ok_mp _ (ix_lt g3)) ok_34 _ _ hq4) rfl (okX5_n _ (ok_mp _ (ix_lt g3))) (okX5_k _ (ok_mp _ (ix_lt g3))) (by decide) rfl wd484 wd485 wd486 wd4 wd487 hd_X5_copy rfl (by decide) (by decide) (Nat.le_of_ble_eq_true rfl) ⟨Nat.zero_le _, Nat.zero_le _⟩ ?_
    refine mw_aload_n 0 C dX11_mark_30 rfl rfl ?_
    refine mw_get (k := 12) (T := TX11) (v := rfv (xd (zX Z)) 55) C dX11_mark_31 zn0 zk0 (by decide) rfl inX11 (by decide) wd261 rfl (zfv_r rfl zg_0_12) ?_
    refine mw_aload_n 0 C dX11_mark_34 rfl rfl ?_
    refine mw_get (k := 13) (T := TX11) (v := iv (q4 0 13)) C dX11_mark_35 zn0 zk0 (by decide) rfl inX11 (by decide) wd262 rfl rfl ?_
    obtain ⟨g5, hF⟩ := ck_some hF
    refine mw_aald (t := 5) (c2 := (96 + 20 * (q4 0 13).toNat)) (ty := .object "BottleLine$Script") C dX11_mark_38 zn55 zk55 (by decide) (fun _ => rfl) rfl (by decide) g5 (zg_25 _) ?_
    refine mw_aload_n 0 C dX11_mark_39 rfl rfl ?_
    refine mw_get (k := 10) (T := TX11) (v := rfv (xd (zX Z)) 49) C dX11_mark_40 zn0 zk0 (by decide) rfl inX11 (by decide) wd259 rfl (zfv_r rfl zg_0_10) ?_
    obtain ⟨q6, hq6, hF⟩ := bind_some hF
    refine mw_callV (c := (96 + 20 * (q4 0 13).toNat)) [rfv (xd (zX Z)) 49] [] C dX11_mark_43 (T_X6_copy (zl Z) (zX Z) (96 + 20 * (q4 0 13).toNat) 49 (ok_ms _ (ix_lt g5)) ok_49 _ _ hq6) rfl (okX6_n _ (ok_ms _ (ix_lt g5))) (okX6_k _ (ok_ms _ (ix_lt g5))) (by decide) rfl wd538 wd539 wd540 wd7 wd541 hd_X6_copy rfl (by decide) (by decide) (Nat.le_of_ble_eq_true rfl) ⟨Nat.zero_le _, Nat.zero_le _⟩ ?_
    refine mw_aload_n 0 C dX11_mark_46 rfl rfl ?_
    refine mw_dup C dX11_mark_47 rfl ?_
    refine mw_get (k := 13) (T := TX11) (v := iv (q6 0 13)) C dX11_mark_48 zn0 zk0 (by decide) rfl inX11 (by decide) wd262 rfl rfl ?_
    refine mw_iconst C dX11_mark_51 ?_
    refine mw_iadd C dX11_mark_52 ?_
    obtain ⟨h7, eh7, hF⟩ := nx_some hF
    refine mw_put (k := 13) (T := TX11) (ty0 := tyX11) (x := ((q6 0 13) + 1)) C dX11_mark_53 zn0 zk0 (by decide) rfl inX11 tyX11_ok nmX11 (by decide) wd262 rfl rfl rfl rfl rfl (by decide) (mw_h eh7 ?_)
    refine mw_aload_n 0 C dX11_mark_56 rfl rfl ?_
    refine mw_aload_n 0 C dX11_mark_57 rfl rfl ?_
    refine mw_get (k := 13) (T := TX11) (v := iv (h7 0 13)) C dX11_mark_58 zn0 zk0 (by decide) rfl inX11 (by decide) wd262 rfl rfl ?_
    obtain ⟨q8, hq8, hF⟩ := bind_some hF
    refine mw_callV (c := 0) [iv (h7 0 13)] [] C dX11_mark_61 (T_X11_answer (zl Z) (zX Z) (h7 0 13) _ _ hq8) rfl zn0 zk0 (by decide) rfl wd494 wd495 wd1325 wd1 wd496 hd_X11_answer rfl (by decide) (by decide) (Nat.le_of_ble_eq_true rfl) ⟨Nat.zero_le _, Nat.zero_le _⟩ ?_
    cases hF
    exact mw_iret C dX11_mark_64 rfl rfl
  · refine mw_icmp_lt_f (tgt := 14) C dX11_mark_5 (by decide) g1 (by decide) c2 ?_
    refine mw_aload_n 0 C dX11_mark_8 rfl rfl ?_
    refine mw_iconst C dX11_mark_9 ?_
    obtain ⟨q9, hq9, hF⟩ := bind_some hF
    refine mw_callV (c := 0) [iv 4] [] C dX11_mark_10 (T_X11_none (zl Z) (zX Z) 4 _ _ hq9) rfl zn0 zk0 (by decide) rfl wd315 wd316 wd1311 wd1 wd317 hd_X11_none rfl (by decide) (by decide) (Nat.le_of_ble_eq_true rfl) ⟨Nat.zero_le _, Nat.zero_le _⟩ ?_
    cases hF
    exact mw_iret C dX11_mark_13 rfl rfl
def F_X11_mark (h : MH) : Option (Int × MH) := F_X11_mark_0 h
theorem T_X11_mark (l : Launch) (X : XT) (h : MH) (t : (Int × MH)) (hF : F_X11_mark h = some t) : Ct l X yX11_mark cX11_mark 1 (some .int) 3 [rfv (xd X) 0] zN zG h (some (iv t.1)) zN zG t.2 0 0 := by
  refine Ct.head (by decide) (Nat.le_of_ble_eq_true rfl) (fun Z hX hl _ _ _ C => ?_)
  subst hX
  subst hl
  exact (T_X11_mark_0 C _ _ hF)
/-! BottleLine.back()I -/
def F_X11_back_0 (h : MH) : Option (Int × MH) :=
  ck (in32 (h 0 13)) <|
  if 0 < (h 0 13) then
    nx (hup h 0 13 ((h 0 13) - 1)) fun h3 =>
    ck (0 ≤ (h3 0 13) ∧ (h3 0 13) < 3) <|
    (F_X5_copy 34 (81 + 20 * (h3 0 13).toNat) h3).bind fun q5 =>
    ck (0 ≤ (q5 0 13) ∧ (q5 0 13) < 3) <|
    (F_X6_copy 49 (96 + 20 * (q5 0 13).toNat) q5).bind fun q7 =>
    (F_X11_answer (q7 0 13) q7).bind fun q8 =>
    some (q8.1, q8.2)
  else
    (F_X11_none 6 h).bind fun q9 =>
    some (q9.1, q9.2)
set_option maxRecDepth 100000 in
theorem T_X11_back_0 {Z : ZT} (C : Cx Z cX11_back 1 RX11 3 (some .int)) (h : MH) (t : (Int × MH)) (hF : F_X11_back_0 h = some t) : MW Z (Qm Z (some (iv t.1)) zN zG t.2 0 0) 1 zN zG h 0 0 0 [(0, rfv (xd (zX Z)) 0)] [] := by
  unfold F_X11_back_0 at hF
  refine mw_aload_n 0 C dX11_back_0 rfl rfl ?_
  refine mw_get (k := 13) (T := TX11) (v := iv (h 0 13)) C dX11_back_1 zn0 zk0 (by decide) rfl inX11 (by decide) wd262 rfl rfl ?_
  obtain ⟨g1, hF⟩ := ck_some hF
  rcases ite_some hF with ⟨c2, hF⟩ | ⟨c2, hF⟩
  · refine mw_if_gt_t (tgt := 14) C dX11_back_4 (by decide) g1 c2 ?_
    refine mw_aload_n 0 C dX11_back_14 rfl rfl ?_
    refine mw_dup C dX11_back_15 rfl ?_
    refine mw_get (k := 13) (T := TX11) (v := iv (h 0 13)) C dX11_back_16 zn0 zk0 (by decide) rfl inX11 (by decide) wd262 rfl rfl ?_
    refine mw_iconst C dX11_back_19 ?_
    refine mw_isub C dX11_back_20 ?_
    obtain ⟨h3, eh3, hF⟩ := nx_some hF
    refine mw_put (k := 13) (T := TX11) (ty0 := tyX11) (x := ((h 0 13) - 1)) C dX11_back_21 zn0 zk0 (by decide) rfl inX11 tyX11_ok nmX11 (by decide) wd262 rfl rfl rfl rfl rfl (by decide) (mw_h eh3 ?_)
    refine mw_aload_n 0 C dX11_back_24 rfl rfl ?_
    refine mw_get (k := 9) (T := TX11) (v := rfv (xd (zX Z)) 34) C dX11_back_25 zn0 zk0 (by decide) rfl inX11 (by decide) wd258 rfl (zfv_r rfl zg_0_9) ?_
    refine mw_aload_n 0 C dX11_back_28 rfl rfl ?_
    refine mw_get (k := 11) (T := TX11) (v := rfv (xd (zX Z)) 54) C dX11_back_29 zn0 zk0 (by decide) rfl inX11 (by decide) wd260 rfl (zfv_r rfl zg_0_11) ?_
    refine mw_aload_n 0 C dX11_back_32 rfl rfl ?_
    refine mw_get (k := 13) (T := TX11) (v := iv (h3 0 13)) C dX11_back_33 zn0 zk0 (by decide) rfl inX11 (by decide) wd262 rfl rfl ?_
    obtain ⟨g4, hF⟩ := ck_some hF
    refine mw_aald (t := 4) (c2 := (81 + 20 * (h3 0 13).toNat)) (ty := .object "BottleLine$Plan") C dX11_back_36 zn54 zk54 (by decide) (fun _ => rfl) rfl (by decide) g4 (zg_24 _) ?_
    obtain ⟨q5, hq5, hF⟩ := bind_some hF
    refine mw_callV (c := 34) [rfv (xd (zX Z)) (81 + 20 * (h3 0 13).toNat)] [] C dX11_back_37 (T_X5_copy (zl Z) (zX Z) 34 (81 + 20 * (h3 0 13).toNat) ok_34 (ok_mp _ (ix_lt g4)) _ _ hq5) rfl zn34 zk34 (by decide) rfl wd484 wd485 wd486 wd4 wd487 hd_X5_copy rfl (by decide) (by decide) (Nat.le_of_ble_eq_true rfl) ⟨Nat.zero_le _, Nat.zero_le _⟩ ?_
    refine mw_aload_n 0 C dX11_back_40 rfl rfl ?_
    refine mw_get (k := 10) (T := TX11) (v := rfv (xd (zX Z)) 49) C dX11_back_41 zn0 zk0 (by decide) rfl inX11 (by decide) wd259 rfl (zfv_r rfl zg_0_10) ?_
    refine mw_aload_n 0 C dX11_back_44 rfl rfl ?_
    refine mw_get (k := 12) (T := TX11) (v := rfv (xd (zX Z)) 55) C dX11_back_45 zn0 zk0 (by decide) rfl inX11 (by decide) wd261 rfl (zfv_r rfl zg_0_12) ?_
    refine mw_aload_n 0 C dX11_back_48 rfl rfl ?_
    refine mw_get (k := 13) (T := TX11) (v := iv (q5 0 13)) C dX11_back_49 zn0 zk0 (by decide) rfl inX11 (by decide) wd262 rfl rfl ?_
    obtain ⟨g6, hF⟩ := ck_some hF
    refine mw_aald (t := 5) (c2 := (96 + 20 * (q5 0 13).toNat)) (ty := .object "BottleLine$Script") C dX11_back_52 zn55 zk55 (by decide) (fun _ => rfl) rfl (by decide) g6 (zg_25 _) ?_
    obtain ⟨q7, hq7, hF⟩ := bind_some hF
    refine mw_callV (c := 49) [rfv (xd (zX Z)) (96 + 20 * (q5 0 13).toNat)] [] C dX11_back_53 (T_X6_copy (zl Z) (zX Z) 49 (96 + 20 * (q5 0 13).toNat) ok_49 (ok_ms _ (ix_lt g6)) _ _ hq7) rfl zn49 zk49 (by decide) rfl wd538 wd539 wd540 wd7 wd541 hd_X6_copy rfl (by decide) (by decide) (Nat.le_of_ble_eq_true rfl) ⟨Nat.zero_le _, Nat.zero_le _⟩ ?_
    refine mw_aload_n 0 C dX11_back_56 rfl rfl ?_
    refine mw_aload_n 0 C dX11_back_57 rfl rfl ?_
    refine mw_get (k := 13) (T := TX11) (v := iv (q7 0 13)) C dX11_back_58 zn0 zk0 (by decide) rfl inX11 (by decide) wd262 rfl rfl ?_
    obtain ⟨q8, hq8, hF⟩ := bind_some hF
    refine mw_callV (c := 0) [iv (q7 0 13)] [] C dX11_back_61 (T_X11_answer (zl Z) (zX Z) (q7 0 13) _ _ hq8) rfl zn0 zk0 (by decide) rfl wd494 wd495 wd1325 wd1 wd496 hd_X11_answer rfl (by decide) (by decide) (Nat.le_of_ble_eq_true rfl) ⟨Nat.zero_le _, Nat.zero_le _⟩ ?_
    cases hF
    exact mw_iret C dX11_back_64 rfl rfl
  · refine mw_if_gt_f (tgt := 14) C dX11_back_4 (by decide) g1 c2 ?_
    refine mw_aload_n 0 C dX11_back_7 rfl rfl ?_
    refine mw_bipush C dX11_back_8 bp_6 ?_
    obtain ⟨q9, hq9, hF⟩ := bind_some hF
    refine mw_callV (c := 0) [iv 6] [] C dX11_back_10 (T_X11_none (zl Z) (zX Z) 6 _ _ hq9) rfl zn0 zk0 (by decide) rfl wd315 wd316 wd1311 wd1 wd317 hd_X11_none rfl (by decide) (by decide) (Nat.le_of_ble_eq_true rfl) ⟨Nat.zero_le _, Nat.zero_le _⟩ ?_
    cases hF
    exact mw_iret C dX11_back_13 rfl rfl
def F_X11_back (h : MH) : Option (Int × MH) := F_X11_back_0 h
theorem T_X11_back (l : Launch) (X : XT) (h : MH) (t : (Int × MH)) (hF : F_X11_back h = some t) : Ct l X yX11_back cX11_back 1 (some .int) 3 [rfv (xd X) 0] zN zG h (some (iv t.1)) zN zG t.2 0 0 := by
  refine Ct.head (by decide) (Nat.le_of_ble_eq_true rfl) (fun Z hX hl _ _ _ C => ?_)
  subst hX
  subst hl
  exact (T_X11_back_0 C _ _ hF)
