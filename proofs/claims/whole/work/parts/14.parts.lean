/-! BottleLine$Doing.leaveBlocks(LBottleLine$Script;)V -/
def F_X0_leaveBlocks_0 : Nat → Nat → MH → Option MH
  | 0, _, _ => none
  | n + 1, x1, h =>
    ck (in32 (h 70 6)) <|
    if (h 70 6) ≤ 0 then
      some h
    else
      ck (0 ≤ ((h 70 6) - 1) ∧ ((h 70 6) - 1) < 3) <|
      ck (0 ≤ (h 71 ((h 70 6) - 1).toNat) ∧ (h 71 ((h 70 6) - 1).toNat) < 30) <|
      ck (in32 (h 70 5)) <|
      ck (in32 (h (x1 + 4) (h 71 ((h 70 6) - 1).toNat).toNat)) <|
      if (h 70 5) < (h (x1 + 4) (h 71 ((h 70 6) - 1).toNat).toNat) then
        some h
      else
        nx (hup h 72 ((h 70 6) - 1).toNat ((h 72 ((h 70 6) - 1).toNat) - 1)) fun h8 =>
        ck (0 ≤ ((h8 70 6) - 1) ∧ ((h8 70 6) - 1) < 3) <|
        ck (in32 (h8 72 ((h8 70 6) - 1).toNat)) <|
        if (h8 72 ((h8 70 6) - 1).toNat) ≤ 0 then
          nx (hup h8 70 6 ((h8 70 6) - 1)) fun h12 =>
          F_X0_leaveBlocks_0 n x1 h12
        else
          nx (hup h8 70 5 ((h8 71 ((h8 70 6) - 1).toNat) + 1)) fun h13 =>
          some h13
set_option maxRecDepth 100000 in
theorem T_X0_leaveBlocks_0 {Z : ZT} (C : Cx Z cX0_leaveBlocks 2 RX0 1 none) : ∀ (n : Nat) (x1 : Nat) (hk_x1 : okX6 x1) (h : MH) (t : MH), F_X0_leaveBlocks_0 n x1 h = some t → MW Z (Qm Z none zN zG t 0 0) 2 zN zG h 0 0 0 [(0, rfv (xd (zX Z)) 70), (1, rfv (xd (zX Z)) x1)] [] := by
  intro n
  induction n with
  | zero =>
    intros
    rename_i hF
    exact absurd hF (by intro q; cases q)
  | succ n ih =>
    intro x1 hk_x1 h t hF
    rw [F_X0_leaveBlocks_0] at hF
    refine mw_aload_n 0 C dX0_leaveBlocks_0 rfl rfl ?_
    refine mw_get (k := 6) (T := TX0) (v := iv (h 70 6)) C dX0_leaveBlocks_1 zn70 zk70 (by decide) rfl inX0 (by decide) wd208 rfl rfl ?_
    obtain ⟨g1, hF⟩ := ck_some hF
    rcases ite_some hF with ⟨c2, hF⟩ | ⟨c2, hF⟩
    · refine mw_if_le_t (tgt := 90) C dX0_leaveBlocks_4 (by decide) g1 c2 ?_
      cases hF
      exact mw_vret C dX0_leaveBlocks_90 rfl rfl
    · refine mw_if_le_f (tgt := 90) C dX0_leaveBlocks_4 (by decide) g1 c2 ?_
      refine mw_aload_n 0 C dX0_leaveBlocks_7 rfl rfl ?_
      refine mw_get (k := 5) (T := TX0) (v := iv (h 70 5)) C dX0_leaveBlocks_8 zn70 zk70 (by decide) rfl inX0 (by decide) wd207 rfl rfl ?_
      refine mw_aload_n 1 C dX0_leaveBlocks_11 rfl rfl ?_
      refine mw_get (k := 4) (T := TX6) (v := rfv (xd (zX Z)) (x1 + 4)) C dX0_leaveBlocks_12 (okX6_n _ hk_x1) (okX6_k _ hk_x1) (by decide) rfl inX6 (by decide) wd167 rfl (zfv_r rfl (okX6_g4 _ hk_x1)) ?_
      refine mw_aload_n 0 C dX0_leaveBlocks_15 rfl rfl ?_
      refine mw_get (k := 7) (T := TX0) (v := rfv (xd (zX Z)) 71) C dX0_leaveBlocks_16 zn70 zk70 (by decide) rfl inX0 (by decide) wd209 rfl (zfv_r rfl zg_70_7) ?_
      refine mw_aload_n 0 C dX0_leaveBlocks_19 rfl rfl ?_
      refine mw_get (k := 6) (T := TX0) (v := iv (h 70 6)) C dX0_leaveBlocks_20 zn70 zk70 (by decide) rfl inX0 (by decide) wd208 rfl rfl ?_
      refine mw_iconst C dX0_leaveBlocks_23 ?_
      refine mw_isub C dX0_leaveBlocks_24 ?_
      obtain ⟨g3, hF⟩ := ck_some hF
      refine mw_iald C dX0_leaveBlocks_25 zn71 zk71 (by decide) g3 ?_
      obtain ⟨g4, hF⟩ := ck_some hF
      refine mw_iald C dX0_leaveBlocks_26 (okX6_f4 _ hk_x1).2.1 (okX6_f4 _ hk_x1).1 (okX6_f4 _ hk_x1).2.2 g4 ?_
      obtain ⟨g5, hF⟩ := ck_some hF
      obtain ⟨g6, hF⟩ := ck_some hF
      rcases ite_some hF with ⟨c7, hF⟩ | ⟨c7, hF⟩
      · refine mw_icmp_lt_t (tgt := 90) C dX0_leaveBlocks_27 (by decide) g5 g6 c7 ?_
        cases hF
        exact mw_vret C dX0_leaveBlocks_90 rfl rfl
      · refine mw_icmp_lt_f (tgt := 90) C dX0_leaveBlocks_27 (by decide) g5 g6 c7 ?_
        refine mw_aload_n 0 C dX0_leaveBlocks_30 rfl rfl ?_
        refine mw_get (k := 8) (T := TX0) (v := rfv (xd (zX Z)) 72) C dX0_leaveBlocks_31 zn70 zk70 (by decide) rfl inX0 (by decide) wd210 rfl (zfv_r rfl zg_70_8) ?_
        refine mw_aload_n 0 C dX0_leaveBlocks_34 rfl rfl ?_
        refine mw_get (k := 6) (T := TX0) (v := iv (h 70 6)) C dX0_leaveBlocks_35 zn70 zk70 (by decide) rfl inX0 (by decide) wd208 rfl rfl ?_
        refine mw_iconst C dX0_leaveBlocks_38 ?_
        refine mw_isub C dX0_leaveBlocks_39 ?_
        refine mw_dup2 C dX0_leaveBlocks_40 rfl rfl ?_
        refine mw_iald C dX0_leaveBlocks_41 zn72 zk72 (by decide) g3 ?_
        refine mw_iconst C dX0_leaveBlocks_42 ?_
        refine mw_isub C dX0_leaveBlocks_43 ?_
        obtain ⟨h8, eh8, hF⟩ := nx_some hF
        refine mw_iast C dX0_leaveBlocks_44 zn72 zk72 (by decide) g3 (mw_h eh8 ?_)
        refine mw_aload_n 0 C dX0_leaveBlocks_45 rfl rfl ?_
        refine mw_get (k := 8) (T := TX0) (v := rfv (xd (zX Z)) 72) C dX0_leaveBlocks_46 zn70 zk70 (by decide) rfl inX0 (by decide) wd210 rfl (zfv_r rfl zg_70_8) ?_
        refine mw_aload_n 0 C dX0_leaveBlocks_49 rfl rfl ?_
        refine mw_get (k := 6) (T := TX0) (v := iv (h8 70 6)) C dX0_leaveBlocks_50 zn70 zk70 (by decide) rfl inX0 (by decide) wd208 rfl rfl ?_
        refine mw_iconst C dX0_leaveBlocks_53 ?_
        refine mw_isub C dX0_leaveBlocks_54 ?_
        obtain ⟨g9, hF⟩ := ck_some hF
        refine mw_iald C dX0_leaveBlocks_55 zn72 zk72 (by decide) g9 ?_
        obtain ⟨g10, hF⟩ := ck_some hF
        rcases ite_some hF with ⟨c11, hF⟩ | ⟨c11, hF⟩
        · refine mw_if_le_t (tgt := 77) C dX0_leaveBlocks_56 (by decide) g10 c11 ?_
          refine mw_aload_n 0 C dX0_leaveBlocks_77 rfl rfl ?_
          refine mw_dup C dX0_leaveBlocks_78 rfl ?_
          refine mw_get (k := 6) (T := TX0) (v := iv (h8 70 6)) C dX0_leaveBlocks_79 zn70 zk70 (by decide) rfl inX0 (by decide) wd208 rfl rfl ?_
          refine mw_iconst C dX0_leaveBlocks_82 ?_
          refine mw_isub C dX0_leaveBlocks_83 ?_
          obtain ⟨h12, eh12, hF⟩ := nx_some hF
          refine mw_put (k := 6) (T := TX0) (ty0 := tyX0) (x := ((h8 70 6) - 1)) C dX0_leaveBlocks_84 zn70 zk70 (by decide) rfl inX0 tyX0_ok nmX0 (by decide) wd208 rfl rfl rfl rfl rfl (by decide) (mw_h eh12 ?_)
          refine mw_goto (tgt := 0) C dX0_leaveBlocks_87 (by decide) ?_
          exact ih x1 hk_x1 _ _ hF
        · refine mw_if_le_f (tgt := 77) C dX0_leaveBlocks_56 (by decide) g10 c11 ?_
          refine mw_aload_n 0 C dX0_leaveBlocks_59 rfl rfl ?_
          refine mw_aload_n 0 C dX0_leaveBlocks_60 rfl rfl ?_
          refine mw_get (k := 7) (T := TX0) (v := rfv (xd (zX Z)) 71) C dX0_leaveBlocks_61 zn70 zk70 (by decide) rfl inX0 (by decide) wd209 rfl (zfv_r rfl zg_70_7) ?_
          refine mw_aload_n 0 C dX0_leaveBlocks_64 rfl rfl ?_
          refine mw_get (k := 6) (T := TX0) (v := iv (h8 70 6)) C dX0_leaveBlocks_65 zn70 zk70 (by decide) rfl inX0 (by decide) wd208 rfl rfl ?_
          refine mw_iconst C dX0_leaveBlocks_68 ?_
          refine mw_isub C dX0_leaveBlocks_69 ?_
          refine mw_iald C dX0_leaveBlocks_70 zn71 zk71 (by decide) g9 ?_
          refine mw_iconst C dX0_leaveBlocks_71 ?_
          refine mw_iadd C dX0_leaveBlocks_72 ?_
          obtain ⟨h13, eh13, hF⟩ := nx_some hF
          refine mw_put (k := 5) (T := TX0) (ty0 := tyX0) (x := ((h8 71 ((h8 70 6) - 1).toNat) + 1)) C dX0_leaveBlocks_73 zn70 zk70 (by decide) rfl inX0 tyX0_ok nmX0 (by decide) wd207 rfl rfl rfl rfl rfl (by decide) (mw_h eh13 ?_)
          cases hF
          exact mw_vret C dX0_leaveBlocks_76 rfl rfl
def F_X0_leaveBlocks (x1 : Nat) (h : MH) : Option MH := F_X0_leaveBlocks_0 20000 x1 h
theorem T_X0_leaveBlocks (l : Launch) (X : XT) (x1 : Nat) (hk_x1 : okX6 x1) (h : MH) (t : MH) (hF : F_X0_leaveBlocks x1 h = some t) : Ct l X yX0_leaveBlocks cX0_leaveBlocks 2 none 1 [rfv (xd X) 70, rfv (xd X) x1] zN zG h none zN zG t 0 0 := by
  refine Ct.head (by decide) (Nat.le_of_ble_eq_true rfl) (fun Z hX hl _ _ _ C => ?_)
  subst hX
  subst hl
  exact (T_X0_leaveBlocks_0 C 20000 x1 hk_x1 _ _ hF)
/-! BottleLine$Doing.doRun(LBottleLine$Floor;I)V -/
def F_X0_doRun_0 (x1 : Nat) (x2 : Int) (h : MH) : Option MH :=
  ck (in32 x2) <|
  ck (in32 (1000 - (h 70 2))) <|
  nx (min x2 (1000 - (h 70 2))) fun v3 =>
  (F_X1_spend x1 v3 h).bind fun q4 =>
  nx (hup q4.2 70 3 ((h 70 3) + q4.1)) fun h5 =>
  nx (hup h5 70 2 ((h5 70 2) + v3)) fun h6 =>
  ck (in32 v3) <|
  if x2 ≤ v3 then
    some h6
  else
    nx (hup h6 70 4 1) fun h9 =>
    some h9
set_option maxRecDepth 100000 in
theorem T_X0_doRun_0 {Z : ZT} (C : Cx Z cX0_doRun 4 RX0 5 none) (x1 : Nat) (x2 : Int) (hk_x1 : okX1 x1) (h : MH) (t : MH) (hF : F_X0_doRun_0 x1 x2 h = some t) : MW Z (Qm Z none zN zG t 0 0) 4 zN zG h 0 0 0 [(0, rfv (xd (zX Z)) 70), (1, rfv (xd (zX Z)) x1), (2, iv x2)] [] := by
  unfold F_X0_doRun_0 at hF
  refine mw_iload_n 2 C dX0_doRun_0 rfl rfl ?_
  refine mw_sipush C dX0_doRun_1 sp_1000 ?_
  refine mw_aload_n 0 C dX0_doRun_4 rfl rfl ?_
  refine mw_get (k := 2) (T := TX0) (v := iv (h 70 2)) C dX0_doRun_5 zn70 zk70 (by decide) rfl inX0 (by decide) wd201 rfl rfl ?_
  refine mw_isub C dX0_doRun_8 ?_
  obtain ⟨g1, hF⟩ := ck_some hF
  obtain ⟨g2, hF⟩ := ck_some hF
  refine mw_mmin C dX0_doRun_9 wd729 wd356 wd16 wd357 (by decide) (Nat.le_of_ble_eq_true rfl) ⟨Nat.zero_le _, Nat.zero_le _⟩ g1 g2 ?_
  obtain ⟨v3, ev3, hF⟩ := nx_some hF
  refine mw_ti ev3 ?_
  refine mw_istore_n [(3, iv v3), (0, rfv (xd (zX Z)) 70), (1, rfv (xd (zX Z)) x1), (2, iv x2)] C dX0_doRun_12 rfl (by decide) rfl ?_
  refine mw_aload_n 1 C dX0_doRun_13 rfl rfl ?_
  refine mw_dup C dX0_doRun_14 rfl ?_
  refine mw_get (k := 3) (T := TX0) (v := iv (h 70 3)) C dX0_doRun_15 zn70 zk70 (by decide) rfl inX0 (by decide) wd203 rfl rfl ?_
  refine mw_aload_n 2 C dX0_doRun_18 rfl rfl ?_
  refine mw_iload_n 0 C dX0_doRun_19 rfl rfl ?_
  obtain ⟨q4, hq4, hF⟩ := bind_some hF
  refine mw_callV (c := x1) [iv v3] [iv (h 70 3), rfv (xd (zX Z)) 70] C dX0_doRun_20 (T_X1_spend (zl Z) (zX Z) x1 v3 hk_x1 _ _ hq4) rfl (okX1_n _ hk_x1) (okX1_k _ hk_x1) (by decide) rfl wd730 wd597 wd598 wd5 wd599 hd_X1_spend rfl (by decide) (by decide) (Nat.le_of_ble_eq_true rfl) ⟨Nat.zero_le _, Nat.zero_le _⟩ ?_
  refine mw_iadd C dX0_doRun_23 ?_
  obtain ⟨h5, eh5, hF⟩ := nx_some hF
  refine mw_put (k := 3) (T := TX0) (ty0 := tyX0) (x := ((h 70 3) + q4.1)) C dX0_doRun_24 zn70 zk70 (by decide) rfl inX0 tyX0_ok nmX0 (by decide) wd203 rfl rfl rfl rfl rfl (by decide) (mw_h eh5 ?_)
  refine mw_aload_n 1 C dX0_doRun_27 rfl rfl ?_
  refine mw_dup C dX0_doRun_28 rfl ?_
  refine mw_get (k := 2) (T := TX0) (v := iv (h5 70 2)) C dX0_doRun_29 zn70 zk70 (by decide) rfl inX0 (by decide) wd201 rfl rfl ?_
  refine mw_iload_n 0 C dX0_doRun_32 rfl rfl ?_
  refine mw_iadd C dX0_doRun_33 ?_
  obtain ⟨h6, eh6, hF⟩ := nx_some hF
  refine mw_put (k := 2) (T := TX0) (ty0 := tyX0) (x := ((h5 70 2) + v3)) C dX0_doRun_34 zn70 zk70 (by decide) rfl inX0 tyX0_ok nmX0 (by decide) wd201 rfl rfl rfl rfl rfl (by decide) (mw_h eh6 ?_)
  refine mw_iload_n 0 C dX0_doRun_37 rfl rfl ?_
  refine mw_iload_n 3 C dX0_doRun_38 rfl rfl ?_
  obtain ⟨g7, hF⟩ := ck_some hF
  rcases ite_some hF with ⟨c8, hF⟩ | ⟨c8, hF⟩
  · refine mw_icmp_ge_t (tgt := 47) C dX0_doRun_39 (by decide) g7 g1 c8 ?_
    cases hF
    exact mw_vret C dX0_doRun_47 rfl rfl
  · refine mw_icmp_ge_f (tgt := 47) C dX0_doRun_39 (by decide) g7 g1 c8 ?_
    refine mw_aload_n 1 C dX0_doRun_42 rfl rfl ?_
    refine mw_iconst C dX0_doRun_43 ?_
    obtain ⟨h9, eh9, hF⟩ := nx_some hF
    refine mw_put (k := 4) (T := TX0) (ty0 := tyX0) (x := 1) C dX0_doRun_44 zn70 zk70 (by decide) rfl inX0 tyX0_ok nmX0 (by decide) wd205 rfl rfl rfl rfl rfl (by decide) (mw_h eh9 ?_)
    cases hF
    exact mw_vret C dX0_doRun_47 rfl rfl
def F_X0_doRun (x1 : Nat) (x2 : Int) (h : MH) : Option MH := F_X0_doRun_0 x1 x2 h
theorem T_X0_doRun (l : Launch) (X : XT) (x1 : Nat) (x2 : Int) (hk_x1 : okX1 x1) (h : MH) (t : MH) (hF : F_X0_doRun x1 x2 h = some t) : Ct l X yX0_doRun cX0_doRun 4 none 5 [rfv (xd X) 70, rfv (xd X) x1, iv x2] zN zG h none zN zG t 0 0 := by
  refine Ct.head (by decide) (Nat.le_of_ble_eq_true rfl) (fun Z hX hl _ _ _ C => ?_)
  subst hX
  subst hl
  exact (T_X0_doRun_0 C x1 x2 hk_x1 _ _ hF)
/-! BottleLine$Doing.enterBlock(LBottleLine$Script;II)V -/
def F_X0_enterBlock_0 (x1 : Nat) (x2 : Int) (x3 : Int) (h : MH) : Option MH :=
  ck (in32 x3) <|
  if x3 = 0 then
    ck (0 ≤ x2 ∧ x2 < 30) <|
    nx (hup h 70 5 (h (x1 + 4) x2.toNat)) fun h4 =>
    some h4
  else
    ck (0 ≤ x2 ∧ x2 < 30) <|
    ck (in32 (h (x1 + 4) x2.toNat)) <|
    ck (in32 (x2 + 1)) <|
    if (h (x1 + 4) x2.toNat) = (x2 + 1) then
      nx (hup h 70 5 (h (x1 + 4) x2.toNat)) fun h9 =>
      some h9
    else
      ck (in32 (h 70 6)) <|
      if (h 70 6) < 3 then
        ck (0 ≤ (h 70 6) ∧ (h 70 6) < 3) <|
        nx (hup h 71 (h 70 6).toNat x2) fun h13 =>
        ck (0 ≤ (h13 70 6) ∧ (h13 70 6) < 3) <|
        nx (hup h13 72 (h13 70 6).toNat x3) fun h15 =>
        nx (hup h15 70 6 ((h15 70 6) + 1)) fun h16 =>
        some h16
      else
        nx (hup h 70 5 (h (x1 + 4) x2.toNat)) fun h17 =>
        some h17
set_option maxRecDepth 100000 in
theorem T_X0_enterBlock_0 {Z : ZT} (C : Cx Z cX0_enterBlock 4 RX0 1 none) (x1 : Nat) (x2 : Int) (x3 : Int) (hk_x1 : okX6 x1) (h : MH) (t : MH) (hF : F_X0_enterBlock_0 x1 x2 x3 h = some t) : MW Z (Qm Z none zN zG t 0 0) 4 zN zG h 0 0 0 [(0, rfv (xd (zX Z)) 70), (1, rfv (xd (zX Z)) x1), (2, iv x2), (3, iv x3)] [] := by
  unfold F_X0_enterBlock_0 at hF
  refine mw_iload_n 3 C dX0_enterBlock_0 rfl rfl ?_
  obtain ⟨g1, hF⟩ := ck_some hF
  rcases ite_some hF with ⟨c2, hF⟩ | ⟨c2, hF⟩
  · refine mw_if_eq_t (tgt := 24) C dX0_enterBlock_1 (by decide) g1 c2 ?_
    refine mw_aload_n 0 C dX0_enterBlock_24 rfl rfl ?_
    refine mw_aload_n 1 C dX0_enterBlock_25 rfl rfl ?_
    refine mw_get (k := 4) (T := TX6) (v := rfv (xd (zX Z)) (x1 + 4)) C dX0_enterBlock_26 (okX6_n _ hk_x1) (okX6_k _ hk_x1) (by decide) rfl inX6 (by decide) wd167 rfl (zfv_r rfl (okX6_g4 _ hk_x1)) ?_
    refine mw_iload_n 2 C dX0_enterBlock_29 rfl rfl ?_
    obtain ⟨g3, hF⟩ := ck_some hF
    refine mw_iald C dX0_enterBlock_30 (okX6_f4 _ hk_x1).2.1 (okX6_f4 _ hk_x1).1 (okX6_f4 _ hk_x1).2.2 g3 ?_
    obtain ⟨h4, eh4, hF⟩ := nx_some hF
    refine mw_put (k := 5) (T := TX0) (ty0 := tyX0) (x := (h (x1 + 4) x2.toNat)) C dX0_enterBlock_31 zn70 zk70 (by decide) rfl inX0 tyX0_ok nmX0 (by decide) wd207 rfl rfl rfl rfl rfl (by decide) (mw_h eh4 ?_)
    cases hF
    exact mw_vret C dX0_enterBlock_34 rfl rfl
  · refine mw_if_eq_f (tgt := 24) C dX0_enterBlock_1 (by decide) g1 c2 ?_
    refine mw_aload_n 1 C dX0_enterBlock_4 rfl rfl ?_
    refine mw_get (k := 4) (T := TX6) (v := rfv (xd (zX Z)) (x1 + 4)) C dX0_enterBlock_5 (okX6_n _ hk_x1) (okX6_k _ hk_x1) (by decide) rfl inX6 (by decide) wd167 rfl (zfv_r rfl (okX6_g4 _ hk_x1)) ?_
    refine mw_iload_n 2 C dX0_enterBlock_8 rfl rfl ?_
    obtain ⟨g5, hF⟩ := ck_some hF
    refine mw_iald C dX0_enterBlock_9 (okX6_f4 _ hk_x1).2.1 (okX6_f4 _ hk_x1).1 (okX6_f4 _ hk_x1).2.2 g5 ?_
    refine mw_iload_n 2 C dX0_enterBlock_10 rfl rfl ?_
    refine mw_iconst C dX0_enterBlock_11 ?_
    refine mw_iadd C dX0_enterBlock_12 ?_
    obtain ⟨g6, hF⟩ := ck_some hF
    obtain ⟨g7, hF⟩ := ck_some hF
    rcases ite_some hF with ⟨c8, hF⟩ | ⟨c8, hF⟩
    · refine mw_icmp_eq_t (tgt := 24) C dX0_enterBlock_13 (by decide) g6 g7 c8 ?_
      refine mw_aload_n 0 C dX0_enterBlock_24 rfl rfl ?_
      refine mw_aload_n 1 C dX0_enterBlock_25 rfl rfl ?_
      refine mw_get (k := 4) (T := TX6) (v := rfv (xd (zX Z)) (x1 + 4)) C dX0_enterBlock_26 (okX6_n _ hk_x1) (okX6_k _ hk_x1) (by decide) rfl inX6 (by decide) wd167 rfl (zfv_r rfl (okX6_g4 _ hk_x1)) ?_
      refine mw_iload_n 2 C dX0_enterBlock_29 rfl rfl ?_
      refine mw_iald C dX0_enterBlock_30 (okX6_f4 _ hk_x1).2.1 (okX6_f4 _ hk_x1).1 (okX6_f4 _ hk_x1).2.2 g5 ?_
      obtain ⟨h9, eh9, hF⟩ := nx_some hF
      refine mw_put (k := 5) (T := TX0) (ty0 := tyX0) (x := (h (x1 + 4) x2.toNat)) C dX0_enterBlock_31 zn70 zk70 (by decide) rfl inX0 tyX0_ok nmX0 (by decide) wd207 rfl rfl rfl rfl rfl (by decide) (mw_h eh9 ?_)
      cases hF
      exact mw_vret C dX0_enterBlock_34 rfl rfl
    · refine mw_icmp_eq_f (tgt := 24) C dX0_enterBlock_13 (by decide) g6 g7 c8 ?_
      refine mw_aload_n 0 C dX0_enterBlock_16 rfl rfl ?_
      refine mw_get (k := 6) (T := TX0) (v := iv (h 70 6)) C dX0_enterBlock_17 zn70 zk70 (by decide) rfl inX0 (by decide) wd208 rfl rfl ?_
      refine mw_iconst C dX0_enterBlock_20 ?_
      obtain ⟨g10, hF⟩ := ck_some hF
      rcases ite_some hF with ⟨c11, hF⟩ | ⟨c11, hF⟩
      · refine mw_icmp_lt_t (tgt := 35) C dX0_enterBlock_21 (by decide) g10 (by decide) c11 ?_
        refine mw_aload_n 0 C dX0_enterBlock_35 rfl rfl ?_
        refine mw_get (k := 7) (T := TX0) (v := rfv (xd (zX Z)) 71) C dX0_enterBlock_36 zn70 zk70 (by decide) rfl inX0 (by decide) wd209 rfl (zfv_r rfl zg_70_7) ?_
        refine mw_aload_n 0 C dX0_enterBlock_39 rfl rfl ?_
        refine mw_get (k := 6) (T := TX0) (v := iv (h 70 6)) C dX0_enterBlock_40 zn70 zk70 (by decide) rfl inX0 (by decide) wd208 rfl rfl ?_
        refine mw_iload_n 2 C dX0_enterBlock_43 rfl rfl ?_
        obtain ⟨g12, hF⟩ := ck_some hF
        obtain ⟨h13, eh13, hF⟩ := nx_some hF
        refine mw_iast C dX0_enterBlock_44 zn71 zk71 (by decide) g12 (mw_h eh13 ?_)
        refine mw_aload_n 0 C dX0_enterBlock_45 rfl rfl ?_
        refine mw_get (k := 8) (T := TX0) (v := rfv (xd (zX Z)) 72) C dX0_enterBlock_46 zn70 zk70 (by decide) rfl inX0 (by decide) wd210 rfl (zfv_r rfl zg_70_8) ?_
        refine mw_aload_n 0 C dX0_enterBlock_49 rfl rfl ?_
        refine mw_get (k := 6) (T := TX0) (v := iv (h13 70 6)) C dX0_enterBlock_50 zn70 zk70 (by decide) rfl inX0 (by decide) wd208 rfl rfl ?_
        refine mw_iload_n 3 C dX0_enterBlock_53 rfl rfl ?_
        obtain ⟨g14, hF⟩ := ck_some hF
        obtain ⟨h15, eh15, hF⟩ := nx_some hF
        refine mw_iast C dX0_enterBlock_54 zn72 zk72 (by decide) g14 (mw_h eh15 ?_)
        refine mw_aload_n 0 C dX0_enterBlock_55 rfl rfl ?_
        refine mw_dup C dX0_enterBlock_56 rfl ?_
        refine mw_get (k := 6) (T := TX0) (v := iv (h15 70 6)) C dX0_enterBlock_57 zn70 zk70 (by decide) rfl inX0 (by decide) wd208 rfl rfl ?_
        refine mw_iconst C dX0_enterBlock_60 ?_
        refine mw_iadd C dX0_enterBlock_61 ?_
        obtain ⟨h16, eh16, hF⟩ := nx_some hF
        refine mw_put (k := 6) (T := TX0) (ty0 := tyX0) (x := ((h15 70 6) + 1)) C dX0_enterBlock_62 zn70 zk70 (by decide) rfl inX0 tyX0_ok nmX0 (by decide) wd208 rfl rfl rfl rfl rfl (by decide) (mw_h eh16 ?_)
        cases hF
        exact mw_vret C dX0_enterBlock_65 rfl rfl
      · refine mw_icmp_lt_f (tgt := 35) C dX0_enterBlock_21 (by decide) g10 (by decide) c11 ?_
        refine mw_aload_n 0 C dX0_enterBlock_24 rfl rfl ?_
        refine mw_aload_n 1 C dX0_enterBlock_25 rfl rfl ?_
        refine mw_get (k := 4) (T := TX6) (v := rfv (xd (zX Z)) (x1 + 4)) C dX0_enterBlock_26 (okX6_n _ hk_x1) (okX6_k _ hk_x1) (by decide) rfl inX6 (by decide) wd167 rfl (zfv_r rfl (okX6_g4 _ hk_x1)) ?_
        refine mw_iload_n 2 C dX0_enterBlock_29 rfl rfl ?_
        refine mw_iald C dX0_enterBlock_30 (okX6_f4 _ hk_x1).2.1 (okX6_f4 _ hk_x1).1 (okX6_f4 _ hk_x1).2.2 g5 ?_
        obtain ⟨h17, eh17, hF⟩ := nx_some hF
        refine mw_put (k := 5) (T := TX0) (ty0 := tyX0) (x := (h (x1 + 4) x2.toNat)) C dX0_enterBlock_31 zn70 zk70 (by decide) rfl inX0 tyX0_ok nmX0 (by decide) wd207 rfl rfl rfl rfl rfl (by decide) (mw_h eh17 ?_)
        cases hF
        exact mw_vret C dX0_enterBlock_34 rfl rfl
def F_X0_enterBlock (x1 : Nat) (x2 : Int) (x3 : Int) (h : MH) : Option MH := F_X0_enterBlock_0 x1 x2 x3 h
theorem T_X0_enterBlock (l : Launch) (X : XT) (x1 : Nat) (x2 : Int) (x3 : Int) (hk_x1 : okX6 x1) (h : MH) (t : MH) (hF : F_X0_enterBlock x1 x2 x3 h = some t) : Ct l X yX0_enterBlock cX0_enterBlock 4 none 1 [rfv (xd X) 70, rfv (xd X) x1, iv x2, iv x3] zN zG h none zN zG t 0 0 := by
  refine Ct.head (by decide) (Nat.le_of_ble_eq_true rfl) (fun Z hX hl _ _ _ C => ?_)
  subst hX
  subst hl
  exact (T_X0_enterBlock_0 C x1 x2 x3 hk_x1 _ _ hF)
/-! BottleLine$Plan.machineNamed(J)I -/
def F_X5_machineNamed_2 : Nat → Nat → Int → Int → MH → Option (Int × MH)
  | 0, _, _, _, _ => none
  | n + 1, x0, x1, x3, h =>
    ck (in32 x3) <|
    ck (in32 (h (x0 + 1) 0)) <|
    if (h (x0 + 1) 0) ≤ x3 then
      some ((-1), h)
    else
      ck (0 ≤ x3 ∧ x3 < 6) <|
      ck (in64 (h (x0 + 12) x3.toNat)) <|
      ck (in64 x1) <|
      if (h (x0 + 12) x3.toNat) ≠ x1 then
        F_X5_machineNamed_2 n x0 x1 (x3 + 1) h
      else
        some (x3, h)
set_option maxRecDepth 100000 in
theorem T_X5_machineNamed_2 {Z : ZT} (C : Cx Z cX5_machineNamed 4 RX5 1 (some .int)) : ∀ (n : Nat) (x0 : Nat) (x1 : Int) (x3 : Int) (hk_x0 : okX5 x0) (h : MH) (t : (Int × MH)), F_X5_machineNamed_2 n x0 x1 x3 h = some t → MW Z (Qm Z (some (iv t.1)) zN zG t.2 0 0) 4 zN zG h 0 0 2 [(0, rfv (xd (zX Z)) x0), (1, lvv x1), (3, iv x3)] [] := by
  intro n
  induction n with
  | zero =>
    intros
    rename_i hF
    exact absurd hF (by intro q; cases q)
  | succ n ih =>
    intro x0 x1 x3 hk_x0 h t hF
    rw [F_X5_machineNamed_2] at hF
    refine mw_iload_n 2 C dX5_machineNamed_2 rfl rfl ?_
    refine mw_aload_n 0 C dX5_machineNamed_3 rfl rfl ?_
    refine mw_get (k := 0) (T := TX5) (v := rfv (xd (zX Z)) (x0 + 1)) C dX5_machineNamed_4 (okX5_n _ hk_x0) (okX5_k _ hk_x0) (by decide) rfl inX5 (by decide) wd117 rfl (zfv_r rfl (okX5_g0 _ hk_x0)) ?_
    refine mw_get (k := 0) (T := TX1) (v := iv (h (x0 + 1) 0)) C dX5_machineNamed_7 (okX1_n _ (okX5_f0 _ hk_x0)) (okX1_k _ (okX5_f0 _ hk_x0)) (by decide) rfl inX1 (by decide) wd77 rfl rfl ?_
    obtain ⟨g1, hF⟩ := ck_some hF
    obtain ⟨g2, hF⟩ := ck_some hF
    rcases ite_some hF with ⟨c3, hF⟩ | ⟨c3, hF⟩
    · refine mw_icmp_ge_t (tgt := 32) C dX5_machineNamed_10 (by decide) g1 g2 c3 ?_
      refine mw_iconst C dX5_machineNamed_32 ?_
      cases hF
      exact mw_iret C dX5_machineNamed_33 rfl rfl
    · refine mw_icmp_ge_f (tgt := 32) C dX5_machineNamed_10 (by decide) g1 g2 c3 ?_
      refine mw_aload_n 0 C dX5_machineNamed_13 rfl rfl ?_
      refine mw_get (k := 1) (T := TX5) (v := rfv (xd (zX Z)) (x0 + 12)) C dX5_machineNamed_14 (okX5_n _ hk_x0) (okX5_k _ hk_x0) (by decide) rfl inX5 (by decide) wd122 rfl (zfv_r rfl (okX5_g1 _ hk_x0)) ?_
      refine mw_iload_n 2 C dX5_machineNamed_17 rfl rfl ?_
      obtain ⟨g4, hF⟩ := ck_some hF
      refine mw_lald C dX5_machineNamed_18 (okX5_f1 _ hk_x0).2.1 (okX5_f1 _ hk_x0).1 (okX5_f1 _ hk_x0).2.2 g4 ?_
      refine mw_lload_n 1 C dX5_machineNamed_19 rfl rfl ?_
      obtain ⟨g5, hF⟩ := ck_some hF
      obtain ⟨g6, hF⟩ := ck_some hF
      rcases ite_some hF with ⟨c7, hF⟩ | ⟨c7, hF⟩
      · refine mw_lcmp_ne_t (tgt := 26) C dX5_machineNamed_20 dX5_machineNamed_21 (by decide) g5 g6 c7 ?_
        refine mw_iinc 2 [(3, iv (x3 + 1)), (0, rfv (xd (zX Z)) x0), (1, lvv x1)] C dX5_machineNamed_26 rfl (by decide) rfl ?_
        refine mw_goto (tgt := 2) C dX5_machineNamed_29 (by decide) ?_
        refine mw_sub [1, 2, 0] rfl ?_
        exact ih x0 x1 (x3 + 1) hk_x0 _ _ hF
      · refine mw_lcmp_ne_f (tgt := 26) C dX5_machineNamed_20 dX5_machineNamed_21 (by decide) g5 g6 c7 ?_
        refine mw_iload_n 2 C dX5_machineNamed_24 rfl rfl ?_
        cases hF
        exact mw_iret C dX5_machineNamed_25 rfl rfl
def F_X5_machineNamed_0 (x0 : Nat) (x1 : Int) (h : MH) : Option (Int × MH) :=
  F_X5_machineNamed_2 20000 x0 x1 0 h
set_option maxRecDepth 100000 in
theorem T_X5_machineNamed_0 {Z : ZT} (C : Cx Z cX5_machineNamed 4 RX5 1 (some .int)) (x0 : Nat) (x1 : Int) (hk_x0 : okX5 x0) (h : MH) (t : (Int × MH)) (hF : F_X5_machineNamed_0 x0 x1 h = some t) : MW Z (Qm Z (some (iv t.1)) zN zG t.2 0 0) 4 zN zG h 0 0 0 [(0, rfv (xd (zX Z)) x0), (1, lvv x1)] [] := by
  unfold F_X5_machineNamed_0 at hF
  refine mw_iconst C dX5_machineNamed_0 ?_
  refine mw_istore_n [(3, iv 0), (0, rfv (xd (zX Z)) x0), (1, lvv x1)] C dX5_machineNamed_1 rfl (by decide) rfl ?_
  refine mw_sub [1, 2, 0] rfl ?_
  exact T_X5_machineNamed_2 C 20000 x0 x1 0 hk_x0 _ _ hF
def F_X5_machineNamed (x0 : Nat) (x1 : Int) (h : MH) : Option (Int × MH) := F_X5_machineNamed_0 x0 x1 h
theorem T_X5_machineNamed (l : Launch) (X : XT) (x0 : Nat) (x1 : Int) (hk_x0 : okX5 x0) (h : MH) (t : (Int × MH)) (hF : F_X5_machineNamed x0 x1 h = some t) : Ct l X yX5_machineNamed cX5_machineNamed 4 (some .int) 1 [rfv (xd X) x0, lvv x1] zN zG h (some (iv t.1)) zN zG t.2 0 0 := by
  refine Ct.head (by decide) (Nat.le_of_ble_eq_true rfl) (fun Z hX hl _ _ _ C => ?_)
  subst hX
  subst hl
  exact (T_X5_machineNamed_0 C x0 x1 hk_x0 _ _ hF)
/-! BottleLine$Doing.wasSo(LBottleLine$Script;ILBottleLine$Plan;)Z -/
def F_X0_wasSo_0 (x0 : Nat) (x1 : Int) (x2 : Nat) (h : MH) : Option (Int × MH) :=
  ck (0 ≤ x1 ∧ x1 < 30) <|
  (F_X5_machineNamed x2 (h (x0 + 2) x1.toNat) h).bind fun q2 =>
  ck (in32 q2.1) <|
  if q2.1 = (-1) then
    some (0, q2.2)
  else
    ck (0 ≤ q2.1 ∧ q2.1 < 6) <|
    ck (in32 (q2.2 ((x2 + 1) + 6) q2.1.toNat)) <|
    ck (in32 (q2.2 (x0 + 3) x1.toNat)) <|
    if (q2.2 ((x2 + 1) + 6) q2.1.toNat) ≠ (q2.2 (x0 + 3) x1.toNat) then
      some (0, q2.2)
    else
      some (1, q2.2)
set_option maxRecDepth 100000 in
theorem T_X0_wasSo_0 {Z : ZT} (C : Cx Z cX0_wasSo 4 RX0 2 (some .boolean)) (x0 : Nat) (x1 : Int) (x2 : Nat) (hk_x0 : okX6 x0) (hk_x2 : okX5 x2) (h : MH) (t : (Int × MH)) (hF : F_X0_wasSo_0 x0 x1 x2 h = some t) : MW Z (Qm Z (some (iv t.1)) zN zG t.2 0 0) 4 zN zG h 0 0 0 [(0, rfv (xd (zX Z)) x0), (1, iv x1), (2, rfv (xd (zX Z)) x2)] [] := by
  unfold F_X0_wasSo_0 at hF
  refine mw_aload_n 2 C dX0_wasSo_0 rfl rfl ?_
  refine mw_aload_n 0 C dX0_wasSo_1 rfl rfl ?_
  refine mw_get (k := 2) (T := TX6) (v := rfv (xd (zX Z)) (x0 + 2)) C dX0_wasSo_2 (okX6_n _ hk_x0) (okX6_k _ hk_x0) (by decide) rfl inX6 (by decide) wd160 rfl (zfv_r rfl (okX6_g2 _ hk_x0)) ?_
  refine mw_iload_n 1 C dX0_wasSo_5 rfl rfl ?_
  obtain ⟨g1, hF⟩ := ck_some hF
  refine mw_lald C dX0_wasSo_6 (okX6_f2 _ hk_x0).2.1 (okX6_f2 _ hk_x0).1 (okX6_f2 _ hk_x0).2.2 g1 ?_
  obtain ⟨q2, hq2, hF⟩ := bind_some hF
  refine mw_callV (c := x2) [lvv (h (x0 + 2) x1.toNat)] [] C dX0_wasSo_7 (T_X5_machineNamed (zl Z) (zX Z) x2 (h (x0 + 2) x1.toNat) hk_x2 _ _ hq2) rfl (okX5_n _ hk_x2) (okX5_k _ hk_x2) (by decide) rfl wd737 wd439 wd440 wd4 wd441 hd_X5_machineNamed rfl (by decide) (by decide) (Nat.le_of_ble_eq_true rfl) ⟨Nat.zero_le _, Nat.zero_le _⟩ ?_
  refine mw_istore_n [(3, iv q2.1), (0, rfv (xd (zX Z)) x0), (1, iv x1), (2, rfv (xd (zX Z)) x2)] C dX0_wasSo_10 rfl (by decide) rfl ?_
  refine mw_iload_n 0 C dX0_wasSo_11 rfl rfl ?_
  refine mw_iconst C dX0_wasSo_12 ?_
  obtain ⟨g3, hF⟩ := ck_some hF
  rcases ite_some hF with ⟨c4, hF⟩ | ⟨c4, hF⟩
  · refine mw_icmp_eq_t (tgt := 38) C dX0_wasSo_13 (by decide) g3 (by decide) c4 ?_
    refine mw_iconst C dX0_wasSo_38 ?_
    cases hF
    exact mw_zret C dX0_wasSo_39 (Or.inl rfl) rfl rfl
  · refine mw_icmp_eq_f (tgt := 38) C dX0_wasSo_13 (by decide) g3 (by decide) c4 ?_
    refine mw_aload_n 3 C dX0_wasSo_16 rfl rfl ?_
    refine mw_get (k := 0) (T := TX5) (v := rfv (xd (zX Z)) (x2 + 1)) C dX0_wasSo_17 (okX5_n _ hk_x2) (okX5_k _ hk_x2) (by decide) rfl inX5 (by decide) wd119 rfl (zfv_r rfl (okX5_g0 _ hk_x2)) ?_
    refine mw_get (k := 9) (T := TX1) (v := rfv (xd (zX Z)) ((x2 + 1) + 6)) C dX0_wasSo_20 (okX1_n _ (okX5_f0 _ hk_x2)) (okX1_k _ (okX5_f0 _ hk_x2)) (by decide) rfl inX1 (by decide) wd107 rfl (zfv_r rfl (okX1_g9 _ (okX5_f0 _ hk_x2))) ?_
    refine mw_iload_n 0 C dX0_wasSo_23 rfl rfl ?_
    obtain ⟨g5, hF⟩ := ck_some hF
    refine mw_iald C dX0_wasSo_24 (okX1_f9 _ (okX5_f0 _ hk_x2)).2.1 (okX1_f9 _ (okX5_f0 _ hk_x2)).1 (okX1_f9 _ (okX5_f0 _ hk_x2)).2.2 g5 ?_
    refine mw_aload_n 1 C dX0_wasSo_25 rfl rfl ?_
    refine mw_get (k := 3) (T := TX6) (v := rfv (xd (zX Z)) (x0 + 3)) C dX0_wasSo_26 (okX6_n _ hk_x0) (okX6_k _ hk_x0) (by decide) rfl inX6 (by decide) wd163 rfl (zfv_r rfl (okX6_g3 _ hk_x0)) ?_
    refine mw_iload_n 2 C dX0_wasSo_29 rfl rfl ?_
    refine mw_iald C dX0_wasSo_30 (okX6_f3 _ hk_x0).2.1 (okX6_f3 _ hk_x0).1 (okX6_f3 _ hk_x0).2.2 g1 ?_
    obtain ⟨g6, hF⟩ := ck_some hF
    obtain ⟨g7, hF⟩ := ck_some hF
    rcases ite_some hF with ⟨c8, hF⟩ | ⟨c8, hF⟩
    · refine mw_icmp_ne_t (tgt := 38) C dX0_wasSo_31 (by decide) g6 g7 c8 ?_
      refine mw_iconst C dX0_wasSo_38 ?_
      cases hF
      exact mw_zret C dX0_wasSo_39 (Or.inl rfl) rfl rfl
    · refine mw_icmp_ne_f (tgt := 38) C dX0_wasSo_31 (by decide) g6 g7 c8 ?_
      refine mw_iconst C dX0_wasSo_34 ?_
      refine mw_goto (tgt := 39) C dX0_wasSo_35 (by decide) ?_
      cases hF
      exact mw_zret C dX0_wasSo_39 (Or.inr rfl) rfl rfl
def F_X0_wasSo (x0 : Nat) (x1 : Int) (x2 : Nat) (h : MH) : Option (Int × MH) := F_X0_wasSo_0 x0 x1 x2 h
theorem T_X0_wasSo (l : Launch) (X : XT) (x0 : Nat) (x1 : Int) (x2 : Nat) (hk_x0 : okX6 x0) (hk_x2 : okX5 x2) (h : MH) (t : (Int × MH)) (hF : F_X0_wasSo x0 x1 x2 h = some t) : Ct l X yX0_wasSo cX0_wasSo 4 (some .boolean) 2 [rfv (xd X) x0, iv x1, rfv (xd X) x2] zN zG h (some (iv t.1)) zN zG t.2 0 0 := by
  refine Ct.head (by decide) (Nat.le_of_ble_eq_true rfl) (fun Z hX hl _ _ _ C => ?_)
  subst hX
  subst hl
  exact (T_X0_wasSo_0 C x0 x1 x2 hk_x0 hk_x2 _ _ hF)
/-! BottleLine$Doing.handle(LBottleLine$Script;ILBottleLine$Plan;)V -/
def F_X0_handle_0 (x0 : Nat) (x1 : Int) (x2 : Nat) (h : MH) : Option MH :=
  ck (0 ≤ x1 ∧ x1 < 30) <|
  (F_X5_machineNamed x2 (h (x0 + 2) x1.toNat) h).bind fun q2 =>
  ck (in32 q2.1) <|
  if q2.1 ≠ (-1) then
    ck (in32 (q2.2 (x0 + 1) x1.toNat)) <|
    if (q2.2 (x0 + 1) x1.toNat) ≠ 1 then
      if (q2.2 (x0 + 1) x1.toNat) ≠ 2 then
        ck (0 ≤ q2.1 ∧ q2.1 < 6) <|
        nx (hup q2.2 ((x2 + 1) + 5) q2.1.toNat 0) fun h9 =>
        some h9
      else
        ck (0 ≤ q2.1 ∧ q2.1 < 6) <|
        nx (hup q2.2 ((x2 + 1) + 5) q2.1.toNat (q2.2 (x0 + 3) x1.toNat)) fun h11 =>
        some h11
    else
      ck (0 ≤ q2.1 ∧ q2.1 < 6) <|
      nx (hup q2.2 ((x2 + 1) + 1) q2.1.toNat (q2.2 (x0 + 3) x1.toNat)) fun h13 =>
      some h13
  else
    some q2.2
set_option maxRecDepth 100000 in
theorem T_X0_handle_0 {Z : ZT} (C : Cx Z cX0_handle 4 RX0 2 none) (x0 : Nat) (x1 : Int) (x2 : Nat) (hk_x0 : okX6 x0) (hk_x2 : okX5 x2) (h : MH) (t : MH) (hF : F_X0_handle_0 x0 x1 x2 h = some t) : MW Z (Qm Z none zN zG t 0 0) 4 zN zG h 0 0 0 [(0, rfv (xd (zX Z)) x0), (1, iv x1), (2, rfv (xd (zX Z)) x2)] [] := by
  unfold F_X0_handle_0 at hF
  refine mw_aload_n 2 C dX0_handle_0 rfl rfl ?_
  refine mw_aload_n 0 C dX0_handle_1 rfl rfl ?_
  refine mw_get (k := 2) (T := TX6) (v := rfv (xd (zX Z)) (x0 + 2)) C dX0_handle_2 (okX6_n _ hk_x0) (okX6_k _ hk_x0) (by decide) rfl inX6 (by decide) wd160 rfl (zfv_r rfl (okX6_g2 _ hk_x0)) ?_
  refine mw_iload_n 1 C dX0_handle_5 rfl rfl ?_
  obtain ⟨g1, hF⟩ := ck_some hF
  refine mw_lald C dX0_handle_6 (okX6_f2 _ hk_x0).2.1 (okX6_f2 _ hk_x0).1 (okX6_f2 _ hk_x0).2.2 g1 ?_
  obtain ⟨q2, hq2, hF⟩ := bind_some hF
  refine mw_callV (c := x2) [lvv (h (x0 + 2) x1.toNat)] [] C dX0_handle_7 (T_X5_machineNamed (zl Z) (zX Z) x2 (h (x0 + 2) x1.toNat) hk_x2 _ _ hq2) rfl (okX5_n _ hk_x2) (okX5_k _ hk_x2) (by decide) rfl wd737 wd439 wd440 wd4 wd441 hd_X5_machineNamed rfl (by decide) (by decide) (Nat.le_of_ble_eq_true rfl) ⟨Nat.zero_le _, Nat.zero_le _⟩ ?_
  refine mw_istore_n [(3, iv q2.1), (0, rfv (xd (zX Z)) x0), (1, iv x1), (2, rfv (xd (zX Z)) x2)] C dX0_handle_10 rfl (by decide) rfl ?_
  refine mw_iload_n 0 C dX0_handle_11 rfl rfl ?_
  refine mw_iconst C dX0_handle_12 ?_
  obtain ⟨g3, hF⟩ := ck_some hF
  rcases ite_some hF with ⟨c4, hF⟩ | ⟨c4, hF⟩
  · refine mw_icmp_ne_t (tgt := 17) C dX0_handle_13 (by decide) g3 (by decide) c4 ?_
    refine mw_aload_n 1 C dX0_handle_17 rfl rfl ?_
    refine mw_get (k := 1) (T := TX6) (v := rfv (xd (zX Z)) (x0 + 1)) C dX0_handle_18 (okX6_n _ hk_x0) (okX6_k _ hk_x0) (by decide) rfl inX6 (by decide) wd157 rfl (zfv_r rfl (okX6_g1 _ hk_x0)) ?_
    refine mw_iload_n 2 C dX0_handle_21 rfl rfl ?_
    refine mw_iald C dX0_handle_22 (okX6_f1 _ hk_x0).2.1 (okX6_f1 _ hk_x0).1 (okX6_f1 _ hk_x0).2.2 g1 ?_
    refine mw_iconst C dX0_handle_23 ?_
    obtain ⟨g5, hF⟩ := ck_some hF
    rcases ite_some hF with ⟨c6, hF⟩ | ⟨c6, hF⟩
    · refine mw_icmp_ne_t (tgt := 45) C dX0_handle_24 (by decide) g5 (by decide) c6 ?_
      refine mw_aload_n 3 C dX0_handle_45 rfl rfl ?_
      refine mw_get (k := 0) (T := TX5) (v := rfv (xd (zX Z)) (x2 + 1)) C dX0_handle_46 (okX5_n _ hk_x2) (okX5_k _ hk_x2) (by decide) rfl inX5 (by decide) wd119 rfl (zfv_r rfl (okX5_g0 _ hk_x2)) ?_
      refine mw_get (k := 8) (T := TX1) (v := rfv (xd (zX Z)) ((x2 + 1) + 5)) C dX0_handle_49 (okX1_n _ (okX5_f0 _ hk_x2)) (okX1_k _ (okX5_f0 _ hk_x2)) (by decide) rfl inX1 (by decide) wd103 rfl (zfv_r rfl (okX1_g8 _ (okX5_f0 _ hk_x2))) ?_
      refine mw_iload_n 0 C dX0_handle_52 rfl rfl ?_
      refine mw_aload_n 1 C dX0_handle_53 rfl rfl ?_
      refine mw_get (k := 1) (T := TX6) (v := rfv (xd (zX Z)) (x0 + 1)) C dX0_handle_54 (okX6_n _ hk_x0) (okX6_k _ hk_x0) (by decide) rfl inX6 (by decide) wd157 rfl (zfv_r rfl (okX6_g1 _ hk_x0)) ?_
      refine mw_iload_n 2 C dX0_handle_57 rfl rfl ?_
      refine mw_iald C dX0_handle_58 (okX6_f1 _ hk_x0).2.1 (okX6_f1 _ hk_x0).1 (okX6_f1 _ hk_x0).2.2 g1 ?_
      refine mw_iconst C dX0_handle_59 ?_
      rcases ite_some hF with ⟨c7, hF⟩ | ⟨c7, hF⟩
      · refine mw_icmp_ne_t (tgt := 72) C dX0_handle_60 (by decide) g5 (by decide) c7 ?_
        refine mw_iconst C dX0_handle_72 ?_
        obtain ⟨g8, hF⟩ := ck_some hF
        obtain ⟨h9, eh9, hF⟩ := nx_some hF
        refine mw_iast C dX0_handle_73 (okX1_f8 _ (okX5_f0 _ hk_x2)).2.1 (okX1_f8 _ (okX5_f0 _ hk_x2)).1 (okX1_f8 _ (okX5_f0 _ hk_x2)).2.2 g8 (mw_h eh9 ?_)
        cases hF
        exact mw_vret C dX0_handle_74 rfl rfl
      · refine mw_icmp_ne_f (tgt := 72) C dX0_handle_60 (by decide) g5 (by decide) c7 ?_
        refine mw_aload_n 1 C dX0_handle_63 rfl rfl ?_
        refine mw_get (k := 3) (T := TX6) (v := rfv (xd (zX Z)) (x0 + 3)) C dX0_handle_64 (okX6_n _ hk_x0) (okX6_k _ hk_x0) (by decide) rfl inX6 (by decide) wd163 rfl (zfv_r rfl (okX6_g3 _ hk_x0)) ?_
        refine mw_iload_n 2 C dX0_handle_67 rfl rfl ?_
        refine mw_iald C dX0_handle_68 (okX6_f3 _ hk_x0).2.1 (okX6_f3 _ hk_x0).1 (okX6_f3 _ hk_x0).2.2 g1 ?_
        refine mw_goto (tgt := 73) C dX0_handle_69 (by decide) ?_
        obtain ⟨g10, hF⟩ := ck_some hF
        obtain ⟨h11, eh11, hF⟩ := nx_some hF
        refine mw_iast C dX0_handle_73 (okX1_f8 _ (okX5_f0 _ hk_x2)).2.1 (okX1_f8 _ (okX5_f0 _ hk_x2)).1 (okX1_f8 _ (okX5_f0 _ hk_x2)).2.2 g10 (mw_h eh11 ?_)
        cases hF
        exact mw_vret C dX0_handle_74 rfl rfl
    · refine mw_icmp_ne_f (tgt := 45) C dX0_handle_24 (by decide) g5 (by decide) c6 ?_
      refine mw_aload_n 3 C dX0_handle_27 rfl rfl ?_
      refine mw_get (k := 0) (T := TX5) (v := rfv (xd (zX Z)) (x2 + 1)) C dX0_handle_28 (okX5_n _ hk_x2) (okX5_k _ hk_x2) (by decide) rfl inX5 (by decide) wd119 rfl (zfv_r rfl (okX5_g0 _ hk_x2)) ?_
      refine mw_get (k := 1) (T := TX1) (v := rfv (xd (zX Z)) ((x2 + 1) + 1)) C dX0_handle_31 (okX1_n _ (okX5_f0 _ hk_x2)) (okX1_k _ (okX5_f0 _ hk_x2)) (by decide) rfl inX1 (by decide) wd85 rfl (zfv_r rfl (okX1_g1 _ (okX5_f0 _ hk_x2))) ?_
      refine mw_iload_n 0 C dX0_handle_34 rfl rfl ?_
      refine mw_aload_n 1 C dX0_handle_35 rfl rfl ?_
      refine mw_get (k := 3) (T := TX6) (v := rfv (xd (zX Z)) (x0 + 3)) C dX0_handle_36 (okX6_n _ hk_x0) (okX6_k _ hk_x0) (by decide) rfl inX6 (by decide) wd163 rfl (zfv_r rfl (okX6_g3 _ hk_x0)) ?_
      refine mw_iload_n 2 C dX0_handle_39 rfl rfl ?_
      refine mw_iald C dX0_handle_40 (okX6_f3 _ hk_x0).2.1 (okX6_f3 _ hk_x0).1 (okX6_f3 _ hk_x0).2.2 g1 ?_
      obtain ⟨g12, hF⟩ := ck_some hF
      obtain ⟨h13, eh13, hF⟩ := nx_some hF
      refine mw_iast C dX0_handle_41 (okX1_f1 _ (okX5_f0 _ hk_x2)).2.1 (okX1_f1 _ (okX5_f0 _ hk_x2)).1 (okX1_f1 _ (okX5_f0 _ hk_x2)).2.2 g12 (mw_h eh13 ?_)
      refine mw_goto (tgt := 74) C dX0_handle_42 (by decide) ?_
      cases hF
      exact mw_vret C dX0_handle_74 rfl rfl
  · refine mw_icmp_ne_f (tgt := 17) C dX0_handle_13 (by decide) g3 (by decide) c4 ?_
    cases hF
    exact mw_vret C dX0_handle_16 rfl rfl
def F_X0_handle (x0 : Nat) (x1 : Int) (x2 : Nat) (h : MH) : Option MH := F_X0_handle_0 x0 x1 x2 h
theorem T_X0_handle (l : Launch) (X : XT) (x0 : Nat) (x1 : Int) (x2 : Nat) (hk_x0 : okX6 x0) (hk_x2 : okX5 x2) (h : MH) (t : MH) (hF : F_X0_handle x0 x1 x2 h = some t) : Ct l X yX0_handle cX0_handle 4 none 2 [rfv (xd X) x0, iv x1, rfv (xd X) x2] zN zG h none zN zG t 0 0 := by
  refine Ct.head (by decide) (Nat.le_of_ble_eq_true rfl) (fun Z hX hl _ _ _ C => ?_)
  subst hX
  subst hl
  exact (T_X0_handle_0 C x0 x1 x2 hk_x0 hk_x2 _ _ hF)
/-! BottleLine$Doing.doStep(LBottleLine$Script;LBottleLine$Plan;)V -/
def F_X0_doStep_105 (s1 : Nat) (s2 : Int) (s3 : Int) (h : MH) : Option MH :=
  (F_X0_enterBlock s1 s2 s3 h).bind fun q1 =>
  some q1
set_option maxRecDepth 100000 in
theorem T_X0_doStep_105 {Z : ZT} (C : Cx Z cX0_doStep 4 RX0 6 none) (s1 : Nat) (s2 : Int) (s3 : Int) (hk_s1 : okX6 s1) (h : MH) (t : MH) (hF : F_X0_doStep_105 s1 s2 s3 h = some t) : MW Z (Qm Z none zN zG t 0 0) 4 zN zG h 0 0 105 [] [iv s3, iv s2, rfv (xd (zX Z)) s1, rfv (xd (zX Z)) 70] := by
  unfold F_X0_doStep_105 at hF
  obtain ⟨q1, hq1, hF⟩ := bind_some hF
  refine mw_callV (c := 70) [rfv (xd (zX Z)) s1, iv s2, iv s3] [] C dX0_doStep_105 (T_X0_enterBlock (zl Z) (zX Z) s1 s2 s3 hk_s1 _ _ hq1) rfl zn70 zk70 (by decide) rfl wd731 wd732 wd1348 wd9 wd733 hd_X0_enterBlock rfl (by decide) (by decide) (Nat.le_of_ble_eq_true rfl) ⟨Nat.zero_le _, Nat.zero_le _⟩ ?_
  refine mw_goto (tgt := 117) C dX0_doStep_108 (by decide) ?_
  cases hF
  exact mw_vret C dX0_doStep_117 rfl rfl
def F_X0_doStep_0 (x1 : Nat) (x2 : Nat) (h : MH) : Option MH :=
  nx (h 70 5) fun v1 =>
  nx (hup h 70 5 ((h 70 5) + 1)) fun h2 =>
  ck (0 ≤ v1 ∧ v1 < 30) <|
  ck (in32 (h2 (x1 + 1) v1.toNat)) <|
  if (h2 (x1 + 1) v1.toNat) = 0 then
    (F_X0_doRun (x2 + 1) (h2 (x1 + 3) v1.toNat) h2).bind fun q6 =>
    some q6
  else
  if (h2 (x1 + 1) v1.toNat) = 4 then
    (F_X0_enterBlock x1 v1 (h2 (x1 + 3) v1.toNat) h2).bind fun q8 =>
    some q8
  else
  if (h2 (x1 + 1) v1.toNat) = 5 then
    (F_X0_wasSo x1 v1 x2 h2).bind fun q10 =>
    ck (in32 q10.1) <|
    if q10.1 = 0 then
      F_X0_doStep_105 x1 v1 0 q10.2
    else
      F_X0_doStep_105 x1 v1 1 q10.2
  else
  (F_X0_handle x1 v1 x2 h2).bind fun q13 =>
  some q13
set_option maxRecDepth 100000 in
theorem T_X0_doStep_0 {Z : ZT} (C : Cx Z cX0_doStep 4 RX0 6 none) (x1 : Nat) (x2 : Nat) (hk_x1 : okX6 x1) (hk_x2 : okX5 x2) (h : MH) (t : MH) (hF : F_X0_doStep_0 x1 x2 h = some t) : MW Z (Qm Z none zN zG t 0 0) 4 zN zG h 0 0 0 [(0, rfv (xd (zX Z)) 70), (1, rfv (xd (zX Z)) x1), (2, rfv (xd (zX Z)) x2)] [] := by
  unfold F_X0_doStep_0 at hF
  refine mw_aload_n 0 C dX0_doStep_0 rfl rfl ?_
  refine mw_get (k := 5) (T := TX0) (v := iv (h 70 5)) C dX0_doStep_1 zn70 zk70 (by decide) rfl inX0 (by decide) wd207 rfl rfl ?_
  obtain ⟨v1, ev1, hF⟩ := nx_some hF
  refine mw_ti ev1 ?_
  refine mw_istore_n [(3, iv v1), (0, rfv (xd (zX Z)) 70), (1, rfv (xd (zX Z)) x1), (2, rfv (xd (zX Z)) x2)] C dX0_doStep_4 rfl (by decide) rfl ?_
  refine mw_aload_n 1 C dX0_doStep_5 rfl rfl ?_
  refine mw_dup C dX0_doStep_6 rfl ?_
  refine mw_get (k := 5) (T := TX0) (v := iv (h 70 5)) C dX0_doStep_7 zn70 zk70 (by decide) rfl inX0 (by decide) wd207 rfl rfl ?_
  refine mw_iconst C dX0_doStep_10 ?_
  refine mw_iadd C dX0_doStep_11 ?_
  obtain ⟨h2, eh2, hF⟩ := nx_some hF
  refine mw_put (k := 5) (T := TX0) (ty0 := tyX0) (x := ((h 70 5) + 1)) C dX0_doStep_12 zn70 zk70 (by decide) rfl inX0 tyX0_ok nmX0 (by decide) wd207 rfl rfl rfl rfl rfl (by decide) (mw_h eh2 ?_)
  refine mw_aload_n 2 C dX0_doStep_15 rfl rfl ?_
  refine mw_get (k := 1) (T := TX6) (v := rfv (xd (zX Z)) (x1 + 1)) C dX0_doStep_16 (okX6_n _ hk_x1) (okX6_k _ hk_x1) (by decide) rfl inX6 (by decide) wd157 rfl (zfv_r rfl (okX6_g1 _ hk_x1)) ?_
  refine mw_iload_n 0 C dX0_doStep_19 rfl rfl ?_
  obtain ⟨g3, hF⟩ := ck_some hF
  refine mw_iald C dX0_doStep_20 (okX6_f1 _ hk_x1).2.1 (okX6_f1 _ hk_x1).1 (okX6_f1 _ hk_x1).2.2 g3 ?_
  obtain ⟨g4, hF⟩ := ck_some hF
  rcases ite_some hF with ⟨c5, hF⟩ | ⟨c5, hF⟩
  · refine mw_look (tgt := 56) (off := 35) C dX0_doStep_21 g4 rfl (by rw [c5]; first | done | decide) (by decide) ?_
    refine mw_aload_n 1 C dX0_doStep_56 rfl rfl ?_
    refine mw_aload_n 3 C dX0_doStep_57 rfl rfl ?_
    refine mw_get (k := 0) (T := TX5) (v := rfv (xd (zX Z)) (x2 + 1)) C dX0_doStep_58 (okX5_n _ hk_x2) (okX5_k _ hk_x2) (by decide) rfl inX5 (by decide) wd119 rfl (zfv_r rfl (okX5_g0 _ hk_x2)) ?_
    refine mw_aload_n 2 C dX0_doStep_61 rfl rfl ?_
    refine mw_get (k := 3) (T := TX6) (v := rfv (xd (zX Z)) (x1 + 3)) C dX0_doStep_62 (okX6_n _ hk_x1) (okX6_k _ hk_x1) (by decide) rfl inX6 (by decide) wd163 rfl (zfv_r rfl (okX6_g3 _ hk_x1)) ?_
    refine mw_iload_n 0 C dX0_doStep_65 rfl rfl ?_
    refine mw_iald C dX0_doStep_66 (okX6_f3 _ hk_x1).2.1 (okX6_f3 _ hk_x1).1 (okX6_f3 _ hk_x1).2.2 g3 ?_
    obtain ⟨q6, hq6, hF⟩ := bind_some hF
    refine mw_callV (c := 70) [rfv (xd (zX Z)) (x2 + 1), iv (h2 (x1 + 3) v1.toNat)] [] C dX0_doStep_67 (T_X0_doRun (zl Z) (zX Z) (x2 + 1) (h2 (x1 + 3) v1.toNat) (okX5_f0 _ hk_x2) _ _ hq6) rfl zn70 zk70 (by decide) rfl wd726 wd727 wd1347 wd9 wd728 hd_X0_doRun rfl (by decide) (by decide) (Nat.le_of_ble_eq_true rfl) ⟨Nat.zero_le _, Nat.zero_le _⟩ ?_
    refine mw_goto (tgt := 117) C dX0_doStep_70 (by decide) ?_
    cases hF
    exact mw_vret C dX0_doStep_117 rfl rfl
  rcases ite_some hF with ⟨c7, hF⟩ | ⟨c7, hF⟩
  · refine mw_look (tgt := 73) (off := 52) C dX0_doStep_21 g4 rfl (by rw [c7]; first | done | decide) (by decide) ?_
    refine mw_aload_n 1 C dX0_doStep_73 rfl rfl ?_
    refine mw_aload_n 2 C dX0_doStep_74 rfl rfl ?_
    refine mw_iload_n 0 C dX0_doStep_75 rfl rfl ?_
    refine mw_aload_n 2 C dX0_doStep_76 rfl rfl ?_
    refine mw_get (k := 3) (T := TX6) (v := rfv (xd (zX Z)) (x1 + 3)) C dX0_doStep_77 (okX6_n _ hk_x1) (okX6_k _ hk_x1) (by decide) rfl inX6 (by decide) wd163 rfl (zfv_r rfl (okX6_g3 _ hk_x1)) ?_
    refine mw_iload_n 0 C dX0_doStep_80 rfl rfl ?_
    refine mw_iald C dX0_doStep_81 (okX6_f3 _ hk_x1).2.1 (okX6_f3 _ hk_x1).1 (okX6_f3 _ hk_x1).2.2 g3 ?_
    obtain ⟨q8, hq8, hF⟩ := bind_some hF
    refine mw_callV (c := 70) [rfv (xd (zX Z)) x1, iv v1, iv (h2 (x1 + 3) v1.toNat)] [] C dX0_doStep_82 (T_X0_enterBlock (zl Z) (zX Z) x1 v1 (h2 (x1 + 3) v1.toNat) hk_x1 _ _ hq8) rfl zn70 zk70 (by decide) rfl wd731 wd732 wd1348 wd9 wd733 hd_X0_enterBlock rfl (by decide) (by decide) (Nat.le_of_ble_eq_true rfl) ⟨Nat.zero_le _, Nat.zero_le _⟩ ?_
    refine mw_goto (tgt := 117) C dX0_doStep_85 (by decide) ?_
    cases hF
    exact mw_vret C dX0_doStep_117 rfl rfl
  rcases ite_some hF with ⟨c9, hF⟩ | ⟨c9, hF⟩
  · refine mw_look (tgt := 88) (off := 67) C dX0_doStep_21 g4 rfl (by rw [c9]; first | done | decide) (by decide) ?_
    refine mw_aload_n 1 C dX0_doStep_88 rfl rfl ?_
    refine mw_aload_n 2 C dX0_doStep_89 rfl rfl ?_
    refine mw_iload_n 0 C dX0_doStep_90 rfl rfl ?_
    refine mw_aload_n 2 C dX0_doStep_91 rfl rfl ?_
    refine mw_iload_n 0 C dX0_doStep_92 rfl rfl ?_
    refine mw_aload_n 3 C dX0_doStep_93 rfl rfl ?_
    obtain ⟨q10, hq10, hF⟩ := bind_some hF
    refine mw_callS [rfv (xd (zX Z)) x1, iv v1, rfv (xd (zX Z)) x2] [iv v1, rfv (xd (zX Z)) x1, rfv (xd (zX Z)) 70] C dX0_doStep_94 (T_X0_wasSo (zl Z) (zX Z) x1 v1 x2 hk_x1 hk_x2 _ _ hq10) rfl wd734 wd735 wd9 wd736 hd_X0_wasSo rfl (by decide) (by decide) (Nat.le_of_ble_eq_true rfl) ⟨Nat.zero_le _, Nat.zero_le _⟩ ?_
    obtain ⟨g11, hF⟩ := ck_some hF
    rcases ite_some hF with ⟨c12, hF⟩ | ⟨c12, hF⟩
    · refine mw_if_eq_t (tgt := 104) C dX0_doStep_97 (by decide) g11 c12 ?_
      refine mw_iconst C dX0_doStep_104 ?_
      refine mw_sub [] rfl ?_
      exact T_X0_doStep_105 C x1 v1 0 hk_x1 _ _ hF
    · refine mw_if_eq_f (tgt := 104) C dX0_doStep_97 (by decide) g11 c12 ?_
      refine mw_iconst C dX0_doStep_100 ?_
      refine mw_goto (tgt := 105) C dX0_doStep_101 (by decide) ?_
      refine mw_sub [] rfl ?_
      exact T_X0_doStep_105 C x1 v1 1 hk_x1 _ _ hF
  have zc5 : ¬ (0 = (h2 (x1 + 1) v1.toNat)) := fun q => c5 q.symm
  have zc7 : ¬ (4 = (h2 (x1 + 1) v1.toNat)) := fun q => c7 q.symm
  have zc9 : ¬ (5 = (h2 (x1 + 1) v1.toNat)) := fun q => c9 q.symm
  refine mw_look (tgt := 111) (off := 90) C dX0_doStep_21 g4 rfl (by simp [Op.lookupswitch.offset, zc5, zc7, zc9]) (by decide) ?_
  refine mw_aload_n 2 C dX0_doStep_111 rfl rfl ?_
  refine mw_iload_n 0 C dX0_doStep_112 rfl rfl ?_
  refine mw_aload_n 3 C dX0_doStep_113 rfl rfl ?_
  obtain ⟨q13, hq13, hF⟩ := bind_some hF
  refine mw_callS [rfv (xd (zX Z)) x1, iv v1, rfv (xd (zX Z)) x2] [] C dX0_doStep_114 (T_X0_handle (zl Z) (zX Z) x1 v1 x2 hk_x1 hk_x2 _ _ hq13) rfl wd738 wd739 wd9 wd740 hd_X0_handle rfl (by decide) (by decide) (Nat.le_of_ble_eq_true rfl) ⟨Nat.zero_le _, Nat.zero_le _⟩ ?_
  cases hF
  exact mw_vret C dX0_doStep_117 rfl rfl
def F_X0_doStep (x1 : Nat) (x2 : Nat) (h : MH) : Option MH := F_X0_doStep_0 x1 x2 h
theorem T_X0_doStep (l : Launch) (X : XT) (x1 : Nat) (x2 : Nat) (hk_x1 : okX6 x1) (hk_x2 : okX5 x2) (h : MH) (t : MH) (hF : F_X0_doStep x1 x2 h = some t) : Ct l X yX0_doStep cX0_doStep 4 none 6 [rfv (xd X) 70, rfv (xd X) x1, rfv (xd X) x2] zN zG h none zN zG t 0 0 := by
  refine Ct.head (by decide) (Nat.le_of_ble_eq_true rfl) (fun Z hX hl _ _ _ C => ?_)
  subst hX
  subst hl
  exact (T_X0_doStep_0 C x1 x2 hk_x1 hk_x2 _ _ hF)
/-! BottleLine$Doing.doAll(LBottleLine$Script;LBottleLine$Plan;)V -/
def F_X0_doAll_37 : Nat → Nat → Nat → Int → MH → Option MH
  | 0, _, _, _, _ => none
  | n + 1, x1, x2, x3, h =>
    ck (in32 x3) <|
    if 100 < x3 then
      some h
    else
      (F_X0_leaveBlocks x1 h).bind fun q3 =>
      ck (in32 (q3 70 5)) <|
      ck (in32 (q3 x1 0)) <|
      if (q3 70 5) < (q3 x1 0) then
        ck (in32 (q3 70 1)) <|
        if 100 ≤ (q3 70 1) then
          nx (hup q3 70 4 1) fun h9 =>
          some h9
        else
          ck (in32 (q3 70 2)) <|
          if (q3 70 2) < 1000 then
            nx (hup q3 70 1 ((q3 70 1) + 1)) fun h12 =>
            (F_X0_doStep x1 x2 h12).bind fun q13 =>
            F_X0_doAll_37 n x1 x2 (x3 + 1) q13
          else
            nx (hup q3 70 4 1) fun h14 =>
            some h14
      else
        some q3
set_option maxRecDepth 100000 in
theorem T_X0_doAll_37 {Z : ZT} (C : Cx Z cX0_doAll 4 RX0 7 none) : ∀ (n : Nat) (x1 : Nat) (x2 : Nat) (x3 : Int) (hk_x1 : okX6 x1) (hk_x2 : okX5 x2) (h : MH) (t : MH), F_X0_doAll_37 n x1 x2 x3 h = some t → MW Z (Qm Z none zN zG t 0 0) 4 zN zG h 0 0 37 [(0, rfv (xd (zX Z)) 70), (1, rfv (xd (zX Z)) x1), (2, rfv (xd (zX Z)) x2), (3, iv x3)] [] := by
  intro n
  induction n with
  | zero =>
    intros
    rename_i hF
    exact absurd hF (by intro q; cases q)
  | succ n ih =>
    intro x1 x2 x3 hk_x1 hk_x2 h t hF
    rw [F_X0_doAll_37] at hF
    refine mw_iload_n 3 C dX0_doAll_37 rfl rfl ?_
    refine mw_bipush C dX0_doAll_38 bp_100 ?_
    obtain ⟨g1, hF⟩ := ck_some hF
    rcases ite_some hF with ⟨c2, hF⟩ | ⟨c2, hF⟩
    · refine mw_icmp_gt_t (tgt := 107) C dX0_doAll_40 (by decide) g1 (by decide) c2 ?_
      cases hF
      exact mw_vret C dX0_doAll_107 rfl rfl
    · refine mw_icmp_gt_f (tgt := 107) C dX0_doAll_40 (by decide) g1 (by decide) c2 ?_
      refine mw_aload_n 0 C dX0_doAll_43 rfl rfl ?_
      refine mw_aload_n 1 C dX0_doAll_44 rfl rfl ?_
      obtain ⟨q3, hq3, hF⟩ := bind_some hF
      refine mw_callV (c := 70) [rfv (xd (zX Z)) x1] [] C dX0_doAll_45 (T_X0_leaveBlocks (zl Z) (zX Z) x1 hk_x1 _ _ hq3) rfl zn70 zk70 (by decide) rfl wd720 wd721 wd1345 wd9 wd722 hd_X0_leaveBlocks rfl (by decide) (by decide) (Nat.le_of_ble_eq_true rfl) ⟨Nat.zero_le _, Nat.zero_le _⟩ ?_
      refine mw_aload_n 0 C dX0_doAll_48 rfl rfl ?_
      refine mw_get (k := 5) (T := TX0) (v := iv (q3 70 5)) C dX0_doAll_49 zn70 zk70 (by decide) rfl inX0 (by decide) wd207 rfl rfl ?_
      refine mw_aload_n 1 C dX0_doAll_52 rfl rfl ?_
      refine mw_get (k := 0) (T := TX6) (v := iv (q3 x1 0)) C dX0_doAll_53 (okX6_n _ hk_x1) (okX6_k _ hk_x1) (by decide) rfl inX6 (by decide) wd154 rfl rfl ?_
      obtain ⟨g4, hF⟩ := ck_some hF
      obtain ⟨g5, hF⟩ := ck_some hF
      rcases ite_some hF with ⟨c6, hF⟩ | ⟨c6, hF⟩
      · refine mw_icmp_lt_t (tgt := 60) C dX0_doAll_56 (by decide) g4 g5 c6 ?_
        refine mw_aload_n 0 C dX0_doAll_60 rfl rfl ?_
        refine mw_get (k := 1) (T := TX0) (v := iv (q3 70 1)) C dX0_doAll_61 zn70 zk70 (by decide) rfl inX0 (by decide) wd199 rfl rfl ?_
        refine mw_bipush C dX0_doAll_64 bp_100 ?_
        obtain ⟨g7, hF⟩ := ck_some hF
        rcases ite_some hF with ⟨c8, hF⟩ | ⟨c8, hF⟩
        · refine mw_icmp_ge_t (tgt := 79) C dX0_doAll_66 (by decide) g7 (by decide) c8 ?_
          refine mw_aload_n 0 C dX0_doAll_79 rfl rfl ?_
          refine mw_iconst C dX0_doAll_80 ?_
          obtain ⟨h9, eh9, hF⟩ := nx_some hF
          refine mw_put (k := 4) (T := TX0) (ty0 := tyX0) (x := 1) C dX0_doAll_81 zn70 zk70 (by decide) rfl inX0 tyX0_ok nmX0 (by decide) wd205 rfl rfl rfl rfl rfl (by decide) (mw_h eh9 ?_)
          cases hF
          exact mw_vret C dX0_doAll_84 rfl rfl
        · refine mw_icmp_ge_f (tgt := 79) C dX0_doAll_66 (by decide) g7 (by decide) c8 ?_
          refine mw_aload_n 0 C dX0_doAll_69 rfl rfl ?_
          refine mw_get (k := 2) (T := TX0) (v := iv (q3 70 2)) C dX0_doAll_70 zn70 zk70 (by decide) rfl inX0 (by decide) wd201 rfl rfl ?_
          refine mw_sipush C dX0_doAll_73 sp_1000 ?_
          obtain ⟨g10, hF⟩ := ck_some hF
          rcases ite_some hF with ⟨c11, hF⟩ | ⟨c11, hF⟩
          · refine mw_icmp_lt_t (tgt := 85) C dX0_doAll_76 (by decide) g10 (by decide) c11 ?_
            refine mw_aload_n 0 C dX0_doAll_85 rfl rfl ?_
            refine mw_dup C dX0_doAll_86 rfl ?_
            refine mw_get (k := 1) (T := TX0) (v := iv (q3 70 1)) C dX0_doAll_87 zn70 zk70 (by decide) rfl inX0 (by decide) wd199 rfl rfl ?_
            refine mw_iconst C dX0_doAll_90 ?_
            refine mw_iadd C dX0_doAll_91 ?_
            obtain ⟨h12, eh12, hF⟩ := nx_some hF
            refine mw_put (k := 1) (T := TX0) (ty0 := tyX0) (x := ((q3 70 1) + 1)) C dX0_doAll_92 zn70 zk70 (by decide) rfl inX0 tyX0_ok nmX0 (by decide) wd199 rfl rfl rfl rfl rfl (by decide) (mw_h eh12 ?_)
            refine mw_aload_n 0 C dX0_doAll_95 rfl rfl ?_
            refine mw_aload_n 1 C dX0_doAll_96 rfl rfl ?_
            refine mw_aload_n 2 C dX0_doAll_97 rfl rfl ?_
            obtain ⟨q13, hq13, hF⟩ := bind_some hF
            refine mw_callV (c := 70) [rfv (xd (zX Z)) x1, rfv (xd (zX Z)) x2] [] C dX0_doAll_98 (T_X0_doStep (zl Z) (zX Z) x1 x2 hk_x1 hk_x2 _ _ hq13) rfl zn70 zk70 (by decide) rfl wd723 wd724 wd1346 wd9 wd725 hd_X0_doStep rfl (by decide) (by decide) (Nat.le_of_ble_eq_true rfl) ⟨Nat.zero_le _, Nat.zero_le _⟩ ?_
            refine mw_iinc 3 [(3, iv (x3 + 1)), (0, rfv (xd (zX Z)) 70), (1, rfv (xd (zX Z)) x1), (2, rfv (xd (zX Z)) x2)] C dX0_doAll_101 rfl (by decide) rfl ?_
            refine mw_goto (tgt := 37) C dX0_doAll_104 (by decide) ?_
            refine mw_sub [1, 2, 3, 0] rfl ?_
            exact ih x1 x2 (x3 + 1) hk_x1 hk_x2 _ _ hF
          · refine mw_icmp_lt_f (tgt := 85) C dX0_doAll_76 (by decide) g10 (by decide) c11 ?_
            refine mw_aload_n 0 C dX0_doAll_79 rfl rfl ?_
            refine mw_iconst C dX0_doAll_80 ?_
            obtain ⟨h14, eh14, hF⟩ := nx_some hF
            refine mw_put (k := 4) (T := TX0) (ty0 := tyX0) (x := 1) C dX0_doAll_81 zn70 zk70 (by decide) rfl inX0 tyX0_ok nmX0 (by decide) wd205 rfl rfl rfl rfl rfl (by decide) (mw_h eh14 ?_)
            cases hF
            exact mw_vret C dX0_doAll_84 rfl rfl
      · refine mw_icmp_lt_f (tgt := 60) C dX0_doAll_56 (by decide) g4 g5 c6 ?_
        cases hF
        exact mw_vret C dX0_doAll_59 rfl rfl
def F_X0_doAll_0 (x1 : Nat) (x2 : Nat) (h : MH) : Option MH :=
  nx (hup h 70 0 1) fun h1 =>
  nx (hup h1 70 1 0) fun h2 =>
  nx (hup h2 70 2 0) fun h3 =>
  nx (hup h3 70 3 0) fun h4 =>
  nx (hup h4 70 4 0) fun h5 =>
  nx (hup h5 70 5 0) fun h6 =>
  nx (hup h6 70 6 0) fun h7 =>
  F_X0_doAll_37 20000 x1 x2 0 h7
set_option maxRecDepth 100000 in
theorem T_X0_doAll_0 {Z : ZT} (C : Cx Z cX0_doAll 4 RX0 7 none) (x1 : Nat) (x2 : Nat) (hk_x1 : okX6 x1) (hk_x2 : okX5 x2) (h : MH) (t : MH) (hF : F_X0_doAll_0 x1 x2 h = some t) : MW Z (Qm Z none zN zG t 0 0) 4 zN zG h 0 0 0 [(0, rfv (xd (zX Z)) 70), (1, rfv (xd (zX Z)) x1), (2, rfv (xd (zX Z)) x2)] [] := by
  unfold F_X0_doAll_0 at hF
  refine mw_aload_n 0 C dX0_doAll_0 rfl rfl ?_
  refine mw_iconst C dX0_doAll_1 ?_
  obtain ⟨h1, eh1, hF⟩ := nx_some hF
  refine mw_put (k := 0) (T := TX0) (ty0 := tyX0) (x := 1) C dX0_doAll_2 zn70 zk70 (by decide) rfl inX0 tyX0_ok nmX0 (by decide) wd197 rfl rfl (nz_n (Or.inr rfl)) (nz_f (Or.inr rfl)) rfl (by decide) (mw_h eh1 ?_)
  refine mw_aload_n 0 C dX0_doAll_5 rfl rfl ?_
  refine mw_iconst C dX0_doAll_6 ?_
  obtain ⟨h2, eh2, hF⟩ := nx_some hF
  refine mw_put (k := 1) (T := TX0) (ty0 := tyX0) (x := 0) C dX0_doAll_7 zn70 zk70 (by decide) rfl inX0 tyX0_ok nmX0 (by decide) wd199 rfl rfl rfl rfl rfl (by decide) (mw_h eh2 ?_)
  refine mw_aload_n 0 C dX0_doAll_10 rfl rfl ?_
  refine mw_iconst C dX0_doAll_11 ?_
  obtain ⟨h3, eh3, hF⟩ := nx_some hF
  refine mw_put (k := 2) (T := TX0) (ty0 := tyX0) (x := 0) C dX0_doAll_12 zn70 zk70 (by decide) rfl inX0 tyX0_ok nmX0 (by decide) wd201 rfl rfl rfl rfl rfl (by decide) (mw_h eh3 ?_)
  refine mw_aload_n 0 C dX0_doAll_15 rfl rfl ?_
  refine mw_iconst C dX0_doAll_16 ?_
  obtain ⟨h4, eh4, hF⟩ := nx_some hF
  refine mw_put (k := 3) (T := TX0) (ty0 := tyX0) (x := 0) C dX0_doAll_17 zn70 zk70 (by decide) rfl inX0 tyX0_ok nmX0 (by decide) wd203 rfl rfl rfl rfl rfl (by decide) (mw_h eh4 ?_)
  refine mw_aload_n 0 C dX0_doAll_20 rfl rfl ?_
  refine mw_iconst C dX0_doAll_21 ?_
  obtain ⟨h5, eh5, hF⟩ := nx_some hF
  refine mw_put (k := 4) (T := TX0) (ty0 := tyX0) (x := 0) C dX0_doAll_22 zn70 zk70 (by decide) rfl inX0 tyX0_ok nmX0 (by decide) wd205 rfl rfl rfl rfl rfl (by decide) (mw_h eh5 ?_)
  refine mw_aload_n 0 C dX0_doAll_25 rfl rfl ?_
  refine mw_iconst C dX0_doAll_26 ?_
  obtain ⟨h6, eh6, hF⟩ := nx_some hF
  refine mw_put (k := 5) (T := TX0) (ty0 := tyX0) (x := 0) C dX0_doAll_27 zn70 zk70 (by decide) rfl inX0 tyX0_ok nmX0 (by decide) wd207 rfl rfl rfl rfl rfl (by decide) (mw_h eh6 ?_)
  refine mw_aload_n 0 C dX0_doAll_30 rfl rfl ?_
  refine mw_iconst C dX0_doAll_31 ?_
  obtain ⟨h7, eh7, hF⟩ := nx_some hF
  refine mw_put (k := 6) (T := TX0) (ty0 := tyX0) (x := 0) C dX0_doAll_32 zn70 zk70 (by decide) rfl inX0 tyX0_ok nmX0 (by decide) wd208 rfl rfl rfl rfl rfl (by decide) (mw_h eh7 ?_)
  refine mw_iconst C dX0_doAll_35 ?_
  refine mw_istore_n [(3, iv 0), (0, rfv (xd (zX Z)) 70), (1, rfv (xd (zX Z)) x1), (2, rfv (xd (zX Z)) x2)] C dX0_doAll_36 rfl (by decide) rfl ?_
  refine mw_sub [1, 2, 3, 0] rfl ?_
  exact T_X0_doAll_37 C 20000 x1 x2 0 hk_x1 hk_x2 _ _ hF
def F_X0_doAll (x1 : Nat) (x2 : Nat) (h : MH) : Option MH := F_X0_doAll_0 x1 x2 h
theorem T_X0_doAll (l : Launch) (X : XT) (x1 : Nat) (x2 : Nat) (hk_x1 : okX6 x1) (hk_x2 : okX5 x2) (h : MH) (t : MH) (hF : F_X0_doAll x1 x2 h = some t) : Ct l X yX0_doAll cX0_doAll 4 none 7 [rfv (xd X) 70, rfv (xd X) x1, rfv (xd X) x2] zN zG h none zN zG t 0 0 := by
  refine Ct.head (by decide) (Nat.le_of_ble_eq_true rfl) (fun Z hX hl _ _ _ C => ?_)
  subst hX
  subst hl
  exact (T_X0_doAll_0 C x1 x2 hk_x1 hk_x2 _ _ hF)
/-! BottleLine$HeadSearch.headsAt(LBottleLine$Plan;I)I -/
def F_X2_headsAt_0 (x0 : Nat) (x1 : Int) (h : MH) : Option (Int × MH) :=
  ck (in32 x1) <|
  ck (in32 (h (x0 + 1) 0)) <|
  if (h (x0 + 1) 0) ≤ x1 then
    some (0, h)
  else
    ck (0 ≤ x1 ∧ x1 < 6) <|
    some ((h (x0 + 13) x1.toNat), h)
set_option maxRecDepth 100000 in
theorem T_X2_headsAt_0 {Z : ZT} (C : Cx Z cX2_headsAt 2 RX2 1 (some .int)) (x0 : Nat) (x1 : Int) (hk_x0 : okX5 x0) (h : MH) (t : (Int × MH)) (hF : F_X2_headsAt_0 x0 x1 h = some t) : MW Z (Qm Z (some (iv t.1)) zN zG t.2 0 0) 2 zN zG h 0 0 0 [(0, rfv (xd (zX Z)) x0), (1, iv x1)] [] := by
  unfold F_X2_headsAt_0 at hF
  refine mw_iload_n 1 C dX2_headsAt_0 rfl rfl ?_
  refine mw_aload_n 0 C dX2_headsAt_1 rfl rfl ?_
  refine mw_get (k := 0) (T := TX5) (v := rfv (xd (zX Z)) (x0 + 1)) C dX2_headsAt_2 (okX5_n _ hk_x0) (okX5_k _ hk_x0) (by decide) rfl inX5 (by decide) wd118 rfl (zfv_r rfl (okX5_g0 _ hk_x0)) ?_
  refine mw_get (k := 0) (T := TX1) (v := iv (h (x0 + 1) 0)) C dX2_headsAt_5 (okX1_n _ (okX5_f0 _ hk_x0)) (okX1_k _ (okX5_f0 _ hk_x0)) (by decide) rfl inX1 (by decide) wd78 rfl rfl ?_
  obtain ⟨g1, hF⟩ := ck_some hF
  obtain ⟨g2, hF⟩ := ck_some hF
  rcases ite_some hF with ⟨c3, hF⟩ | ⟨c3, hF⟩
  · refine mw_icmp_ge_t (tgt := 20) C dX2_headsAt_8 (by decide) g1 g2 c3 ?_
    refine mw_iconst C dX2_headsAt_20 ?_
    cases hF
    exact mw_iret C dX2_headsAt_21 rfl rfl
  · refine mw_icmp_ge_f (tgt := 20) C dX2_headsAt_8 (by decide) g1 g2 c3 ?_
    refine mw_aload_n 0 C dX2_headsAt_11 rfl rfl ?_
    refine mw_get (k := 2) (T := TX5) (v := rfv (xd (zX Z)) (x0 + 13)) C dX2_headsAt_12 (okX5_n _ hk_x0) (okX5_k _ hk_x0) (by decide) rfl inX5 (by decide) wd125 rfl (zfv_r rfl (okX5_g2 _ hk_x0)) ?_
    refine mw_iload_n 1 C dX2_headsAt_15 rfl rfl ?_
    obtain ⟨g4, hF⟩ := ck_some hF
    refine mw_iald C dX2_headsAt_16 (okX5_f2 _ hk_x0).2.1 (okX5_f2 _ hk_x0).1 (okX5_f2 _ hk_x0).2.2 g4 ?_
    refine mw_goto (tgt := 21) C dX2_headsAt_17 (by decide) ?_
    cases hF
    exact mw_iret C dX2_headsAt_21 rfl rfl
def F_X2_headsAt (x0 : Nat) (x1 : Int) (h : MH) : Option (Int × MH) := F_X2_headsAt_0 x0 x1 h
theorem T_X2_headsAt (l : Launch) (X : XT) (x0 : Nat) (x1 : Int) (hk_x0 : okX5 x0) (h : MH) (t : (Int × MH)) (hF : F_X2_headsAt x0 x1 h = some t) : Ct l X yX2_headsAt cX2_headsAt 2 (some .int) 1 [rfv (xd X) x0, iv x1] zN zG h (some (iv t.1)) zN zG t.2 0 0 := by
  refine Ct.head (by decide) (Nat.le_of_ble_eq_true rfl) (fun Z hX hl _ _ _ C => ?_)
  subst hX
  subst hl
  exact (T_X2_headsAt_0 C x0 x1 hk_x0 _ _ hF)
/-! BottleLine$HeadSearch.coveredBy(II[JII)J -/
def F_X2_coveredBy_48 (k20 : Int → Int → Nat → Int → Int → Int → Int → MH → Option (Int × MH)) (x0 : Int) (x1 : Int) (x2 : Nat) (x3 : Int) (x4 : Int) (x5 : Int) (x7 : Int) (h : MH) : Option (Int × MH) :=
  k20 x0 x1 x2 x3 x4 x5 (x7 + 1) h
set_option maxRecDepth 100000 in
theorem T_X2_coveredBy_48 {Z : ZT} (C : Cx Z cX2_coveredBy 8 RX2 2 (some .long)) (k20 : Int → Int → Nat → Int → Int → Int → Int → MH → Option (Int × MH)) (hk20 : ∀ (x0 : Int) (x1 : Int) (x2 : Nat) (x3 : Int) (x4 : Int) (x5 : Int) (x7 : Int) (hk_x2 : zK x2 = (22, 60) ∧ x2 < zN ∧ 60 < 2147483648) (h : MH) (t : (Int × MH)), k20 x0 x1 x2 x3 x4 x5 x7 h = some t → MW Z (Qm Z (some (lvv t.1)) zN zG t.2 0 0) 8 zN zG h 0 0 20 [(0, iv x0), (1, iv x1), (2, rfv (xd (zX Z)) x2), (3, iv x3), (4, iv x4), (5, lvv x5), (7, iv x7)] []) (x0 : Int) (x1 : Int) (x2 : Nat) (x3 : Int) (x4 : Int) (x5 : Int) (x7 : Int) (hk_x2 : zK x2 = (22, 60) ∧ x2 < zN ∧ 60 < 2147483648) (h : MH) (t : (Int × MH)) (hF : F_X2_coveredBy_48 k20 x0 x1 x2 x3 x4 x5 x7 h = some t) : MW Z (Qm Z (some (lvv t.1)) zN zG t.2 0 0) 8 zN zG h 0 0 48 [(0, iv x0), (1, iv x1), (2, rfv (xd (zX Z)) x2), (3, iv x3), (4, iv x4), (5, lvv x5), (7, iv x7)] [] := by
  unfold F_X2_coveredBy_48 at hF
  refine mw_iinc 6 [(7, iv (x7 + 1)), (0, iv x0), (1, iv x1), (2, rfv (xd (zX Z)) x2), (3, iv x3), (4, iv x4), (5, lvv x5)] C dX2_coveredBy_48 rfl (by decide) rfl ?_
  refine mw_goto (tgt := 20) C dX2_coveredBy_51 (by decide) ?_
  refine mw_sub [1, 2, 3, 4, 5, 6, 0] rfl ?_
  exact hk20 x0 x1 x2 x3 x4 x5 (x7 + 1) hk_x2 _ _ hF
def F_X2_coveredBy_20 : Nat → Int → Int → Nat → Int → Int → Int → Int → MH → Option (Int × MH)
  | 0, _, _, _, _, _, _, _, _ => none
  | n + 1, x0, x1, x2, x3, x4, x5, x7, h =>
    ck (in32 x7) <|
    ck (in32 x3) <|
    if x3 ≤ x7 then
      ck (in32 (((x4 - 1) - x0) + x1)) <|
      ck (in32 x1) <|
      ck (x1 ≠ 0) <|
      nx (Int.tdiv (((x4 - 1) - x0) + x1) x1) fun v7 =>
      (F_J13_bitCount_95d88 x5 h).bind fun q8 =>
      ck (in32 q8.1) <|
      ck (in32 v7) <|
      if q8.1 ≠ v7 then
        some ((-1), q8.2)
      else
        some (x5, q8.2)
    else
      ck (0 ≤ x7 ∧ x7 < 60) <|
      ck (in32 x1) <|
      ck (in64 (h x2 x7.toNat)) <|
      ck (x1 ≠ 0) <|
      ck (in32 x0) <|
      ck (in64 (Int.tmod (h x2 x7.toNat) x1)) <|
      if (Int.tmod (h x2 x7.toNat) x1) ≠ x0 then
        F_X2_coveredBy_48 (F_X2_coveredBy_20 n) x0 x1 x2 x3 x4 x5 x7 h
      else
        nx (lor64 x5 (shl64 1 x7)) fun v19 =>
        F_X2_coveredBy_48 (F_X2_coveredBy_20 n) x0 x1 x2 x3 x4 v19 x7 h
set_option maxRecDepth 100000 in
theorem T_X2_coveredBy_20 {Z : ZT} (C : Cx Z cX2_coveredBy 8 RX2 2 (some .long)) : ∀ (n : Nat) (x0 : Int) (x1 : Int) (x2 : Nat) (x3 : Int) (x4 : Int) (x5 : Int) (x7 : Int) (hk_x2 : zK x2 = (22, 60) ∧ x2 < zN ∧ 60 < 2147483648) (h : MH) (t : (Int × MH)), F_X2_coveredBy_20 n x0 x1 x2 x3 x4 x5 x7 h = some t → MW Z (Qm Z (some (lvv t.1)) zN zG t.2 0 0) 8 zN zG h 0 0 20 [(0, iv x0), (1, iv x1), (2, rfv (xd (zX Z)) x2), (3, iv x3), (4, iv x4), (5, lvv x5), (7, iv x7)] [] := by
  intro n
  induction n with
  | zero =>
    intros
    rename_i hF
    exact absurd hF (by intro q; cases q)
  | succ n ih =>
    intro x0 x1 x2 x3 x4 x5 x7 hk_x2 h t hF
    rw [F_X2_coveredBy_20] at hF
    refine mw_iload 6 C dX2_coveredBy_20 rfl ?_
    refine mw_iload_n 3 C dX2_coveredBy_22 rfl rfl ?_
    obtain ⟨g1, hF⟩ := ck_some hF
    obtain ⟨g2, hF⟩ := ck_some hF
    rcases ite_some hF with ⟨c3, hF⟩ | ⟨c3, hF⟩
    · refine mw_icmp_ge_t (tgt := 54) C dX2_coveredBy_23 (by decide) g1 g2 c3 ?_
      refine mw_iload 4 C dX2_coveredBy_54 rfl ?_
      refine mw_iconst C dX2_coveredBy_56 ?_
      refine mw_isub C dX2_coveredBy_57 ?_
      refine mw_iload_n 0 C dX2_coveredBy_58 rfl rfl ?_
      refine mw_isub C dX2_coveredBy_59 ?_
      refine mw_iload_n 1 C dX2_coveredBy_60 rfl rfl ?_
      refine mw_iadd C dX2_coveredBy_61 ?_
      refine mw_iload_n 1 C dX2_coveredBy_62 rfl rfl ?_
      obtain ⟨g4, hF⟩ := ck_some hF
      obtain ⟨g5, hF⟩ := ck_some hF
      obtain ⟨g6, hF⟩ := ck_some hF
      refine mw_idiv C dX2_coveredBy_63 g4 g5 g6 ?_
      obtain ⟨v7, ev7, hF⟩ := nx_some hF
      refine mw_ti ev7 ?_
      refine mw_istore [(7, iv v7), (0, iv x0), (1, iv x1), (2, rfv (xd (zX Z)) x2), (3, iv x3), (4, iv x4), (5, lvv x5)] C dX2_coveredBy_64 (by decide) rfl ?_
      refine mw_lload 6 C dX2_coveredBy_66 rfl ?_
      obtain ⟨q8, hq8, hF⟩ := bind_some hF
      refine mw_callS [lvv x5] [] C dX2_coveredBy_68 (T_J13_bitCount_95d88 (zl Z) (zX Z) x5 _ _ hq8) rfl wd767 wd768 wd21 wd769 hd_J13_bitCount_95d88 rfl (by decide) (by decide) (Nat.le_of_ble_eq_true rfl) ⟨Nat.zero_le _, Nat.zero_le _⟩ ?_
      refine mw_iload 0 C dX2_coveredBy_71 rfl ?_
      obtain ⟨g9, hF⟩ := ck_some hF
      obtain ⟨g10, hF⟩ := ck_some hF
      rcases ite_some hF with ⟨c11, hF⟩ | ⟨c11, hF⟩
      · refine mw_icmp_ne_t (tgt := 81) C dX2_coveredBy_73 (by decide) g9 g10 c11 ?_
        refine mw_ldc2 (a := (-1)) C dX2_coveredBy_81 wd766 rfl ?_
        cases hF
        exact mw_lret C dX2_coveredBy_84 rfl rfl
      · refine mw_icmp_ne_f (tgt := 81) C dX2_coveredBy_73 (by decide) g9 g10 c11 ?_
        refine mw_lload 6 C dX2_coveredBy_76 rfl ?_
        refine mw_goto (tgt := 84) C dX2_coveredBy_78 (by decide) ?_
        cases hF
        exact mw_lret C dX2_coveredBy_84 rfl rfl
    · refine mw_icmp_ge_f (tgt := 54) C dX2_coveredBy_23 (by decide) g1 g2 c3 ?_
      refine mw_aload_n 2 C dX2_coveredBy_26 rfl rfl ?_
      refine mw_iload 6 C dX2_coveredBy_27 rfl ?_
      obtain ⟨g12, hF⟩ := ck_some hF
      refine mw_lald C dX2_coveredBy_29 hk_x2.2.1 hk_x2.1 hk_x2.2.2 g12 ?_
      refine mw_iload_n 1 C dX2_coveredBy_30 rfl rfl ?_
      obtain ⟨g13, hF⟩ := ck_some hF
      refine mw_i2l C dX2_coveredBy_31 g13 ?_
      obtain ⟨g14, hF⟩ := ck_some hF
      obtain ⟨g15, hF⟩ := ck_some hF
      refine mw_lrem C dX2_coveredBy_32 g14 (in64_of g13) g15 ?_
      refine mw_iload_n 0 C dX2_coveredBy_33 rfl rfl ?_
      obtain ⟨g16, hF⟩ := ck_some hF
      refine mw_i2l C dX2_coveredBy_34 g16 ?_
      obtain ⟨g17, hF⟩ := ck_some hF
      rcases ite_some hF with ⟨c18, hF⟩ | ⟨c18, hF⟩
      · refine mw_lcmp_ne_t (tgt := 48) C dX2_coveredBy_35 dX2_coveredBy_36 (by decide) g17 (in64_of g16) c18 ?_
        exact T_X2_coveredBy_48 C (F_X2_coveredBy_20 n) ih x0 x1 x2 x3 x4 x5 x7 hk_x2 _ _ hF
      · refine mw_lcmp_ne_f (tgt := 48) C dX2_coveredBy_35 dX2_coveredBy_36 (by decide) g17 (in64_of g16) c18 ?_
        refine mw_lload 5 C dX2_coveredBy_39 rfl ?_
        refine mw_lconst (a := 1) C dX2_coveredBy_41 lc_1 ?_
        refine mw_iload 6 C dX2_coveredBy_42 rfl ?_
        refine mw_lshl C dX2_coveredBy_44 ?_
        refine mw_lor C dX2_coveredBy_45 ?_
        obtain ⟨v19, ev19, hF⟩ := nx_some hF
        refine mw_tl ev19 ?_
        refine mw_lstore [(5, lvv v19), (0, iv x0), (1, iv x1), (2, rfv (xd (zX Z)) x2), (3, iv x3), (4, iv x4), (7, iv x7)] C dX2_coveredBy_46 (by decide) rfl ?_
        refine mw_sub [1, 2, 3, 4, 5, 0, 6] rfl ?_
        exact T_X2_coveredBy_48 C (F_X2_coveredBy_20 n) ih x0 x1 x2 x3 x4 v19 x7 hk_x2 _ _ hF
def F_X2_coveredBy_0 (x0 : Int) (x1 : Int) (x2 : Nat) (x3 : Int) (x4 : Int) (h : MH) : Option (Int × MH) :=
  ck (in32 x1) <|
  if x1 ≤ 1 then
    some ((-1), h)
  else
    ck (in32 x0) <|
    if x0 < x1 then
      F_X2_coveredBy_20 20000 x0 x1 x2 x3 x4 0 0 h
    else
      some ((-1), h)
set_option maxRecDepth 100000 in
theorem T_X2_coveredBy_0 {Z : ZT} (C : Cx Z cX2_coveredBy 8 RX2 2 (some .long)) (x0 : Int) (x1 : Int) (x2 : Nat) (x3 : Int) (x4 : Int) (hk_x2 : zK x2 = (22, 60) ∧ x2 < zN ∧ 60 < 2147483648) (h : MH) (t : (Int × MH)) (hF : F_X2_coveredBy_0 x0 x1 x2 x3 x4 h = some t) : MW Z (Qm Z (some (lvv t.1)) zN zG t.2 0 0) 8 zN zG h 0 0 0 [(0, iv x0), (1, iv x1), (2, rfv (xd (zX Z)) x2), (3, iv x3), (4, iv x4)] [] := by
  unfold F_X2_coveredBy_0 at hF
  refine mw_iload_n 1 C dX2_coveredBy_0 rfl rfl ?_
  refine mw_iconst C dX2_coveredBy_1 ?_
  obtain ⟨g1, hF⟩ := ck_some hF
  rcases ite_some hF with ⟨c2, hF⟩ | ⟨c2, hF⟩
  · refine mw_icmp_le_t (tgt := 10) C dX2_coveredBy_2 (by decide) g1 (by decide) c2 ?_
    refine mw_ldc2 (a := (-1)) C dX2_coveredBy_10 wd766 rfl ?_
    cases hF
    exact mw_lret C dX2_coveredBy_13 rfl rfl
  · refine mw_icmp_le_f (tgt := 10) C dX2_coveredBy_2 (by decide) g1 (by decide) c2 ?_
    refine mw_iload_n 0 C dX2_coveredBy_5 rfl rfl ?_
    refine mw_iload_n 1 C dX2_coveredBy_6 rfl rfl ?_
    obtain ⟨g3, hF⟩ := ck_some hF
    rcases ite_some hF with ⟨c4, hF⟩ | ⟨c4, hF⟩
    · refine mw_icmp_lt_t (tgt := 14) C dX2_coveredBy_7 (by decide) g3 g1 c4 ?_
      refine mw_lconst (a := 0) C dX2_coveredBy_14 lc_0 ?_
      refine mw_lstore [(5, lvv 0), (0, iv x0), (1, iv x1), (2, rfv (xd (zX Z)) x2), (3, iv x3), (4, iv x4)] C dX2_coveredBy_15 (by decide) rfl ?_
      refine mw_iconst C dX2_coveredBy_17 ?_
      refine mw_istore [(7, iv 0), (5, lvv 0), (0, iv x0), (1, iv x1), (2, rfv (xd (zX Z)) x2), (3, iv x3), (4, iv x4)] C dX2_coveredBy_18 (by decide) rfl ?_
      refine mw_sub [2, 3, 4, 5, 6, 1, 0] rfl ?_
      exact T_X2_coveredBy_20 C 20000 x0 x1 x2 x3 x4 0 0 hk_x2 _ _ hF
    · refine mw_icmp_lt_f (tgt := 14) C dX2_coveredBy_7 (by decide) g3 g1 c4 ?_
      refine mw_ldc2 (a := (-1)) C dX2_coveredBy_10 wd766 rfl ?_
      cases hF
      exact mw_lret C dX2_coveredBy_13 rfl rfl
def F_X2_coveredBy (x0 : Int) (x1 : Int) (x2 : Nat) (x3 : Int) (x4 : Int) (h : MH) : Option (Int × MH) := F_X2_coveredBy_0 x0 x1 x2 x3 x4 h
theorem T_X2_coveredBy (l : Launch) (X : XT) (x0 : Int) (x1 : Int) (x2 : Nat) (x3 : Int) (x4 : Int) (hk_x2 : zK x2 = (22, 60) ∧ x2 < zN ∧ 60 < 2147483648) (h : MH) (t : (Int × MH)) (hF : F_X2_coveredBy x0 x1 x2 x3 x4 h = some t) : Ct l X yX2_coveredBy cX2_coveredBy 8 (some .long) 2 [iv x0, iv x1, rfv (xd X) x2, iv x3, iv x4] zN zG h (some (lvv t.1)) zN zG t.2 0 0 := by
  refine Ct.head (by decide) (Nat.le_of_ble_eq_true rfl) (fun Z hX hl _ _ _ C => ?_)
  subst hX
  subst hl
  exact (T_X2_coveredBy_0 C x0 x1 x2 x3 x4 hk_x2 _ _ hF)
/-! BottleLine$HeadSearch.keeps(II)Z -/
def F_X2_keeps_0 (x1 : Int) (x2 : Int) (h : MH) : Option (Int × MH) :=
  ck (in32 x2) <|
  if x2 ≠ 0 then
    nx (hup h 73 1 x1) fun h3 =>
    nx (hup h3 73 2 x2) fun h4 =>
    some (1, h4)
  else
    some (0, h)
set_option maxRecDepth 100000 in
theorem T_X2_keeps_0 {Z : ZT} (C : Cx Z cX2_keeps 3 RX2 1 (some .boolean)) (x1 : Int) (x2 : Int) (h : MH) (t : (Int × MH)) (hF : F_X2_keeps_0 x1 x2 h = some t) : MW Z (Qm Z (some (iv t.1)) zN zG t.2 0 0) 3 zN zG h 0 0 0 [(0, rfv (xd (zX Z)) 73), (1, iv x1), (2, iv x2)] [] := by
  unfold F_X2_keeps_0 at hF
  refine mw_iload_n 2 C dX2_keeps_0 rfl rfl ?_
  obtain ⟨g1, hF⟩ := ck_some hF
  rcases ite_some hF with ⟨c2, hF⟩ | ⟨c2, hF⟩
  · refine mw_if_ne_t (tgt := 6) C dX2_keeps_1 (by decide) g1 c2 ?_
    refine mw_aload_n 0 C dX2_keeps_6 rfl rfl ?_
    refine mw_iload_n 1 C dX2_keeps_7 rfl rfl ?_
    obtain ⟨h3, eh3, hF⟩ := nx_some hF
    refine mw_put (k := 1) (T := TX2) (ty0 := tyX2) (x := x1) C dX2_keeps_8 zn73 zk73 (by decide) rfl inX2 tyX2_ok nmX2 (by decide) wd217 rfl rfl rfl rfl rfl (by decide) (mw_h eh3 ?_)
    refine mw_aload_n 0 C dX2_keeps_11 rfl rfl ?_
    refine mw_iload_n 2 C dX2_keeps_12 rfl rfl ?_
    obtain ⟨h4, eh4, hF⟩ := nx_some hF
    refine mw_put (k := 2) (T := TX2) (ty0 := tyX2) (x := x2) C dX2_keeps_13 zn73 zk73 (by decide) rfl inX2 tyX2_ok nmX2 (by decide) wd219 rfl rfl rfl rfl rfl (by decide) (mw_h eh4 ?_)
    refine mw_iconst C dX2_keeps_16 ?_
    cases hF
    exact mw_zret C dX2_keeps_17 (Or.inr rfl) rfl rfl
  · refine mw_if_ne_f (tgt := 6) C dX2_keeps_1 (by decide) g1 c2 ?_
    refine mw_iconst C dX2_keeps_4 ?_
    cases hF
    exact mw_zret C dX2_keeps_5 (Or.inl rfl) rfl rfl
def F_X2_keeps (x1 : Int) (x2 : Int) (h : MH) : Option (Int × MH) := F_X2_keeps_0 x1 x2 h
theorem T_X2_keeps (l : Launch) (X : XT) (x1 : Int) (x2 : Int) (h : MH) (t : (Int × MH)) (hF : F_X2_keeps x1 x2 h = some t) : Ct l X yX2_keeps cX2_keeps 3 (some .boolean) 1 [rfv (xd X) 73, iv x1, iv x2] zN zG h (some (iv t.1)) zN zG t.2 0 0 := by
  refine Ct.head (by decide) (Nat.le_of_ble_eq_true rfl) (fun Z hX hl _ _ _ C => ?_)
  subst hX
  subst hl
  exact (T_X2_keeps_0 C x1 x2 _ _ hF)
/-! BottleLine$HeadSearch.findsOne(J)Z -/
def F_X2_findsOne_45 (k5 : Int → Int → Int → MH → Option (Int × MH)) (x1 : Int) (x3 : Int) (x4 : Int) (h : MH) : Option (Int × MH) :=
  k5 x1 x3 (x4 + 1) h
set_option maxRecDepth 100000 in
theorem T_X2_findsOne_45 {Z : ZT} (C : Cx Z cX2_findsOne 5 RX2 2 (some .boolean)) (k5 : Int → Int → Int → MH → Option (Int × MH)) (hk5 : ∀ (x1 : Int) (x3 : Int) (x4 : Int) (h : MH) (t : (Int × MH)), k5 x1 x3 x4 h = some t → MW Z (Qm Z (some (iv t.1)) zN zG t.2 0 0) 5 zN zG h 0 0 5 [(0, rfv (xd (zX Z)) 73), (1, lvv x1), (3, iv x3), (4, iv x4)] []) (x1 : Int) (x3 : Int) (x4 : Int) (h : MH) (t : (Int × MH)) (hF : F_X2_findsOne_45 k5 x1 x3 x4 h = some t) : MW Z (Qm Z (some (iv t.1)) zN zG t.2 0 0) 5 zN zG h 0 0 45 [(0, rfv (xd (zX Z)) 73), (1, lvv x1), (3, iv x3), (4, iv x4)] [] := by
  unfold F_X2_findsOne_45 at hF
  refine mw_iinc 3 [(4, iv (x4 + 1)), (0, rfv (xd (zX Z)) 73), (1, lvv x1), (3, iv x3)] C dX2_findsOne_45 rfl (by decide) rfl ?_
  refine mw_goto (tgt := 5) C dX2_findsOne_48 (by decide) ?_
  refine mw_sub [1, 2, 3, 0] rfl ?_
  exact hk5 x1 x3 (x4 + 1) _ _ hF
def F_X2_findsOne_39 (k5 : Int → Int → Int → MH → Option (Int × MH)) (x1 : Int) (x3 : Int) (x4 : Int) (s1 : Int) (h : MH) : Option (Int × MH) :=
  nx (hup h 73 3 s1) fun h1 =>
  F_X2_findsOne_45 k5 x1 (x3 + 1) x4 h1
set_option maxRecDepth 100000 in
theorem T_X2_findsOne_39 {Z : ZT} (C : Cx Z cX2_findsOne 5 RX2 2 (some .boolean)) (k5 : Int → Int → Int → MH → Option (Int × MH)) (hk5 : ∀ (x1 : Int) (x3 : Int) (x4 : Int) (h : MH) (t : (Int × MH)), k5 x1 x3 x4 h = some t → MW Z (Qm Z (some (iv t.1)) zN zG t.2 0 0) 5 zN zG h 0 0 5 [(0, rfv (xd (zX Z)) 73), (1, lvv x1), (3, iv x3), (4, iv x4)] []) (x1 : Int) (x3 : Int) (x4 : Int) (s1 : Int) (h : MH) (t : (Int × MH)) (hF : F_X2_findsOne_39 k5 x1 x3 x4 s1 h = some t) : MW Z (Qm Z (some (iv t.1)) zN zG t.2 0 0) 5 zN zG h 0 0 39 [(0, rfv (xd (zX Z)) 73), (1, lvv x1), (3, iv x3), (4, iv x4)] [iv s1, rfv (xd (zX Z)) 73] := by
  unfold F_X2_findsOne_39 at hF
  obtain ⟨h1, eh1, hF⟩ := nx_some hF
  refine mw_put (k := 3) (T := TX2) (ty0 := tyX2) (x := s1) C dX2_findsOne_39 zn73 zk73 (by decide) rfl inX2 tyX2_ok nmX2 (by decide) wd221 rfl rfl rfl rfl rfl (by decide) (mw_h eh1 ?_)
  refine mw_iinc 2 [(3, iv (x3 + 1)), (0, rfv (xd (zX Z)) 73), (1, lvv x1), (4, iv x4)] C dX2_findsOne_42 rfl (by decide) rfl ?_
  refine mw_sub [1, 2, 0, 3] rfl ?_
  exact T_X2_findsOne_45 C k5 hk5 x1 (x3 + 1) x4 _ _ hF
def F_X2_findsOne_5 : Nat → Int → Int → Int → MH → Option (Int × MH)
  | 0, _, _, _, _ => none
  | n + 1, x1, x3, x4, h =>
    ck (in32 x4) <|
    if 144 ≤ x4 then
      (F_X2_keeps 1 x3 h).bind fun q3 =>
      ck (q3.1 = 0 ∨ q3.1 = 1) <|
      some (q3.1, q3.2)
    else
      ck (0 ≤ x4 ∧ x4 < 144) <|
      ck (in64 (h 74 x4.toNat)) <|
      ck (in64 x1) <|
      if (h 74 x4.toNat) ≠ x1 then
        F_X2_findsOne_45 (F_X2_findsOne_5 n) x1 x3 x4 h
      else
        ck (in32 x3) <|
        if x3 ≠ 0 then
          F_X2_findsOne_39 (F_X2_findsOne_5 n) x1 x3 x4 (h 73 3) h
        else
          F_X2_findsOne_39 (F_X2_findsOne_5 n) x1 x3 x4 x4 h
set_option maxRecDepth 100000 in
theorem T_X2_findsOne_5 {Z : ZT} (C : Cx Z cX2_findsOne 5 RX2 2 (some .boolean)) : ∀ (n : Nat) (x1 : Int) (x3 : Int) (x4 : Int) (h : MH) (t : (Int × MH)), F_X2_findsOne_5 n x1 x3 x4 h = some t → MW Z (Qm Z (some (iv t.1)) zN zG t.2 0 0) 5 zN zG h 0 0 5 [(0, rfv (xd (zX Z)) 73), (1, lvv x1), (3, iv x3), (4, iv x4)] [] := by
  intro n
  induction n with
  | zero =>
    intros
    rename_i hF
    exact absurd hF (by intro q; cases q)
  | succ n ih =>
    intro x1 x3 x4 h t hF
    rw [F_X2_findsOne_5] at hF
    refine mw_iload 3 C dX2_findsOne_5 rfl ?_
    refine mw_sipush C dX2_findsOne_7 sp_144 ?_
    obtain ⟨g1, hF⟩ := ck_some hF
    rcases ite_some hF with ⟨c2, hF⟩ | ⟨c2, hF⟩
    · refine mw_icmp_ge_t (tgt := 51) C dX2_findsOne_10 (by decide) g1 (by decide) c2 ?_
      refine mw_aload_n 0 C dX2_findsOne_51 rfl rfl ?_
      refine mw_iconst C dX2_findsOne_52 ?_
      refine mw_iload_n 2 C dX2_findsOne_53 rfl rfl ?_
      obtain ⟨q3, hq3, hF⟩ := bind_some hF
      refine mw_callV (c := 73) [iv 1, iv x3] [] C dX2_findsOne_54 (T_X2_keeps (zl Z) (zX Z) 1 x3 _ _ hq3) rfl zn73 zk73 (by decide) rfl wd776 wd777 wd1351 wd10 wd778 hd_X2_keeps rfl (by decide) (by decide) (Nat.le_of_ble_eq_true rfl) ⟨Nat.zero_le _, Nat.zero_le _⟩ ?_
      obtain ⟨g4, hF⟩ := ck_some hF
      cases hF
      exact mw_zret C dX2_findsOne_57 g4 rfl rfl
    · refine mw_icmp_ge_f (tgt := 51) C dX2_findsOne_10 (by decide) g1 (by decide) c2 ?_
      refine mw_aload_n 0 C dX2_findsOne_13 rfl rfl ?_
      refine mw_get (k := 0) (T := TX2) (v := rfv (xd (zX Z)) 74) C dX2_findsOne_14 zn73 zk73 (by decide) rfl inX2 (by decide) wd216 rfl (zfv_r rfl zg_73_0) ?_
      refine mw_iload 3 C dX2_findsOne_17 rfl ?_
      obtain ⟨g5, hF⟩ := ck_some hF
      refine mw_lald C dX2_findsOne_19 zn74 zk74 (by decide) g5 ?_
      refine mw_lload_n 1 C dX2_findsOne_20 rfl rfl ?_
      obtain ⟨g6, hF⟩ := ck_some hF
      obtain ⟨g7, hF⟩ := ck_some hF
      rcases ite_some hF with ⟨c8, hF⟩ | ⟨c8, hF⟩
      · refine mw_lcmp_ne_t (tgt := 45) C dX2_findsOne_21 dX2_findsOne_22 (by decide) g6 g7 c8 ?_
        exact T_X2_findsOne_45 C (F_X2_findsOne_5 n) ih x1 x3 x4 _ _ hF
      · refine mw_lcmp_ne_f (tgt := 45) C dX2_findsOne_21 dX2_findsOne_22 (by decide) g6 g7 c8 ?_
        refine mw_aload_n 0 C dX2_findsOne_25 rfl rfl ?_
        refine mw_iload_n 2 C dX2_findsOne_26 rfl rfl ?_
        obtain ⟨g9, hF⟩ := ck_some hF
        rcases ite_some hF with ⟨c10, hF⟩ | ⟨c10, hF⟩
        · refine mw_if_ne_t (tgt := 35) C dX2_findsOne_27 (by decide) g9 c10 ?_
          refine mw_aload_n 0 C dX2_findsOne_35 rfl rfl ?_
          refine mw_get (k := 3) (T := TX2) (v := iv (h 73 3)) C dX2_findsOne_36 zn73 zk73 (by decide) rfl inX2 (by decide) wd221 rfl rfl ?_
          exact T_X2_findsOne_39 C (F_X2_findsOne_5 n) ih x1 x3 x4 (h 73 3) _ _ hF
        · refine mw_if_ne_f (tgt := 35) C dX2_findsOne_27 (by decide) g9 c10 ?_
          refine mw_iload 3 C dX2_findsOne_30 rfl ?_
          refine mw_goto (tgt := 39) C dX2_findsOne_32 (by decide) ?_
          exact T_X2_findsOne_39 C (F_X2_findsOne_5 n) ih x1 x3 x4 x4 _ _ hF
def F_X2_findsOne_0 (x1 : Int) (h : MH) : Option (Int × MH) :=
  F_X2_findsOne_5 20000 x1 0 0 h
set_option maxRecDepth 100000 in
theorem T_X2_findsOne_0 {Z : ZT} (C : Cx Z cX2_findsOne 5 RX2 2 (some .boolean)) (x1 : Int) (h : MH) (t : (Int × MH)) (hF : F_X2_findsOne_0 x1 h = some t) : MW Z (Qm Z (some (iv t.1)) zN zG t.2 0 0) 5 zN zG h 0 0 0 [(0, rfv (xd (zX Z)) 73), (1, lvv x1)] [] := by
  unfold F_X2_findsOne_0 at hF
  refine mw_iconst C dX2_findsOne_0 ?_
  refine mw_istore_n [(3, iv 0), (0, rfv (xd (zX Z)) 73), (1, lvv x1)] C dX2_findsOne_1 rfl (by decide) rfl ?_
  refine mw_iconst C dX2_findsOne_2 ?_
  refine mw_istore [(4, iv 0), (3, iv 0), (0, rfv (xd (zX Z)) 73), (1, lvv x1)] C dX2_findsOne_3 (by decide) rfl ?_
  refine mw_sub [2, 3, 1, 0] rfl ?_
  exact T_X2_findsOne_5 C 20000 x1 0 0 _ _ hF
def F_X2_findsOne (x1 : Int) (h : MH) : Option (Int × MH) := F_X2_findsOne_0 x1 h
theorem T_X2_findsOne (l : Launch) (X : XT) (x1 : Int) (h : MH) (t : (Int × MH)) (hF : F_X2_findsOne x1 h = some t) : Ct l X yX2_findsOne cX2_findsOne 5 (some .boolean) 2 [rfv (xd X) 73, lvv x1] zN zG h (some (iv t.1)) zN zG t.2 0 0 := by
  refine Ct.head (by decide) (Nat.le_of_ble_eq_true rfl) (fun Z hX hl _ _ _ C => ?_)
  subst hX
  subst hl
  exact (T_X2_findsOne_0 C x1 _ _ hF)
/-! BottleLine$HeadSearch.findsTwo(J)Z -/
def F_X2_findsTwo_118 (k5 : Int → Int → Int → MH → Option (Int × MH)) (x1 : Int) (x3 : Int) (x4 : Int) (h : MH) : Option (Int × MH) :=
  k5 x1 x3 (x4 + 1) h
set_option maxRecDepth 100000 in
theorem T_X2_findsTwo_118 {Z : ZT} (C : Cx Z cX2_findsTwo 6 RX2 2 (some .boolean)) (k5 : Int → Int → Int → MH → Option (Int × MH)) (hk5 : ∀ (x1 : Int) (x3 : Int) (x4 : Int) (h : MH) (t : (Int × MH)), k5 x1 x3 x4 h = some t → MW Z (Qm Z (some (iv t.1)) zN zG t.2 0 0) 6 zN zG h 0 0 5 [(0, rfv (xd (zX Z)) 73), (1, lvv x1), (3, iv x3), (4, iv x4)] []) (x1 : Int) (x3 : Int) (x4 : Int) (h : MH) (t : (Int × MH)) (hF : F_X2_findsTwo_118 k5 x1 x3 x4 h = some t) : MW Z (Qm Z (some (iv t.1)) zN zG t.2 0 0) 6 zN zG h 0 0 118 [(0, rfv (xd (zX Z)) 73), (1, lvv x1), (3, iv x3), (4, iv x4)] [] := by
  unfold F_X2_findsTwo_118 at hF
  refine mw_iinc 3 [(4, iv (x4 + 1)), (0, rfv (xd (zX Z)) 73), (1, lvv x1), (3, iv x3)] C dX2_findsTwo_118 rfl (by decide) rfl ?_
  refine mw_goto (tgt := 5) C dX2_findsTwo_121 (by decide) ?_
  refine mw_sub [1, 2, 3, 0] rfl ?_
  exact hk5 x1 x3 (x4 + 1) _ _ hF
def F_X2_findsTwo_112 (k5 : Int → Int → Int → MH → Option (Int × MH)) (k19 : Int → Int → Int → Int → MH → Option (Int × MH)) (x1 : Int) (x3 : Int) (x4 : Int) (x5 : Int) (h : MH) : Option (Int × MH) :=
  k19 x1 x3 x4 (x5 + 1) h
set_option maxRecDepth 100000 in
theorem T_X2_findsTwo_112 {Z : ZT} (C : Cx Z cX2_findsTwo 6 RX2 2 (some .boolean)) (k5 : Int → Int → Int → MH → Option (Int × MH)) (hk5 : ∀ (x1 : Int) (x3 : Int) (x4 : Int) (h : MH) (t : (Int × MH)), k5 x1 x3 x4 h = some t → MW Z (Qm Z (some (iv t.1)) zN zG t.2 0 0) 6 zN zG h 0 0 5 [(0, rfv (xd (zX Z)) 73), (1, lvv x1), (3, iv x3), (4, iv x4)] []) (k19 : Int → Int → Int → Int → MH → Option (Int × MH)) (hk19 : ∀ (x1 : Int) (x3 : Int) (x4 : Int) (x5 : Int) (h : MH) (t : (Int × MH)), k19 x1 x3 x4 x5 h = some t → MW Z (Qm Z (some (iv t.1)) zN zG t.2 0 0) 6 zN zG h 0 0 19 [(0, rfv (xd (zX Z)) 73), (1, lvv x1), (3, iv x3), (4, iv x4), (5, iv x5)] []) (x1 : Int) (x3 : Int) (x4 : Int) (x5 : Int) (h : MH) (t : (Int × MH)) (hF : F_X2_findsTwo_112 k5 k19 x1 x3 x4 x5 h = some t) : MW Z (Qm Z (some (iv t.1)) zN zG t.2 0 0) 6 zN zG h 0 0 112 [(0, rfv (xd (zX Z)) 73), (1, lvv x1), (3, iv x3), (4, iv x4), (5, iv x5)] [] := by
  unfold F_X2_findsTwo_112 at hF
  refine mw_iinc 4 [(5, iv (x5 + 1)), (0, rfv (xd (zX Z)) 73), (1, lvv x1), (3, iv x3), (4, iv x4)] C dX2_findsTwo_112 rfl (by decide) rfl ?_
  refine mw_goto (tgt := 19) C dX2_findsTwo_115 (by decide) ?_
  refine mw_sub [1, 2, 3, 4, 0] rfl ?_
  exact hk19 x1 x3 x4 (x5 + 1) _ _ hF
def F_X2_findsTwo_106 (k5 : Int → Int → Int → MH → Option (Int × MH)) (k19 : Int → Int → Int → Int → MH → Option (Int × MH)) (x1 : Int) (x3 : Int) (x4 : Int) (x5 : Int) (s1 : Int) (h : MH) : Option (Int × MH) :=
  nx (hup h 73 4 s1) fun h1 =>
  F_X2_findsTwo_112 k5 k19 x1 (x3 + 1) x4 x5 h1
set_option maxRecDepth 100000 in
theorem T_X2_findsTwo_106 {Z : ZT} (C : Cx Z cX2_findsTwo 6 RX2 2 (some .boolean)) (k5 : Int → Int → Int → MH → Option (Int × MH)) (hk5 : ∀ (x1 : Int) (x3 : Int) (x4 : Int) (h : MH) (t : (Int × MH)), k5 x1 x3 x4 h = some t → MW Z (Qm Z (some (iv t.1)) zN zG t.2 0 0) 6 zN zG h 0 0 5 [(0, rfv (xd (zX Z)) 73), (1, lvv x1), (3, iv x3), (4, iv x4)] []) (k19 : Int → Int → Int → Int → MH → Option (Int × MH)) (hk19 : ∀ (x1 : Int) (x3 : Int) (x4 : Int) (x5 : Int) (h : MH) (t : (Int × MH)), k19 x1 x3 x4 x5 h = some t → MW Z (Qm Z (some (iv t.1)) zN zG t.2 0 0) 6 zN zG h 0 0 19 [(0, rfv (xd (zX Z)) 73), (1, lvv x1), (3, iv x3), (4, iv x4), (5, iv x5)] []) (x1 : Int) (x3 : Int) (x4 : Int) (x5 : Int) (s1 : Int) (h : MH) (t : (Int × MH)) (hF : F_X2_findsTwo_106 k5 k19 x1 x3 x4 x5 s1 h = some t) : MW Z (Qm Z (some (iv t.1)) zN zG t.2 0 0) 6 zN zG h 0 0 106 [(0, rfv (xd (zX Z)) 73), (1, lvv x1), (3, iv x3), (4, iv x4), (5, iv x5)] [iv s1, rfv (xd (zX Z)) 73] := by
  unfold F_X2_findsTwo_106 at hF
  obtain ⟨h1, eh1, hF⟩ := nx_some hF
  refine mw_put (k := 4) (T := TX2) (ty0 := tyX2) (x := s1) C dX2_findsTwo_106 zn73 zk73 (by decide) rfl inX2 tyX2_ok nmX2 (by decide) wd223 rfl rfl rfl rfl rfl (by decide) (mw_h eh1 ?_)
  refine mw_iinc 2 [(3, iv (x3 + 1)), (0, rfv (xd (zX Z)) 73), (1, lvv x1), (4, iv x4), (5, iv x5)] C dX2_findsTwo_109 rfl (by decide) rfl ?_
  refine mw_sub [1, 2, 0, 3, 4] rfl ?_
  exact T_X2_findsTwo_112 C k5 hk5 k19 hk19 x1 (x3 + 1) x4 x5 _ _ hF
def F_X2_findsTwo_89 (k5 : Int → Int → Int → MH → Option (Int × MH)) (k19 : Int → Int → Int → Int → MH → Option (Int × MH)) (x1 : Int) (x3 : Int) (x4 : Int) (x5 : Int) (s1 : Int) (h : MH) : Option (Int × MH) :=
  nx (hup h 73 3 s1) fun h1 =>
  ck (in32 x3) <|
  if x3 ≠ 0 then
    F_X2_findsTwo_106 k5 k19 x1 x3 x4 x5 (h1 73 4) h1
  else
    F_X2_findsTwo_106 k5 k19 x1 x3 x4 x5 x5 h1
set_option maxRecDepth 100000 in
theorem T_X2_findsTwo_89 {Z : ZT} (C : Cx Z cX2_findsTwo 6 RX2 2 (some .boolean)) (k5 : Int → Int → Int → MH → Option (Int × MH)) (hk5 : ∀ (x1 : Int) (x3 : Int) (x4 : Int) (h : MH) (t : (Int × MH)), k5 x1 x3 x4 h = some t → MW Z (Qm Z (some (iv t.1)) zN zG t.2 0 0) 6 zN zG h 0 0 5 [(0, rfv (xd (zX Z)) 73), (1, lvv x1), (3, iv x3), (4, iv x4)] []) (k19 : Int → Int → Int → Int → MH → Option (Int × MH)) (hk19 : ∀ (x1 : Int) (x3 : Int) (x4 : Int) (x5 : Int) (h : MH) (t : (Int × MH)), k19 x1 x3 x4 x5 h = some t → MW Z (Qm Z (some (iv t.1)) zN zG t.2 0 0) 6 zN zG h 0 0 19 [(0, rfv (xd (zX Z)) 73), (1, lvv x1), (3, iv x3), (4, iv x4), (5, iv x5)] []) (x1 : Int) (x3 : Int) (x4 : Int) (x5 : Int) (s1 : Int) (h : MH) (t : (Int × MH)) (hF : F_X2_findsTwo_89 k5 k19 x1 x3 x4 x5 s1 h = some t) : MW Z (Qm Z (some (iv t.1)) zN zG t.2 0 0) 6 zN zG h 0 0 89 [(0, rfv (xd (zX Z)) 73), (1, lvv x1), (3, iv x3), (4, iv x4), (5, iv x5)] [iv s1, rfv (xd (zX Z)) 73] := by
  unfold F_X2_findsTwo_89 at hF
  obtain ⟨h1, eh1, hF⟩ := nx_some hF
  refine mw_put (k := 3) (T := TX2) (ty0 := tyX2) (x := s1) C dX2_findsTwo_89 zn73 zk73 (by decide) rfl inX2 tyX2_ok nmX2 (by decide) wd221 rfl rfl rfl rfl rfl (by decide) (mw_h eh1 ?_)
  refine mw_aload_n 0 C dX2_findsTwo_92 rfl rfl ?_
  refine mw_iload_n 2 C dX2_findsTwo_93 rfl rfl ?_
  obtain ⟨g2, hF⟩ := ck_some hF
  rcases ite_some hF with ⟨c3, hF⟩ | ⟨c3, hF⟩
  · refine mw_if_ne_t (tgt := 102) C dX2_findsTwo_94 (by decide) g2 c3 ?_
    refine mw_aload_n 0 C dX2_findsTwo_102 rfl rfl ?_
    refine mw_get (k := 4) (T := TX2) (v := iv (h1 73 4)) C dX2_findsTwo_103 zn73 zk73 (by decide) rfl inX2 (by decide) wd223 rfl rfl ?_
    exact T_X2_findsTwo_106 C k5 hk5 k19 hk19 x1 x3 x4 x5 (h1 73 4) _ _ hF
  · refine mw_if_ne_f (tgt := 102) C dX2_findsTwo_94 (by decide) g2 c3 ?_
    refine mw_iload 4 C dX2_findsTwo_97 rfl ?_
    refine mw_goto (tgt := 106) C dX2_findsTwo_99 (by decide) ?_
    exact T_X2_findsTwo_106 C k5 hk5 k19 hk19 x1 x3 x4 x5 x5 _ _ hF
def F_X2_findsTwo_19 (k5 : Int → Int → Int → MH → Option (Int × MH)) : Nat → Int → Int → Int → Int → MH → Option (Int × MH)
  | 0, _, _, _, _, _ => none
  | n + 1, x1, x3, x4, x5, h =>
    ck (0 ≤ x4 ∧ x4 < 144) <|
    ck (in64 (h 74 x4.toNat)) <|
    if (h 74 x4.toNat) = (-1) then
      F_X2_findsTwo_118 k5 x1 x3 x4 h
    else
      ck (in32 x5) <|
      if 144 ≤ x5 then
        F_X2_findsTwo_118 k5 x1 x3 x4 h
      else
        ck (0 ≤ x5 ∧ x5 < 144) <|
        ck (in64 (h 74 x5.toNat)) <|
        if (h 74 x5.toNat) = (-1) then
          F_X2_findsTwo_112 k5 (F_X2_findsTwo_19 k5 n) x1 x3 x4 x5 h
        else
          ck (in64 (lor64 (h 74 x4.toNat) (h 74 x5.toNat))) <|
          ck (in64 x1) <|
          if (lor64 (h 74 x4.toNat) (h 74 x5.toNat)) ≠ x1 then
            F_X2_findsTwo_112 k5 (F_X2_findsTwo_19 k5 n) x1 x3 x4 x5 h
          else
            ck (in32 x3) <|
            if x3 ≠ 0 then
              F_X2_findsTwo_89 k5 (F_X2_findsTwo_19 k5 n) x1 x3 x4 x5 (h 73 3) h
            else
              F_X2_findsTwo_89 k5 (F_X2_findsTwo_19 k5 n) x1 x3 x4 x5 x4 h
set_option maxRecDepth 100000 in
theorem T_X2_findsTwo_19 {Z : ZT} (C : Cx Z cX2_findsTwo 6 RX2 2 (some .boolean)) (k5 : Int → Int → Int → MH → Option (Int × MH)) (hk5 : ∀ (x1 : Int) (x3 : Int) (x4 : Int) (h : MH) (t : (Int × MH)), k5 x1 x3 x4 h = some t → MW Z (Qm Z (some (iv t.1)) zN zG t.2 0 0) 6 zN zG h 0 0 5 [(0, rfv (xd (zX Z)) 73), (1, lvv x1), (3, iv x3), (4, iv x4)] []) : ∀ (n : Nat) (x1 : Int) (x3 : Int) (x4 : Int) (x5 : Int) (h : MH) (t : (Int × MH)), F_X2_findsTwo_19 k5 n x1 x3 x4 x5 h = some t → MW Z (Qm Z (some (iv t.1)) zN zG t.2 0 0) 6 zN zG h 0 0 19 [(0, rfv (xd (zX Z)) 73), (1, lvv x1), (3, iv x3), (4, iv x4), (5, iv x5)] [] := by
  intro n
  induction n with
  | zero =>
    intros
    rename_i hF
    exact absurd hF (by intro q; cases q)
  | succ n ih =>
    intro x1 x3 x4 x5 h t hF
    rw [F_X2_findsTwo_19] at hF
    refine mw_aload_n 0 C dX2_findsTwo_19 rfl rfl ?_
    refine mw_get (k := 0) (T := TX2) (v := rfv (xd (zX Z)) 74) C dX2_findsTwo_20 zn73 zk73 (by decide) rfl inX2 (by decide) wd216 rfl (zfv_r rfl zg_73_0) ?_
    refine mw_iload 3 C dX2_findsTwo_23 rfl ?_
    obtain ⟨g1, hF⟩ := ck_some hF
    refine mw_lald C dX2_findsTwo_25 zn74 zk74 (by decide) g1 ?_
    refine mw_ldc2 (a := (-1)) C dX2_findsTwo_26 wd766 rfl ?_
    obtain ⟨g2, hF⟩ := ck_some hF
    rcases ite_some hF with ⟨c3, hF⟩ | ⟨c3, hF⟩
    · refine mw_lcmp_eq_t (tgt := 118) C dX2_findsTwo_29 dX2_findsTwo_30 (by decide) g2 (by decide) c3 ?_
      refine mw_sub [0, 1, 2, 3] rfl ?_
      exact T_X2_findsTwo_118 C k5 hk5 x1 x3 x4 _ _ hF
    · refine mw_lcmp_eq_f (tgt := 118) C dX2_findsTwo_29 dX2_findsTwo_30 (by decide) g2 (by decide) c3 ?_
      refine mw_iload 4 C dX2_findsTwo_33 rfl ?_
      refine mw_sipush C dX2_findsTwo_35 sp_144 ?_
      obtain ⟨g4, hF⟩ := ck_some hF
      rcases ite_some hF with ⟨c5, hF⟩ | ⟨c5, hF⟩
      · refine mw_icmp_ge_t (tgt := 118) C dX2_findsTwo_38 (by decide) g4 (by decide) c5 ?_
        refine mw_sub [0, 1, 2, 3] rfl ?_
        exact T_X2_findsTwo_118 C k5 hk5 x1 x3 x4 _ _ hF
      · refine mw_icmp_ge_f (tgt := 118) C dX2_findsTwo_38 (by decide) g4 (by decide) c5 ?_
        refine mw_aload_n 0 C dX2_findsTwo_41 rfl rfl ?_
        refine mw_get (k := 0) (T := TX2) (v := rfv (xd (zX Z)) 74) C dX2_findsTwo_42 zn73 zk73 (by decide) rfl inX2 (by decide) wd216 rfl (zfv_r rfl zg_73_0) ?_
        refine mw_iload 4 C dX2_findsTwo_45 rfl ?_
        obtain ⟨g6, hF⟩ := ck_some hF
        refine mw_lald C dX2_findsTwo_47 zn74 zk74 (by decide) g6 ?_
        refine mw_ldc2 (a := (-1)) C dX2_findsTwo_48 wd766 rfl ?_
        obtain ⟨g7, hF⟩ := ck_some hF
        rcases ite_some hF with ⟨c8, hF⟩ | ⟨c8, hF⟩
        · refine mw_lcmp_eq_t (tgt := 112) C dX2_findsTwo_51 dX2_findsTwo_52 (by decide) g7 (by decide) c8 ?_
          exact T_X2_findsTwo_112 C k5 hk5 (F_X2_findsTwo_19 k5 n) ih x1 x3 x4 x5 _ _ hF
        · refine mw_lcmp_eq_f (tgt := 112) C dX2_findsTwo_51 dX2_findsTwo_52 (by decide) g7 (by decide) c8 ?_
          refine mw_aload_n 0 C dX2_findsTwo_55 rfl rfl ?_
          refine mw_get (k := 0) (T := TX2) (v := rfv (xd (zX Z)) 74) C dX2_findsTwo_56 zn73 zk73 (by decide) rfl inX2 (by decide) wd216 rfl (zfv_r rfl zg_73_0) ?_
          refine mw_iload 3 C dX2_findsTwo_59 rfl ?_
          refine mw_lald C dX2_findsTwo_61 zn74 zk74 (by decide) g1 ?_
          refine mw_aload_n 0 C dX2_findsTwo_62 rfl rfl ?_
          refine mw_get (k := 0) (T := TX2) (v := rfv (xd (zX Z)) 74) C dX2_findsTwo_63 zn73 zk73 (by decide) rfl inX2 (by decide) wd216 rfl (zfv_r rfl zg_73_0) ?_
          refine mw_iload 4 C dX2_findsTwo_66 rfl ?_
          refine mw_lald C dX2_findsTwo_68 zn74 zk74 (by decide) g6 ?_
          refine mw_lor C dX2_findsTwo_69 ?_
          refine mw_lload_n 1 C dX2_findsTwo_70 rfl rfl ?_
          obtain ⟨g9, hF⟩ := ck_some hF
          obtain ⟨g10, hF⟩ := ck_some hF
          rcases ite_some hF with ⟨c11, hF⟩ | ⟨c11, hF⟩
          · refine mw_lcmp_ne_t (tgt := 112) C dX2_findsTwo_71 dX2_findsTwo_72 (by decide) g9 g10 c11 ?_
            exact T_X2_findsTwo_112 C k5 hk5 (F_X2_findsTwo_19 k5 n) ih x1 x3 x4 x5 _ _ hF
          · refine mw_lcmp_ne_f (tgt := 112) C dX2_findsTwo_71 dX2_findsTwo_72 (by decide) g9 g10 c11 ?_
            refine mw_aload_n 0 C dX2_findsTwo_75 rfl rfl ?_
            refine mw_iload_n 2 C dX2_findsTwo_76 rfl rfl ?_
            obtain ⟨g12, hF⟩ := ck_some hF
            rcases ite_some hF with ⟨c13, hF⟩ | ⟨c13, hF⟩
            · refine mw_if_ne_t (tgt := 85) C dX2_findsTwo_77 (by decide) g12 c13 ?_
              refine mw_aload_n 0 C dX2_findsTwo_85 rfl rfl ?_
              refine mw_get (k := 3) (T := TX2) (v := iv (h 73 3)) C dX2_findsTwo_86 zn73 zk73 (by decide) rfl inX2 (by decide) wd221 rfl rfl ?_
              exact T_X2_findsTwo_89 C k5 hk5 (F_X2_findsTwo_19 k5 n) ih x1 x3 x4 x5 (h 73 3) _ _ hF
            · refine mw_if_ne_f (tgt := 85) C dX2_findsTwo_77 (by decide) g12 c13 ?_
              refine mw_iload 3 C dX2_findsTwo_80 rfl ?_
              refine mw_goto (tgt := 89) C dX2_findsTwo_82 (by decide) ?_
              exact T_X2_findsTwo_89 C k5 hk5 (F_X2_findsTwo_19 k5 n) ih x1 x3 x4 x5 x4 _ _ hF
def F_X2_findsTwo_5 : Nat → Int → Int → Int → MH → Option (Int × MH)
  | 0, _, _, _, _ => none
  | n + 1, x1, x3, x4, h =>
    ck (in32 x4) <|
    if 144 ≤ x4 then
      (F_X2_keeps 2 x3 h).bind fun q3 =>
      ck (q3.1 = 0 ∨ q3.1 = 1) <|
      some (q3.1, q3.2)
    else
      nx (x4 + 1) fun v5 =>
      F_X2_findsTwo_19 (F_X2_findsTwo_5 n) 20000 x1 x3 x4 v5 h
set_option maxRecDepth 100000 in
theorem T_X2_findsTwo_5 {Z : ZT} (C : Cx Z cX2_findsTwo 6 RX2 2 (some .boolean)) : ∀ (n : Nat) (x1 : Int) (x3 : Int) (x4 : Int) (h : MH) (t : (Int × MH)), F_X2_findsTwo_5 n x1 x3 x4 h = some t → MW Z (Qm Z (some (iv t.1)) zN zG t.2 0 0) 6 zN zG h 0 0 5 [(0, rfv (xd (zX Z)) 73), (1, lvv x1), (3, iv x3), (4, iv x4)] [] := by
  intro n
  induction n with
  | zero =>
    intros
    rename_i hF
    exact absurd hF (by intro q; cases q)
  | succ n ih =>
    intro x1 x3 x4 h t hF
    rw [F_X2_findsTwo_5] at hF
    refine mw_iload 3 C dX2_findsTwo_5 rfl ?_
    refine mw_sipush C dX2_findsTwo_7 sp_144 ?_
    obtain ⟨g1, hF⟩ := ck_some hF
    rcases ite_some hF with ⟨c2, hF⟩ | ⟨c2, hF⟩
    · refine mw_icmp_ge_t (tgt := 124) C dX2_findsTwo_10 (by decide) g1 (by decide) c2 ?_
      refine mw_aload_n 0 C dX2_findsTwo_124 rfl rfl ?_
      refine mw_iconst C dX2_findsTwo_125 ?_
      refine mw_iload_n 2 C dX2_findsTwo_126 rfl rfl ?_
      obtain ⟨q3, hq3, hF⟩ := bind_some hF
      refine mw_callV (c := 73) [iv 2, iv x3] [] C dX2_findsTwo_127 (T_X2_keeps (zl Z) (zX Z) 2 x3 _ _ hq3) rfl zn73 zk73 (by decide) rfl wd776 wd777 wd1351 wd10 wd778 hd_X2_keeps rfl (by decide) (by decide) (Nat.le_of_ble_eq_true rfl) ⟨Nat.zero_le _, Nat.zero_le _⟩ ?_
      obtain ⟨g4, hF⟩ := ck_some hF
      cases hF
      exact mw_zret C dX2_findsTwo_130 g4 rfl rfl
    · refine mw_icmp_ge_f (tgt := 124) C dX2_findsTwo_10 (by decide) g1 (by decide) c2 ?_
      refine mw_iload 3 C dX2_findsTwo_13 rfl ?_
      refine mw_iconst C dX2_findsTwo_15 ?_
      refine mw_iadd C dX2_findsTwo_16 ?_
      obtain ⟨v5, ev5, hF⟩ := nx_some hF
      refine mw_ti ev5 ?_
      refine mw_istore [(5, iv v5), (0, rfv (xd (zX Z)) 73), (1, lvv x1), (3, iv x3), (4, iv x4)] C dX2_findsTwo_17 (by decide) rfl ?_
      refine mw_sub [1, 2, 3, 4, 0] rfl ?_
      exact T_X2_findsTwo_19 C (F_X2_findsTwo_5 n) ih 20000 x1 x3 x4 v5 _ _ hF
def F_X2_findsTwo_0 (x1 : Int) (h : MH) : Option (Int × MH) :=
  F_X2_findsTwo_5 20000 x1 0 0 h
set_option maxRecDepth 100000 in
theorem T_X2_findsTwo_0 {Z : ZT} (C : Cx Z cX2_findsTwo 6 RX2 2 (some .boolean)) (x1 : Int) (h : MH) (t : (Int × MH)) (hF : F_X2_findsTwo_0 x1 h = some t) : MW Z (Qm Z (some (iv t.1)) zN zG t.2 0 0) 6 zN zG h 0 0 0 [(0, rfv (xd (zX Z)) 73), (1, lvv x1)] [] := by
  unfold F_X2_findsTwo_0 at hF
  refine mw_iconst C dX2_findsTwo_0 ?_
  refine mw_istore_n [(3, iv 0), (0, rfv (xd (zX Z)) 73), (1, lvv x1)] C dX2_findsTwo_1 rfl (by decide) rfl ?_
  refine mw_iconst C dX2_findsTwo_2 ?_
  refine mw_istore [(4, iv 0), (3, iv 0), (0, rfv (xd (zX Z)) 73), (1, lvv x1)] C dX2_findsTwo_3 (by decide) rfl ?_
  refine mw_sub [2, 3, 1, 0] rfl ?_
  exact T_X2_findsTwo_5 C 20000 x1 0 0 _ _ hF
def F_X2_findsTwo (x1 : Int) (h : MH) : Option (Int × MH) := F_X2_findsTwo_0 x1 h
theorem T_X2_findsTwo (l : Launch) (X : XT) (x1 : Int) (h : MH) (t : (Int × MH)) (hF : F_X2_findsTwo x1 h = some t) : Ct l X yX2_findsTwo cX2_findsTwo 6 (some .boolean) 2 [rfv (xd X) 73, lvv x1] zN zG h (some (iv t.1)) zN zG t.2 0 0 := by
  refine Ct.head (by decide) (Nat.le_of_ble_eq_true rfl) (fun Z hX hl _ _ _ C => ?_)
  subst hX
  subst hl
  exact (T_X2_findsTwo_0 C x1 _ _ hF)
/-! BottleLine$HeadSearch.finds(LBottleLine$Plan;[JII)Z -/
def F_X2_finds_19 : Nat → Nat → Nat → Int → Int → Int → MH → Option (Int × MH)
  | 0, _, _, _, _, _, _ => none
  | n + 1, x1, x2, x3, x4, x5, h =>
    ck (in32 x5) <|
    if 144 ≤ x5 then
      nx ((shl64 1 x3) - 1) fun v3 =>
      (F_X2_findsOne v3 h).bind fun q4 =>
      ck (in32 q4.1) <|
      if q4.1 ≠ 0 then
        some (1, q4.2)
      else
        (F_X2_findsTwo v3 q4.2).bind fun q7 =>
        ck (in32 q7.1) <|
        if q7.1 = 0 then
          some (0, q7.2)
        else
          some (1, q7.2)
    else
      (F_X2_headsAt x1 (Int.tdiv x5 24) h).bind fun q10 =>
      (F_X2_coveredBy (Int.tmod x5 24) q10.1 x2 x3 x4 q10.2).bind fun q11 =>
      ck (0 ≤ x5 ∧ x5 < 144) <|
      nx (hup q11.2 74 x5.toNat q11.1) fun h13 =>
      F_X2_finds_19 n x1 x2 x3 x4 (x5 + 1) h13
set_option maxRecDepth 100000 in
theorem T_X2_finds_19 {Z : ZT} (C : Cx Z cX2_finds 7 RX2 3 (some .boolean)) : ∀ (n : Nat) (x1 : Nat) (x2 : Nat) (x3 : Int) (x4 : Int) (x5 : Int) (hk_x1 : okX5 x1) (hk_x2 : zK x2 = (22, 60) ∧ x2 < zN ∧ 60 < 2147483648) (h : MH) (t : (Int × MH)), F_X2_finds_19 n x1 x2 x3 x4 x5 h = some t → MW Z (Qm Z (some (iv t.1)) zN zG t.2 0 0) 7 zN zG h 0 0 19 [(0, rfv (xd (zX Z)) 73), (1, rfv (xd (zX Z)) x1), (2, rfv (xd (zX Z)) x2), (3, iv x3), (4, iv x4), (5, iv x5)] [] := by
  intro n
  induction n with
  | zero =>
    intros
    rename_i hF
    exact absurd hF (by intro q; cases q)
  | succ n ih =>
    intro x1 x2 x3 x4 x5 hk_x1 hk_x2 h t hF
    rw [F_X2_finds_19] at hF
    refine mw_iload 5 C dX2_finds_19 rfl ?_
    refine mw_sipush C dX2_finds_21 sp_144 ?_
    obtain ⟨g1, hF⟩ := ck_some hF
    rcases ite_some hF with ⟨c2, hF⟩ | ⟨c2, hF⟩
    · refine mw_icmp_ge_t (tgt := 61) C dX2_finds_24 (by decide) g1 (by decide) c2 ?_
      refine mw_lconst (a := 1) C dX2_finds_61 lc_1 ?_
      refine mw_iload_n 3 C dX2_finds_62 rfl rfl ?_
      refine mw_lshl C dX2_finds_63 ?_
      refine mw_lconst (a := 1) C dX2_finds_64 lc_1 ?_
      refine mw_lsub C dX2_finds_65 ?_
      obtain ⟨v3, ev3, hF⟩ := nx_some hF
      refine mw_tl ev3 ?_
      refine mw_lstore [(5, lvv v3), (0, rfv (xd (zX Z)) 73), (1, rfv (xd (zX Z)) x1), (2, rfv (xd (zX Z)) x2), (3, iv x3), (4, iv x4)] C dX2_finds_66 (by decide) rfl ?_
      refine mw_aload_n 1 C dX2_finds_68 rfl rfl ?_
      refine mw_lload 0 C dX2_finds_69 rfl ?_
      obtain ⟨q4, hq4, hF⟩ := bind_some hF
      refine mw_callV (c := 73) [lvv v3] [] C dX2_finds_71 (T_X2_findsOne (zl Z) (zX Z) v3 _ _ hq4) rfl zn73 zk73 (by decide) rfl wd773 wd774 wd1350 wd10 wd775 hd_X2_findsOne rfl (by decide) (by decide) (Nat.le_of_ble_eq_true rfl) ⟨Nat.zero_le _, Nat.zero_le _⟩ ?_
      obtain ⟨g5, hF⟩ := ck_some hF
      rcases ite_some hF with ⟨c6, hF⟩ | ⟨c6, hF⟩
      · refine mw_if_ne_t (tgt := 86) C dX2_finds_74 (by decide) g5 c6 ?_
        refine mw_iconst C dX2_finds_86 ?_
        refine mw_goto (tgt := 91) C dX2_finds_87 (by decide) ?_
        cases hF
        exact mw_zret C dX2_finds_91 (Or.inr rfl) rfl rfl
      · refine mw_if_ne_f (tgt := 86) C dX2_finds_74 (by decide) g5 c6 ?_
        refine mw_aload_n 1 C dX2_finds_77 rfl rfl ?_
        refine mw_lload 0 C dX2_finds_78 rfl ?_
        obtain ⟨q7, hq7, hF⟩ := bind_some hF
        refine mw_callV (c := 73) [lvv v3] [] C dX2_finds_80 (T_X2_findsTwo (zl Z) (zX Z) v3 _ _ hq7) rfl zn73 zk73 (by decide) rfl wd779 wd780 wd1352 wd10 wd781 hd_X2_findsTwo rfl (by decide) (by decide) (Nat.le_of_ble_eq_true rfl) ⟨Nat.zero_le _, Nat.zero_le _⟩ ?_
        obtain ⟨g8, hF⟩ := ck_some hF
        rcases ite_some hF with ⟨c9, hF⟩ | ⟨c9, hF⟩
        · refine mw_if_eq_t (tgt := 90) C dX2_finds_83 (by decide) g8 c9 ?_
          refine mw_iconst C dX2_finds_90 ?_
          cases hF
          exact mw_zret C dX2_finds_91 (Or.inl rfl) rfl rfl
        · refine mw_if_eq_f (tgt := 90) C dX2_finds_83 (by decide) g8 c9 ?_
          refine mw_iconst C dX2_finds_86 ?_
          refine mw_goto (tgt := 91) C dX2_finds_87 (by decide) ?_
          cases hF
          exact mw_zret C dX2_finds_91 (Or.inr rfl) rfl rfl
    · refine mw_icmp_ge_f (tgt := 61) C dX2_finds_24 (by decide) g1 (by decide) c2 ?_
      refine mw_aload_n 0 C dX2_finds_27 rfl rfl ?_
      refine mw_get (k := 0) (T := TX2) (v := rfv (xd (zX Z)) 74) C dX2_finds_28 zn73 zk73 (by decide) rfl inX2 (by decide) wd216 rfl (zfv_r rfl zg_73_0) ?_
      refine mw_iload 5 C dX2_finds_31 rfl ?_
      refine mw_iload 5 C dX2_finds_33 rfl ?_
      refine mw_bipush C dX2_finds_35 bp_24 ?_
      refine mw_irem C dX2_finds_37 g1 (by decide) (by decide) ?_
      refine mw_aload_n 1 C dX2_finds_38 rfl rfl ?_
      refine mw_iload 5 C dX2_finds_39 rfl ?_
      refine mw_bipush C dX2_finds_41 bp_24 ?_
      refine mw_idiv C dX2_finds_43 g1 (by decide) (by decide) ?_
      obtain ⟨q10, hq10, hF⟩ := bind_some hF
      refine mw_callS [rfv (xd (zX Z)) x1, iv (Int.tdiv x5 24)] [iv (Int.tmod x5 24), iv x5, rfv (xd (zX Z)) 74] C dX2_finds_44 (T_X2_headsAt (zl Z) (zX Z) x1 (Int.tdiv x5 24) hk_x1 _ _ hq10) rfl wd760 wd761 wd10 wd762 hd_X2_headsAt rfl (by decide) (by decide) (Nat.le_of_ble_eq_true rfl) ⟨Nat.zero_le _, Nat.zero_le _⟩ ?_
      refine mw_aload_n 2 C dX2_finds_47 rfl rfl ?_
      refine mw_iload_n 3 C dX2_finds_48 rfl rfl ?_
      refine mw_iload 4 C dX2_finds_49 rfl ?_
      obtain ⟨q11, hq11, hF⟩ := bind_some hF
      refine mw_callS [iv (Int.tmod x5 24), iv q10.1, rfv (xd (zX Z)) x2, iv x3, iv x4] [iv x5, rfv (xd (zX Z)) 74] C dX2_finds_51 (T_X2_coveredBy (zl Z) (zX Z) (Int.tmod x5 24) q10.1 x2 x3 x4 hk_x2 _ _ hq11) rfl wd763 wd764 wd10 wd765 hd_X2_coveredBy rfl (by decide) (by decide) (Nat.le_of_ble_eq_true rfl) ⟨Nat.zero_le _, Nat.zero_le _⟩ ?_
      obtain ⟨g12, hF⟩ := ck_some hF
      obtain ⟨h13, eh13, hF⟩ := nx_some hF
      refine mw_last C dX2_finds_54 zn74 zk74 (by decide) g12 (mw_h eh13 ?_)
      refine mw_iinc 5 [(5, iv (x5 + 1)), (0, rfv (xd (zX Z)) 73), (1, rfv (xd (zX Z)) x1), (2, rfv (xd (zX Z)) x2), (3, iv x3), (4, iv x4)] C dX2_finds_55 rfl (by decide) rfl ?_
      refine mw_goto (tgt := 19) C dX2_finds_58 (by decide) ?_
      refine mw_sub [1, 2, 3, 4, 5, 0] rfl ?_
      exact ih x1 x2 x3 x4 (x5 + 1) hk_x1 hk_x2 _ _ hF
def F_X2_finds_0 (x1 : Nat) (x2 : Nat) (x3 : Int) (x4 : Int) (h : MH) : Option (Int × MH) :=
  ck (in32 x3) <|
  if x3 ≠ 0 then
    F_X2_finds_19 20000 x1 x2 x3 x4 0 h
  else
    nx (hup h 73 1 0) fun h3 =>
    nx (hup h3 73 2 1) fun h4 =>
    some (1, h4)
set_option maxRecDepth 100000 in
theorem T_X2_finds_0 {Z : ZT} (C : Cx Z cX2_finds 7 RX2 3 (some .boolean)) (x1 : Nat) (x2 : Nat) (x3 : Int) (x4 : Int) (hk_x1 : okX5 x1) (hk_x2 : zK x2 = (22, 60) ∧ x2 < zN ∧ 60 < 2147483648) (h : MH) (t : (Int × MH)) (hF : F_X2_finds_0 x1 x2 x3 x4 h = some t) : MW Z (Qm Z (some (iv t.1)) zN zG t.2 0 0) 7 zN zG h 0 0 0 [(0, rfv (xd (zX Z)) 73), (1, rfv (xd (zX Z)) x1), (2, rfv (xd (zX Z)) x2), (3, iv x3), (4, iv x4)] [] := by
  unfold F_X2_finds_0 at hF
  refine mw_iload_n 3 C dX2_finds_0 rfl rfl ?_
  obtain ⟨g1, hF⟩ := ck_some hF
  rcases ite_some hF with ⟨c2, hF⟩ | ⟨c2, hF⟩
  · refine mw_if_ne_t (tgt := 16) C dX2_finds_1 (by decide) g1 c2 ?_
    refine mw_iconst C dX2_finds_16 ?_
    refine mw_istore [(5, iv 0), (0, rfv (xd (zX Z)) 73), (1, rfv (xd (zX Z)) x1), (2, rfv (xd (zX Z)) x2), (3, iv x3), (4, iv x4)] C dX2_finds_17 (by decide) rfl ?_
    refine mw_sub [1, 2, 3, 4, 5, 0] rfl ?_
    exact T_X2_finds_19 C 20000 x1 x2 x3 x4 0 hk_x1 hk_x2 _ _ hF
  · refine mw_if_ne_f (tgt := 16) C dX2_finds_1 (by decide) g1 c2 ?_
    refine mw_aload_n 0 C dX2_finds_4 rfl rfl ?_
    refine mw_iconst C dX2_finds_5 ?_
    obtain ⟨h3, eh3, hF⟩ := nx_some hF
    refine mw_put (k := 1) (T := TX2) (ty0 := tyX2) (x := 0) C dX2_finds_6 zn73 zk73 (by decide) rfl inX2 tyX2_ok nmX2 (by decide) wd217 rfl rfl rfl rfl rfl (by decide) (mw_h eh3 ?_)
    refine mw_aload_n 0 C dX2_finds_9 rfl rfl ?_
    refine mw_iconst C dX2_finds_10 ?_
    obtain ⟨h4, eh4, hF⟩ := nx_some hF
    refine mw_put (k := 2) (T := TX2) (ty0 := tyX2) (x := 1) C dX2_finds_11 zn73 zk73 (by decide) rfl inX2 tyX2_ok nmX2 (by decide) wd219 rfl rfl rfl rfl rfl (by decide) (mw_h eh4 ?_)
    refine mw_iconst C dX2_finds_14 ?_
    cases hF
    exact mw_zret C dX2_finds_15 (Or.inr rfl) rfl rfl
def F_X2_finds (x1 : Nat) (x2 : Nat) (x3 : Int) (x4 : Int) (h : MH) : Option (Int × MH) := F_X2_finds_0 x1 x2 x3 x4 h
theorem T_X2_finds (l : Launch) (X : XT) (x1 : Nat) (x2 : Nat) (x3 : Int) (x4 : Int) (hk_x1 : okX5 x1) (hk_x2 : zK x2 = (22, 60) ∧ x2 < zN ∧ 60 < 2147483648) (h : MH) (t : (Int × MH)) (hF : F_X2_finds x1 x2 x3 x4 h = some t) : Ct l X yX2_finds cX2_finds 7 (some .boolean) 3 [rfv (xd X) 73, rfv (xd X) x1, rfv (xd X) x2, iv x3, iv x4] zN zG h (some (iv t.1)) zN zG t.2 0 0 := by
  refine Ct.head (by decide) (Nat.le_of_ble_eq_true rfl) (fun Z hX hl _ _ _ C => ?_)
  subst hX
  subst hl
  exact (T_X2_finds_0 C x1 x2 x3 x4 hk_x1 hk_x2 _ _ hF)
/-! BottleLine$Plan.clear()V -/
def F_X5_clear_0 (x0 : Nat) (h : MH) : Option MH :=
  nx (hup h (x0 + 1) 0 0) fun h1 =>
  (F_X1_start (x0 + 1) 0 h1).bind fun q2 =>
  nx (hup q2 x0 4 0) fun h3 =>
  (F_J7_fill_53178 (x0 + 14) 49 (-1) h3).bind fun q4 =>
  some q4
set_option maxRecDepth 100000 in
theorem T_X5_clear_0 {Z : ZT} (C : Cx Z cX5_clear 1 RX5 3 none) (x0 : Nat) (hk_x0 : okX5 x0) (h : MH) (t : MH) (hF : F_X5_clear_0 x0 h = some t) : MW Z (Qm Z none zN zG t 0 0) 1 zN zG h 0 0 0 [(0, rfv (xd (zX Z)) x0)] [] := by
  unfold F_X5_clear_0 at hF
  refine mw_aload_n 0 C dX5_clear_0 rfl rfl ?_
  refine mw_get (k := 0) (T := TX5) (v := rfv (xd (zX Z)) (x0 + 1)) C dX5_clear_1 (okX5_n _ hk_x0) (okX5_k _ hk_x0) (by decide) rfl inX5 (by decide) wd117 rfl (zfv_r rfl (okX5_g0 _ hk_x0)) ?_
  refine mw_iconst C dX5_clear_4 ?_
  obtain ⟨h1, eh1, hF⟩ := nx_some hF
  refine mw_put (k := 0) (T := TX1) (ty0 := tyX1) (x := 0) C dX5_clear_5 (okX1_n _ (okX5_f0 _ hk_x0)) (okX1_k _ (okX5_f0 _ hk_x0)) (by decide) rfl inX1 tyX1_ok nmX1 (by decide) wd77 rfl rfl rfl rfl rfl (by decide) (mw_h eh1 ?_)
  refine mw_aload_n 0 C dX5_clear_8 rfl rfl ?_
  refine mw_get (k := 0) (T := TX5) (v := rfv (xd (zX Z)) (x0 + 1)) C dX5_clear_9 (okX5_n _ hk_x0) (okX5_k _ hk_x0) (by decide) rfl inX5 (by decide) wd117 rfl (zfv_r rfl (okX5_g0 _ hk_x0)) ?_
  refine mw_iconst C dX5_clear_12 ?_
  obtain ⟨q2, hq2, hF⟩ := bind_some hF
  refine mw_callV (c := (x0 + 1)) [iv 0] [] C dX5_clear_13 (T_X1_start (zl Z) (zX Z) (x0 + 1) 0 (okX5_f0 _ hk_x0) _ _ hq2) rfl (okX1_n _ (okX5_f0 _ hk_x0)) (okX1_k _ (okX5_f0 _ hk_x0)) (by decide) rfl wd345 wd346 wd347 wd5 wd348 hd_X1_start rfl (by decide) (by decide) (Nat.le_of_ble_eq_true rfl) ⟨Nat.zero_le _, Nat.zero_le _⟩ ?_
  refine mw_aload_n 0 C dX5_clear_16 rfl rfl ?_
  refine mw_iconst C dX5_clear_17 ?_
  obtain ⟨h3, eh3, hF⟩ := nx_some hF
  refine mw_put (k := 4) (T := TX5) (ty0 := tyX5) (x := 0) C dX5_clear_18 (okX5_n _ hk_x0) (okX5_k _ hk_x0) (by decide) rfl inX5 tyX5_ok nmX5 (by decide) wd130 rfl rfl rfl rfl rfl (by decide) (mw_h eh3 ?_)
  refine mw_aload_n 0 C dX5_clear_21 rfl rfl ?_
  refine mw_get (k := 3) (T := TX5) (v := rfv (xd (zX Z)) (x0 + 14)) C dX5_clear_22 (okX5_n _ hk_x0) (okX5_k _ hk_x0) (by decide) rfl inX5 (by decide) wd128 rfl (zfv_r rfl (okX5_g3 _ hk_x0)) ?_
  refine mw_iconst C dX5_clear_25 ?_
  obtain ⟨q4, hq4, hF⟩ := bind_some hF
  refine mw_callS [rfv (xd (zX Z)) (x0 + 14), iv (-1)] [] C dX5_clear_26 (T_J7_fill_53178 (zl Z) (zX Z) (x0 + 14) 49 (-1) (okX5_f3 _ hk_x0) _ _ hq4) rfl wd350 wd247 wd13 wd248 hd_J7_fill_53178 rfl (by decide) (by decide) (Nat.le_of_ble_eq_true rfl) ⟨Nat.zero_le _, Nat.zero_le _⟩ ?_
  cases hF
  exact mw_vret C dX5_clear_29 rfl rfl
def F_X5_clear (x0 : Nat) (h : MH) : Option MH := F_X5_clear_0 x0 h
theorem T_X5_clear (l : Launch) (X : XT) (x0 : Nat) (hk_x0 : okX5 x0) (h : MH) (t : MH) (hF : F_X5_clear x0 h = some t) : Ct l X yX5_clear cX5_clear 1 none 3 [rfv (xd X) x0] zN zG h none zN zG t 0 0 := by
  refine Ct.head (by decide) (Nat.le_of_ble_eq_true rfl) (fun Z hX hl _ _ _ C => ?_)
  subst hX
  subst hl
  exact (T_X5_clear_0 C x0 hk_x0 _ _ hF)
/-! BottleLine$LineReader.isName()Z -/
def F_X3_isName_0 (h : MH) : Option (Int × MH) :=
  (F_X8_isShortWord h).bind fun q1 =>
  ck (in32 q1.1) <|
  if q1.1 = 0 then
    some (0, q1.2)
  else
    (F_X8_is 0 q1.2).bind fun q4 =>
    ck (in32 q4.1) <|
    if q4.1 ≠ 0 then
      some (0, q4.2)
    else
      (F_X8_is 1 q4.2).bind fun q7 =>
      ck (in32 q7.1) <|
      if q7.1 ≠ 0 then
        some (0, q7.2)
      else
        (F_X8_is 2 q7.2).bind fun q10 =>
        ck (in32 q10.1) <|
        if q10.1 ≠ 0 then
          some (0, q10.2)
        else
          (F_X8_is 3 q10.2).bind fun q13 =>
          ck (in32 q13.1) <|
          if q13.1 ≠ 0 then
            some (0, q13.2)
          else
            (F_X8_is 4 q13.2).bind fun q16 =>
            ck (in32 q16.1) <|
            if q16.1 ≠ 0 then
              some (0, q16.2)
            else
              (F_X8_is 5 q16.2).bind fun q19 =>
              ck (in32 q19.1) <|
              if q19.1 ≠ 0 then
                some (0, q19.2)
              else
                (F_X8_is 6 q19.2).bind fun q22 =>
                ck (in32 q22.1) <|
                if q22.1 ≠ 0 then
                  some (0, q22.2)
                else
                  (F_X8_is 7 q22.2).bind fun q25 =>
                  ck (in32 q25.1) <|
                  if q25.1 ≠ 0 then
                    some (0, q25.2)
                  else
                    some (1, q25.2)
set_option maxRecDepth 100000 in
theorem T_X3_isName_0 {Z : ZT} (C : Cx Z cX3_isName 1 RX3 7 (some .boolean)) (h : MH) (t : (Int × MH)) (hF : F_X3_isName_0 h = some t) : MW Z (Qm Z (some (iv t.1)) zN zG t.2 0 0) 1 zN zG h 0 0 0 [(0, rfv (xd (zX Z)) 10)] [] := by
  unfold F_X3_isName_0 at hF
  refine mw_aload_n 0 C dX3_isName_0 rfl rfl ?_
  refine mw_get (k := 0) (T := TX3) (v := rfv (xd (zX Z)) 8) C dX3_isName_1 zn10 zk10 (by decide) rfl inX3 (by decide) wd134 rfl (zfv_r rfl zg_10_0) ?_
  obtain ⟨q1, hq1, hF⟩ := bind_some hF
  refine mw_callV (c := 8) [] [] C dX3_isName_4 (T_X8_isShortWord (zl Z) (zX Z) _ _ hq1) rfl zn8 zk8 (by decide) rfl wd429 wd430 wd431 wd2 wd432 hd_X8_isShortWord rfl (by decide) (by decide) (Nat.le_of_ble_eq_true rfl) ⟨Nat.zero_le _, Nat.zero_le _⟩ ?_
  obtain ⟨g2, hF⟩ := ck_some hF
  rcases ite_some hF with ⟨c3, hF⟩ | ⟨c3, hF⟩
  · refine mw_if_eq_t (tgt := 110) C dX3_isName_7 (by decide) g2 c3 ?_
    refine mw_iconst C dX3_isName_110 ?_
    cases hF
    exact mw_zret C dX3_isName_111 (Or.inl rfl) rfl rfl
  · refine mw_if_eq_f (tgt := 110) C dX3_isName_7 (by decide) g2 c3 ?_
    refine mw_aload_n 0 C dX3_isName_10 rfl rfl ?_
    refine mw_get (k := 0) (T := TX3) (v := rfv (xd (zX Z)) 8) C dX3_isName_11 zn10 zk10 (by decide) rfl inX3 (by decide) wd134 rfl (zfv_r rfl zg_10_0) ?_
    refine mw_ldcS 0 (by decide) rfl rfl C dX3_isName_14 ?_
    obtain ⟨q4, hq4, hF⟩ := bind_some hF
    refine mw_callV (c := 8) [.ref (xa (zX Z) 0)] [] C dX3_isName_16 (T_X8_is (zl Z) (zX Z) 0 (by decide) _ _ hq4) rfl zn8 zk8 (by decide) rfl wd371 wd372 wd373 wd2 wd374 hd_X8_is rfl (by decide) (by decide) (Nat.le_of_ble_eq_true rfl) ⟨Nat.zero_le _, Nat.zero_le _⟩ ?_
    obtain ⟨g5, hF⟩ := ck_some hF
    rcases ite_some hF with ⟨c6, hF⟩ | ⟨c6, hF⟩
    · refine mw_if_ne_t (tgt := 110) C dX3_isName_19 (by decide) g5 c6 ?_
      refine mw_iconst C dX3_isName_110 ?_
      cases hF
      exact mw_zret C dX3_isName_111 (Or.inl rfl) rfl rfl
    · refine mw_if_ne_f (tgt := 110) C dX3_isName_19 (by decide) g5 c6 ?_
      refine mw_aload_n 0 C dX3_isName_22 rfl rfl ?_
      refine mw_get (k := 0) (T := TX3) (v := rfv (xd (zX Z)) 8) C dX3_isName_23 zn10 zk10 (by decide) rfl inX3 (by decide) wd134 rfl (zfv_r rfl zg_10_0) ?_
      refine mw_ldcS 1 (by decide) rfl rfl C dX3_isName_26 ?_
      obtain ⟨q7, hq7, hF⟩ := bind_some hF
      refine mw_callV (c := 8) [.ref (xa (zX Z) 1)] [] C dX3_isName_28 (T_X8_is (zl Z) (zX Z) 1 (by decide) _ _ hq7) rfl zn8 zk8 (by decide) rfl wd371 wd372 wd373 wd2 wd374 hd_X8_is rfl (by decide) (by decide) (Nat.le_of_ble_eq_true rfl) ⟨Nat.zero_le _, Nat.zero_le _⟩ ?_
      obtain ⟨g8, hF⟩ := ck_some hF
      rcases ite_some hF with ⟨c9, hF⟩ | ⟨c9, hF⟩
      · refine mw_if_ne_t (tgt := 110) C dX3_isName_31 (by decide) g8 c9 ?_
        refine mw_iconst C dX3_isName_110 ?_
        cases hF
        exact mw_zret C dX3_isName_111 (Or.inl rfl) rfl rfl
      · refine mw_if_ne_f (tgt := 110) C dX3_isName_31 (by decide) g8 c9 ?_
        refine mw_aload_n 0 C dX3_isName_34 rfl rfl ?_
        refine mw_get (k := 0) (T := TX3) (v := rfv (xd (zX Z)) 8) C dX3_isName_35 zn10 zk10 (by decide) rfl inX3 (by decide) wd134 rfl (zfv_r rfl zg_10_0) ?_
        refine mw_ldcS 2 (by decide) rfl rfl C dX3_isName_38 ?_
        obtain ⟨q10, hq10, hF⟩ := bind_some hF
        refine mw_callV (c := 8) [.ref (xa (zX Z) 2)] [] C dX3_isName_40 (T_X8_is (zl Z) (zX Z) 2 (by decide) _ _ hq10) rfl zn8 zk8 (by decide) rfl wd371 wd372 wd373 wd2 wd374 hd_X8_is rfl (by decide) (by decide) (Nat.le_of_ble_eq_true rfl) ⟨Nat.zero_le _, Nat.zero_le _⟩ ?_
        obtain ⟨g11, hF⟩ := ck_some hF
        rcases ite_some hF with ⟨c12, hF⟩ | ⟨c12, hF⟩
        · refine mw_if_ne_t (tgt := 110) C dX3_isName_43 (by decide) g11 c12 ?_
          refine mw_iconst C dX3_isName_110 ?_
          cases hF
          exact mw_zret C dX3_isName_111 (Or.inl rfl) rfl rfl
        · refine mw_if_ne_f (tgt := 110) C dX3_isName_43 (by decide) g11 c12 ?_
          refine mw_aload_n 0 C dX3_isName_46 rfl rfl ?_
          refine mw_get (k := 0) (T := TX3) (v := rfv (xd (zX Z)) 8) C dX3_isName_47 zn10 zk10 (by decide) rfl inX3 (by decide) wd134 rfl (zfv_r rfl zg_10_0) ?_
          refine mw_ldcS 3 (by decide) rfl rfl C dX3_isName_50 ?_
          obtain ⟨q13, hq13, hF⟩ := bind_some hF
          refine mw_callV (c := 8) [.ref (xa (zX Z) 3)] [] C dX3_isName_52 (T_X8_is (zl Z) (zX Z) 3 (by decide) _ _ hq13) rfl zn8 zk8 (by decide) rfl wd371 wd372 wd373 wd2 wd374 hd_X8_is rfl (by decide) (by decide) (Nat.le_of_ble_eq_true rfl) ⟨Nat.zero_le _, Nat.zero_le _⟩ ?_
          obtain ⟨g14, hF⟩ := ck_some hF
          rcases ite_some hF with ⟨c15, hF⟩ | ⟨c15, hF⟩
          · refine mw_if_ne_t (tgt := 110) C dX3_isName_55 (by decide) g14 c15 ?_
            refine mw_iconst C dX3_isName_110 ?_
            cases hF
            exact mw_zret C dX3_isName_111 (Or.inl rfl) rfl rfl
          · refine mw_if_ne_f (tgt := 110) C dX3_isName_55 (by decide) g14 c15 ?_
            refine mw_aload_n 0 C dX3_isName_58 rfl rfl ?_
            refine mw_get (k := 0) (T := TX3) (v := rfv (xd (zX Z)) 8) C dX3_isName_59 zn10 zk10 (by decide) rfl inX3 (by decide) wd134 rfl (zfv_r rfl zg_10_0) ?_
            refine mw_ldcS 4 (by decide) rfl rfl C dX3_isName_62 ?_
            obtain ⟨q16, hq16, hF⟩ := bind_some hF
            refine mw_callV (c := 8) [.ref (xa (zX Z) 4)] [] C dX3_isName_64 (T_X8_is (zl Z) (zX Z) 4 (by decide) _ _ hq16) rfl zn8 zk8 (by decide) rfl wd371 wd372 wd373 wd2 wd374 hd_X8_is rfl (by decide) (by decide) (Nat.le_of_ble_eq_true rfl) ⟨Nat.zero_le _, Nat.zero_le _⟩ ?_
            obtain ⟨g17, hF⟩ := ck_some hF
            rcases ite_some hF with ⟨c18, hF⟩ | ⟨c18, hF⟩
            · refine mw_if_ne_t (tgt := 110) C dX3_isName_67 (by decide) g17 c18 ?_
              refine mw_iconst C dX3_isName_110 ?_
              cases hF
              exact mw_zret C dX3_isName_111 (Or.inl rfl) rfl rfl
            · refine mw_if_ne_f (tgt := 110) C dX3_isName_67 (by decide) g17 c18 ?_
              refine mw_aload_n 0 C dX3_isName_70 rfl rfl ?_
              refine mw_get (k := 0) (T := TX3) (v := rfv (xd (zX Z)) 8) C dX3_isName_71 zn10 zk10 (by decide) rfl inX3 (by decide) wd134 rfl (zfv_r rfl zg_10_0) ?_
              refine mw_ldcS 5 (by decide) rfl rfl C dX3_isName_74 ?_
              obtain ⟨q19, hq19, hF⟩ := bind_some hF
              refine mw_callV (c := 8) [.ref (xa (zX Z) 5)] [] C dX3_isName_76 (T_X8_is (zl Z) (zX Z) 5 (by decide) _ _ hq19) rfl zn8 zk8 (by decide) rfl wd371 wd372 wd373 wd2 wd374 hd_X8_is rfl (by decide) (by decide) (Nat.le_of_ble_eq_true rfl) ⟨Nat.zero_le _, Nat.zero_le _⟩ ?_
              obtain ⟨g20, hF⟩ := ck_some hF
              rcases ite_some hF with ⟨c21, hF⟩ | ⟨c21, hF⟩
              · refine mw_if_ne_t (tgt := 110) C dX3_isName_79 (by decide) g20 c21 ?_
                refine mw_iconst C dX3_isName_110 ?_
                cases hF
                exact mw_zret C dX3_isName_111 (Or.inl rfl) rfl rfl
              · refine mw_if_ne_f (tgt := 110) C dX3_isName_79 (by decide) g20 c21 ?_
                refine mw_aload_n 0 C dX3_isName_82 rfl rfl ?_
                refine mw_get (k := 0) (T := TX3) (v := rfv (xd (zX Z)) 8) C dX3_isName_83 zn10 zk10 (by decide) rfl inX3 (by decide) wd134 rfl (zfv_r rfl zg_10_0) ?_
                refine mw_ldcS 6 (by decide) rfl rfl C dX3_isName_86 ?_
                obtain ⟨q22, hq22, hF⟩ := bind_some hF
                refine mw_callV (c := 8) [.ref (xa (zX Z) 6)] [] C dX3_isName_88 (T_X8_is (zl Z) (zX Z) 6 (by decide) _ _ hq22) rfl zn8 zk8 (by decide) rfl wd371 wd372 wd373 wd2 wd374 hd_X8_is rfl (by decide) (by decide) (Nat.le_of_ble_eq_true rfl) ⟨Nat.zero_le _, Nat.zero_le _⟩ ?_
                obtain ⟨g23, hF⟩ := ck_some hF
                rcases ite_some hF with ⟨c24, hF⟩ | ⟨c24, hF⟩
                · refine mw_if_ne_t (tgt := 110) C dX3_isName_91 (by decide) g23 c24 ?_
                  refine mw_iconst C dX3_isName_110 ?_
                  cases hF
                  exact mw_zret C dX3_isName_111 (Or.inl rfl) rfl rfl
                · refine mw_if_ne_f (tgt := 110) C dX3_isName_91 (by decide) g23 c24 ?_
                  refine mw_aload_n 0 C dX3_isName_94 rfl rfl ?_
                  refine mw_get (k := 0) (T := TX3) (v := rfv (xd (zX Z)) 8) C dX3_isName_95 zn10 zk10 (by decide) rfl inX3 (by decide) wd134 rfl (zfv_r rfl zg_10_0) ?_
                  refine mw_ldcS 7 (by decide) rfl rfl C dX3_isName_98 ?_
                  obtain ⟨q25, hq25, hF⟩ := bind_some hF
                  refine mw_callV (c := 8) [.ref (xa (zX Z) 7)] [] C dX3_isName_100 (T_X8_is (zl Z) (zX Z) 7 (by decide) _ _ hq25) rfl zn8 zk8 (by decide) rfl wd371 wd372 wd373 wd2 wd374 hd_X8_is rfl (by decide) (by decide) (Nat.le_of_ble_eq_true rfl) ⟨Nat.zero_le _, Nat.zero_le _⟩ ?_
                  obtain ⟨g26, hF⟩ := ck_some hF
                  rcases ite_some hF with ⟨c27, hF⟩ | ⟨c27, hF⟩
                  · refine mw_if_ne_t (tgt := 110) C dX3_isName_103 (by decide) g26 c27 ?_
                    refine mw_iconst C dX3_isName_110 ?_
                    cases hF
                    exact mw_zret C dX3_isName_111 (Or.inl rfl) rfl rfl
                  · refine mw_if_ne_f (tgt := 110) C dX3_isName_103 (by decide) g26 c27 ?_
                    refine mw_iconst C dX3_isName_106 ?_
                    refine mw_goto (tgt := 111) C dX3_isName_107 (by decide) ?_
                    cases hF
                    exact mw_zret C dX3_isName_111 (Or.inr rfl) rfl rfl
def F_X3_isName (h : MH) : Option (Int × MH) := F_X3_isName_0 h
theorem T_X3_isName (l : Launch) (X : XT) (h : MH) (t : (Int × MH)) (hF : F_X3_isName h = some t) : Ct l X yX3_isName cX3_isName 1 (some .boolean) 7 [rfv (xd X) 10] zN zG h (some (iv t.1)) zN zG t.2 0 0 := by
  refine Ct.head (by decide) (Nat.le_of_ble_eq_true rfl) (fun Z hX hl _ _ _ C => ?_)
  subst hX
  subst hl
  exact (T_X3_isName_0 C _ _ hF)
/-! BottleLine$LineReader.addMachine(IJ)V -/
def F_X3_addMachine_0 (x1 : Int) (x2 : Int) (h : MH) : Option MH :=
  ck (0 ≤ x1 ∧ x1 < 6) <|
  nx (hup h 23 x1.toNat x2) fun h2 =>
  nx (hup h2 24 x1.toNat 1) fun h3 =>
  nx (hup h3 14 x1.toNat 0) fun h4 =>
  nx (hup h4 15 x1.toNat 0) fun h5 =>
  nx (hup h5 16 x1.toNat 20) fun h6 =>
  nx (hup h6 12 0 (x1 + 1)) fun h7 =>
  nx (hup h7 10 3 0) fun h8 =>
  nx (hup h8 10 4 0) fun h9 =>
  nx (hup h9 10 5 0) fun h10 =>
  some h10
set_option maxRecDepth 100000 in
theorem T_X3_addMachine_0 {Z : ZT} (C : Cx Z cX3_addMachine 4 RX3 1 none) (x1 : Int) (x2 : Int) (h : MH) (t : MH) (hF : F_X3_addMachine_0 x1 x2 h = some t) : MW Z (Qm Z none zN zG t 0 0) 4 zN zG h 0 0 0 [(0, rfv (xd (zX Z)) 10), (1, iv x1), (2, lvv x2)] [] := by
  unfold F_X3_addMachine_0 at hF
  refine mw_aload_n 0 C dX3_addMachine_0 rfl rfl ?_
  refine mw_get (k := 1) (T := TX3) (v := rfv (xd (zX Z)) 11) C dX3_addMachine_1 zn10 zk10 (by decide) rfl inX3 (by decide) wd135 rfl (zfv_r rfl zg_10_1) ?_
  refine mw_get (k := 1) (T := TX5) (v := rfv (xd (zX Z)) 23) C dX3_addMachine_4 zn11 zk11 (by decide) rfl inX5 (by decide) wd123 rfl (zfv_r rfl zg_11_1) ?_
  refine mw_iload_n 1 C dX3_addMachine_7 rfl rfl ?_
  refine mw_lload_n 2 C dX3_addMachine_8 rfl rfl ?_
  obtain ⟨g1, hF⟩ := ck_some hF
  obtain ⟨h2, eh2, hF⟩ := nx_some hF
  refine mw_last C dX3_addMachine_9 zn23 zk23 (by decide) g1 (mw_h eh2 ?_)
  refine mw_aload_n 0 C dX3_addMachine_10 rfl rfl ?_
  refine mw_get (k := 1) (T := TX3) (v := rfv (xd (zX Z)) 11) C dX3_addMachine_11 zn10 zk10 (by decide) rfl inX3 (by decide) wd135 rfl (zfv_r rfl zg_10_1) ?_
  refine mw_get (k := 2) (T := TX5) (v := rfv (xd (zX Z)) 24) C dX3_addMachine_14 zn11 zk11 (by decide) rfl inX5 (by decide) wd126 rfl (zfv_r rfl zg_11_2) ?_
  refine mw_iload_n 1 C dX3_addMachine_17 rfl rfl ?_
  refine mw_iconst C dX3_addMachine_18 ?_
  obtain ⟨h3, eh3, hF⟩ := nx_some hF
  refine mw_iast C dX3_addMachine_19 zn24 zk24 (by decide) g1 (mw_h eh3 ?_)
  refine mw_aload_n 0 C dX3_addMachine_20 rfl rfl ?_
  refine mw_get (k := 1) (T := TX3) (v := rfv (xd (zX Z)) 11) C dX3_addMachine_21 zn10 zk10 (by decide) rfl inX3 (by decide) wd135 rfl (zfv_r rfl zg_10_1) ?_
  refine mw_get (k := 0) (T := TX5) (v := rfv (xd (zX Z)) 12) C dX3_addMachine_24 zn11 zk11 (by decide) rfl inX5 (by decide) wd120 rfl (zfv_r rfl zg_11_0) ?_
  refine mw_get (k := 2) (T := TX1) (v := rfv (xd (zX Z)) 14) C dX3_addMachine_27 zn12 zk12 (by decide) rfl inX1 (by decide) wd88 rfl (zfv_r rfl zg_12_2) ?_
  refine mw_iload_n 1 C dX3_addMachine_30 rfl rfl ?_
  refine mw_iconst C dX3_addMachine_31 ?_
  obtain ⟨h4, eh4, hF⟩ := nx_some hF
  refine mw_iast C dX3_addMachine_32 zn14 zk14 (by decide) g1 (mw_h eh4 ?_)
  refine mw_aload_n 0 C dX3_addMachine_33 rfl rfl ?_
  refine mw_get (k := 1) (T := TX3) (v := rfv (xd (zX Z)) 11) C dX3_addMachine_34 zn10 zk10 (by decide) rfl inX3 (by decide) wd135 rfl (zfv_r rfl zg_10_1) ?_
  refine mw_get (k := 0) (T := TX5) (v := rfv (xd (zX Z)) 12) C dX3_addMachine_37 zn11 zk11 (by decide) rfl inX5 (by decide) wd120 rfl (zfv_r rfl zg_11_0) ?_
  refine mw_get (k := 3) (T := TX1) (v := rfv (xd (zX Z)) 15) C dX3_addMachine_40 zn12 zk12 (by decide) rfl inX1 (by decide) wd91 rfl (zfv_r rfl zg_12_3) ?_
  refine mw_iload_n 1 C dX3_addMachine_43 rfl rfl ?_
  refine mw_iconst C dX3_addMachine_44 ?_
  obtain ⟨h5, eh5, hF⟩ := nx_some hF
  refine mw_iast C dX3_addMachine_45 zn15 zk15 (by decide) g1 (mw_h eh5 ?_)
  refine mw_aload_n 0 C dX3_addMachine_46 rfl rfl ?_
  refine mw_get (k := 1) (T := TX3) (v := rfv (xd (zX Z)) 11) C dX3_addMachine_47 zn10 zk10 (by decide) rfl inX3 (by decide) wd135 rfl (zfv_r rfl zg_10_1) ?_
  refine mw_get (k := 0) (T := TX5) (v := rfv (xd (zX Z)) 12) C dX3_addMachine_50 zn11 zk11 (by decide) rfl inX5 (by decide) wd120 rfl (zfv_r rfl zg_11_0) ?_
  refine mw_get (k := 4) (T := TX1) (v := rfv (xd (zX Z)) 16) C dX3_addMachine_53 zn12 zk12 (by decide) rfl inX1 (by decide) wd94 rfl (zfv_r rfl zg_12_4) ?_
  refine mw_iload_n 1 C dX3_addMachine_56 rfl rfl ?_
  refine mw_bipush C dX3_addMachine_57 bp_20 ?_
  obtain ⟨h6, eh6, hF⟩ := nx_some hF
  refine mw_iast C dX3_addMachine_59 zn16 zk16 (by decide) g1 (mw_h eh6 ?_)
  refine mw_aload_n 0 C dX3_addMachine_60 rfl rfl ?_
  refine mw_get (k := 1) (T := TX3) (v := rfv (xd (zX Z)) 11) C dX3_addMachine_61 zn10 zk10 (by decide) rfl inX3 (by decide) wd135 rfl (zfv_r rfl zg_10_1) ?_
  refine mw_get (k := 0) (T := TX5) (v := rfv (xd (zX Z)) 12) C dX3_addMachine_64 zn11 zk11 (by decide) rfl inX5 (by decide) wd120 rfl (zfv_r rfl zg_11_0) ?_
  refine mw_iload_n 1 C dX3_addMachine_67 rfl rfl ?_
  refine mw_iconst C dX3_addMachine_68 ?_
  refine mw_iadd C dX3_addMachine_69 ?_
  obtain ⟨h7, eh7, hF⟩ := nx_some hF
  refine mw_put (k := 0) (T := TX1) (ty0 := tyX1) (x := (x1 + 1)) C dX3_addMachine_70 zn12 zk12 (by decide) rfl inX1 tyX1_ok nmX1 (by decide) wd80 rfl rfl rfl rfl rfl (by decide) (mw_h eh7 ?_)
  refine mw_aload_n 0 C dX3_addMachine_73 rfl rfl ?_
  refine mw_iconst C dX3_addMachine_74 ?_
  obtain ⟨h8, eh8, hF⟩ := nx_some hF
  refine mw_put (k := 3) (T := TX3) (ty0 := tyX3) (x := 0) C dX3_addMachine_75 zn10 zk10 (by decide) rfl inX3 tyX3_ok nmX3 (by decide) wd138 rfl rfl (nz_n (Or.inl rfl)) (nz_f (Or.inl rfl)) rfl (by decide) (mw_h eh8 ?_)
  refine mw_aload_n 0 C dX3_addMachine_78 rfl rfl ?_
  refine mw_iconst C dX3_addMachine_79 ?_
  obtain ⟨h9, eh9, hF⟩ := nx_some hF
  refine mw_put (k := 4) (T := TX3) (ty0 := tyX3) (x := 0) C dX3_addMachine_80 zn10 zk10 (by decide) rfl inX3 tyX3_ok nmX3 (by decide) wd139 rfl rfl (nz_n (Or.inl rfl)) (nz_f (Or.inl rfl)) rfl (by decide) (mw_h eh9 ?_)
  refine mw_aload_n 0 C dX3_addMachine_83 rfl rfl ?_
  refine mw_iconst C dX3_addMachine_84 ?_
  obtain ⟨h10, eh10, hF⟩ := nx_some hF
  refine mw_put (k := 5) (T := TX3) (ty0 := tyX3) (x := 0) C dX3_addMachine_85 zn10 zk10 (by decide) rfl inX3 tyX3_ok nmX3 (by decide) wd140 rfl rfl (nz_n (Or.inl rfl)) (nz_f (Or.inl rfl)) rfl (by decide) (mw_h eh10 ?_)
  cases hF
  exact mw_vret C dX3_addMachine_88 rfl rfl
def F_X3_addMachine (x1 : Int) (x2 : Int) (h : MH) : Option MH := F_X3_addMachine_0 x1 x2 h
theorem T_X3_addMachine (l : Launch) (X : XT) (x1 : Int) (x2 : Int) (h : MH) (t : MH) (hF : F_X3_addMachine x1 x2 h = some t) : Ct l X yX3_addMachine cX3_addMachine 4 none 1 [rfv (xd X) 10, iv x1, lvv x2] zN zG h none zN zG t 0 0 := by
  refine Ct.head (by decide) (Nat.le_of_ble_eq_true rfl) (fun Z hX hl _ _ _ C => ?_)
  subst hX
  subst hl
  exact (T_X3_addMachine_0 C x1 x2 _ _ hF)
/-! BottleLine$LineReader.takeHeads(I)Z -/
def F_X3_takeHeads_0 (x1 : Int) (h : MH) : Option (Int × MH) :=
  ck (in32 (h 10 3)) <|
  if (h 10 3) = 0 then
    nx (hup h 10 3 1) fun h3 =>
    (F_X8_advance h3).bind fun q4 =>
    (F_X8_takeNumber 1 24 q4).bind fun q5 =>
    ck (in32 q5.1) <|
    if q5.1 ≠ 0 then
      ck (0 ≤ x1 ∧ x1 < 6) <|
      nx (hup q5.2 24 x1.toNat (q5.2 8 8)) fun h9 =>
      some (1, h9)
    else
      some (0, q5.2)
  else
    (F_X8_wrong 5 h).bind fun q10 =>
    ck (q10.1 = 0 ∨ q10.1 = 1) <|
    some (q10.1, q10.2)
set_option maxRecDepth 100000 in
theorem T_X3_takeHeads_0 {Z : ZT} (C : Cx Z cX3_takeHeads 2 RX3 4 (some .boolean)) (x1 : Int) (h : MH) (t : (Int × MH)) (hF : F_X3_takeHeads_0 x1 h = some t) : MW Z (Qm Z (some (iv t.1)) zN zG t.2 0 0) 2 zN zG h 0 0 0 [(0, rfv (xd (zX Z)) 10), (1, iv x1)] [] := by
  unfold F_X3_takeHeads_0 at hF
  refine mw_aload_n 0 C dX3_takeHeads_0 rfl rfl ?_
  refine mw_get (k := 3) (T := TX3) (v := iv (h 10 3)) C dX3_takeHeads_1 zn10 zk10 (by decide) rfl inX3 (by decide) wd138 rfl rfl ?_
  obtain ⟨g1, hF⟩ := ck_some hF
  rcases ite_some hF with ⟨c2, hF⟩ | ⟨c2, hF⟩
  · refine mw_if_eq_t (tgt := 16) C dX3_takeHeads_4 (by decide) g1 c2 ?_
    refine mw_aload_n 0 C dX3_takeHeads_16 rfl rfl ?_
    refine mw_iconst C dX3_takeHeads_17 ?_
    obtain ⟨h3, eh3, hF⟩ := nx_some hF
    refine mw_put (k := 3) (T := TX3) (ty0 := tyX3) (x := 1) C dX3_takeHeads_18 zn10 zk10 (by decide) rfl inX3 tyX3_ok nmX3 (by decide) wd138 rfl rfl (nz_n (Or.inr rfl)) (nz_f (Or.inr rfl)) rfl (by decide) (mw_h eh3 ?_)
    refine mw_aload_n 0 C dX3_takeHeads_21 rfl rfl ?_
    refine mw_get (k := 0) (T := TX3) (v := rfv (xd (zX Z)) 8) C dX3_takeHeads_22 zn10 zk10 (by decide) rfl inX3 (by decide) wd134 rfl (zfv_r rfl zg_10_0) ?_
    obtain ⟨q4, hq4, hF⟩ := bind_some hF
    refine mw_callV (c := 8) [] [] C dX3_takeHeads_25 (T_X8_advance (zl Z) (zX Z) _ _ hq4) rfl zn8 zk8 (by decide) rfl wd425 wd359 wd360 wd2 wd361 hd_X8_advance rfl (by decide) (by decide) (Nat.le_of_ble_eq_true rfl) ⟨Nat.zero_le _, Nat.zero_le _⟩ ?_
    refine mw_aload_n 0 C dX3_takeHeads_28 rfl rfl ?_
    refine mw_get (k := 0) (T := TX3) (v := rfv (xd (zX Z)) 8) C dX3_takeHeads_29 zn10 zk10 (by decide) rfl inX3 (by decide) wd134 rfl (zfv_r rfl zg_10_0) ?_
    refine mw_iconst C dX3_takeHeads_32 ?_
    refine mw_bipush C dX3_takeHeads_33 bp_24 ?_
    obtain ⟨q5, hq5, hF⟩ := bind_some hF
    refine mw_callV (c := 8) [iv 1, iv 24] [] C dX3_takeHeads_35 (T_X8_takeNumber (zl Z) (zX Z) 1 24 _ _ hq5) rfl zn8 zk8 (by decide) rfl wd451 wd452 wd453 wd2 wd454 hd_X8_takeNumber rfl (by decide) (by decide) (Nat.le_of_ble_eq_true rfl) ⟨Nat.zero_le _, Nat.zero_le _⟩ ?_
    obtain ⟨g6, hF⟩ := ck_some hF
    rcases ite_some hF with ⟨c7, hF⟩ | ⟨c7, hF⟩
    · refine mw_if_ne_t (tgt := 43) C dX3_takeHeads_38 (by decide) g6 c7 ?_
      refine mw_aload_n 0 C dX3_takeHeads_43 rfl rfl ?_
      refine mw_get (k := 1) (T := TX3) (v := rfv (xd (zX Z)) 11) C dX3_takeHeads_44 zn10 zk10 (by decide) rfl inX3 (by decide) wd135 rfl (zfv_r rfl zg_10_1) ?_
      refine mw_get (k := 2) (T := TX5) (v := rfv (xd (zX Z)) 24) C dX3_takeHeads_47 zn11 zk11 (by decide) rfl inX5 (by decide) wd126 rfl (zfv_r rfl zg_11_2) ?_
      refine mw_iload_n 1 C dX3_takeHeads_50 rfl rfl ?_
      refine mw_aload_n 0 C dX3_takeHeads_51 rfl rfl ?_
      refine mw_get (k := 0) (T := TX3) (v := rfv (xd (zX Z)) 8) C dX3_takeHeads_52 zn10 zk10 (by decide) rfl inX3 (by decide) wd134 rfl (zfv_r rfl zg_10_0) ?_
      refine mw_get (k := 8) (T := TX8) (v := iv (q5.2 8 8)) C dX3_takeHeads_55 zn8 zk8 (by decide) rfl inX8 (by decide) wd51 rfl rfl ?_
      obtain ⟨g8, hF⟩ := ck_some hF
      obtain ⟨h9, eh9, hF⟩ := nx_some hF
      refine mw_iast C dX3_takeHeads_58 zn24 zk24 (by decide) g8 (mw_h eh9 ?_)
      refine mw_iconst C dX3_takeHeads_59 ?_
      cases hF
      exact mw_zret C dX3_takeHeads_60 (Or.inr rfl) rfl rfl
    · refine mw_if_ne_f (tgt := 43) C dX3_takeHeads_38 (by decide) g6 c7 ?_
      refine mw_iconst C dX3_takeHeads_41 ?_
      cases hF
      exact mw_zret C dX3_takeHeads_42 (Or.inl rfl) rfl rfl
  · refine mw_if_eq_f (tgt := 16) C dX3_takeHeads_4 (by decide) g1 c2 ?_
    refine mw_aload_n 0 C dX3_takeHeads_7 rfl rfl ?_
    refine mw_get (k := 0) (T := TX3) (v := rfv (xd (zX Z)) 8) C dX3_takeHeads_8 zn10 zk10 (by decide) rfl inX3 (by decide) wd134 rfl (zfv_r rfl zg_10_0) ?_
    refine mw_iconst C dX3_takeHeads_11 ?_
    obtain ⟨q10, hq10, hF⟩ := bind_some hF
    refine mw_callV (c := 8) [iv 5] [] C dX3_takeHeads_12 (T_X8_wrong (zl Z) (zX Z) 5 _ _ hq10) rfl zn8 zk8 (by decide) rfl wd421 wd422 wd423 wd2 wd424 hd_X8_wrong rfl (by decide) (by decide) (Nat.le_of_ble_eq_true rfl) ⟨Nat.zero_le _, Nat.zero_le _⟩ ?_
    obtain ⟨g11, hF⟩ := ck_some hF
    cases hF
    exact mw_zret C dX3_takeHeads_15 g11 rfl rfl
def F_X3_takeHeads (x1 : Int) (h : MH) : Option (Int × MH) := F_X3_takeHeads_0 x1 h
theorem T_X3_takeHeads (l : Launch) (X : XT) (x1 : Int) (h : MH) (t : (Int × MH)) (hF : F_X3_takeHeads x1 h = some t) : Ct l X yX3_takeHeads cX3_takeHeads 2 (some .boolean) 4 [rfv (xd X) 10, iv x1] zN zG h (some (iv t.1)) zN zG t.2 0 0 := by
  refine Ct.head (by decide) (Nat.le_of_ble_eq_true rfl) (fun Z hX hl _ _ _ C => ?_)
  subst hX
  subst hl
  exact (T_X3_takeHeads_0 C x1 _ _ hF)
/-! BottleLine$LineReader.takeStops(I)Z -/
def F_X3_takeStops_0 (x1 : Int) (h : MH) : Option (Int × MH) :=
  ck (in32 (h 10 4)) <|
  if (h 10 4) = 0 then
    nx (hup h 10 4 1) fun h3 =>
    (F_X8_advance h3).bind fun q4 =>
    (F_X8_takeNumber 0 64 q4).bind fun q5 =>
    ck (in32 q5.1) <|
    if q5.1 ≠ 0 then
      ck (0 ≤ x1 ∧ x1 < 6) <|
      nx (hup q5.2 14 x1.toNat (q5.2 8 8)) fun h9 =>
      (F_X8_takeWord 4 h9).bind fun q10 =>
      ck (in32 q10.1) <|
      if q10.1 = 0 then
        some (0, q10.2)
      else
        (F_X8_takeNumber 1 99 q10.2).bind fun q13 =>
        ck (in32 q13.1) <|
        if q13.1 ≠ 0 then
          nx (hup q13.2 15 x1.toNat (q13.2 8 8)) fun h16 =>
          some (1, h16)
        else
          some (0, q13.2)
    else
      some (0, q5.2)
  else
    (F_X8_wrong 5 h).bind fun q17 =>
    ck (q17.1 = 0 ∨ q17.1 = 1) <|
    some (q17.1, q17.2)
set_option maxRecDepth 100000 in
theorem T_X3_takeStops_0 {Z : ZT} (C : Cx Z cX3_takeStops 2 RX3 8 (some .boolean)) (x1 : Int) (h : MH) (t : (Int × MH)) (hF : F_X3_takeStops_0 x1 h = some t) : MW Z (Qm Z (some (iv t.1)) zN zG t.2 0 0) 2 zN zG h 0 0 0 [(0, rfv (xd (zX Z)) 10), (1, iv x1)] [] := by
  unfold F_X3_takeStops_0 at hF
  refine mw_aload_n 0 C dX3_takeStops_0 rfl rfl ?_
  refine mw_get (k := 4) (T := TX3) (v := iv (h 10 4)) C dX3_takeStops_1 zn10 zk10 (by decide) rfl inX3 (by decide) wd139 rfl rfl ?_
  obtain ⟨g1, hF⟩ := ck_some hF
  rcases ite_some hF with ⟨c2, hF⟩ | ⟨c2, hF⟩
  · refine mw_if_eq_t (tgt := 16) C dX3_takeStops_4 (by decide) g1 c2 ?_
    refine mw_aload_n 0 C dX3_takeStops_16 rfl rfl ?_
    refine mw_iconst C dX3_takeStops_17 ?_
    obtain ⟨h3, eh3, hF⟩ := nx_some hF
    refine mw_put (k := 4) (T := TX3) (ty0 := tyX3) (x := 1) C dX3_takeStops_18 zn10 zk10 (by decide) rfl inX3 tyX3_ok nmX3 (by decide) wd139 rfl rfl (nz_n (Or.inr rfl)) (nz_f (Or.inr rfl)) rfl (by decide) (mw_h eh3 ?_)
    refine mw_aload_n 0 C dX3_takeStops_21 rfl rfl ?_
    refine mw_get (k := 0) (T := TX3) (v := rfv (xd (zX Z)) 8) C dX3_takeStops_22 zn10 zk10 (by decide) rfl inX3 (by decide) wd134 rfl (zfv_r rfl zg_10_0) ?_
    obtain ⟨q4, hq4, hF⟩ := bind_some hF
    refine mw_callV (c := 8) [] [] C dX3_takeStops_25 (T_X8_advance (zl Z) (zX Z) _ _ hq4) rfl zn8 zk8 (by decide) rfl wd425 wd359 wd360 wd2 wd361 hd_X8_advance rfl (by decide) (by decide) (Nat.le_of_ble_eq_true rfl) ⟨Nat.zero_le _, Nat.zero_le _⟩ ?_
    refine mw_aload_n 0 C dX3_takeStops_28 rfl rfl ?_
    refine mw_get (k := 0) (T := TX3) (v := rfv (xd (zX Z)) 8) C dX3_takeStops_29 zn10 zk10 (by decide) rfl inX3 (by decide) wd134 rfl (zfv_r rfl zg_10_0) ?_
    refine mw_iconst C dX3_takeStops_32 ?_
    refine mw_bipush C dX3_takeStops_33 bp_64 ?_
    obtain ⟨q5, hq5, hF⟩ := bind_some hF
    refine mw_callV (c := 8) [iv 0, iv 64] [] C dX3_takeStops_35 (T_X8_takeNumber (zl Z) (zX Z) 0 64 _ _ hq5) rfl zn8 zk8 (by decide) rfl wd451 wd452 wd453 wd2 wd454 hd_X8_takeNumber rfl (by decide) (by decide) (Nat.le_of_ble_eq_true rfl) ⟨Nat.zero_le _, Nat.zero_le _⟩ ?_
    obtain ⟨g6, hF⟩ := ck_some hF
    rcases ite_some hF with ⟨c7, hF⟩ | ⟨c7, hF⟩
    · refine mw_if_ne_t (tgt := 43) C dX3_takeStops_38 (by decide) g6 c7 ?_
      refine mw_aload_n 0 C dX3_takeStops_43 rfl rfl ?_
      refine mw_get (k := 1) (T := TX3) (v := rfv (xd (zX Z)) 11) C dX3_takeStops_44 zn10 zk10 (by decide) rfl inX3 (by decide) wd135 rfl (zfv_r rfl zg_10_1) ?_
      refine mw_get (k := 0) (T := TX5) (v := rfv (xd (zX Z)) 12) C dX3_takeStops_47 zn11 zk11 (by decide) rfl inX5 (by decide) wd120 rfl (zfv_r rfl zg_11_0) ?_
      refine mw_get (k := 2) (T := TX1) (v := rfv (xd (zX Z)) 14) C dX3_takeStops_50 zn12 zk12 (by decide) rfl inX1 (by decide) wd88 rfl (zfv_r rfl zg_12_2) ?_
      refine mw_iload_n 1 C dX3_takeStops_53 rfl rfl ?_
      refine mw_aload_n 0 C dX3_takeStops_54 rfl rfl ?_
      refine mw_get (k := 0) (T := TX3) (v := rfv (xd (zX Z)) 8) C dX3_takeStops_55 zn10 zk10 (by decide) rfl inX3 (by decide) wd134 rfl (zfv_r rfl zg_10_0) ?_
      refine mw_get (k := 8) (T := TX8) (v := iv (q5.2 8 8)) C dX3_takeStops_58 zn8 zk8 (by decide) rfl inX8 (by decide) wd51 rfl rfl ?_
      obtain ⟨g8, hF⟩ := ck_some hF
      obtain ⟨h9, eh9, hF⟩ := nx_some hF
      refine mw_iast C dX3_takeStops_61 zn14 zk14 (by decide) g8 (mw_h eh9 ?_)
      refine mw_aload_n 0 C dX3_takeStops_62 rfl rfl ?_
      refine mw_get (k := 0) (T := TX3) (v := rfv (xd (zX Z)) 8) C dX3_takeStops_63 zn10 zk10 (by decide) rfl inX3 (by decide) wd134 rfl (zfv_r rfl zg_10_0) ?_
      refine mw_ldcS 4 (by decide) rfl rfl C dX3_takeStops_66 ?_
      obtain ⟨q10, hq10, hF⟩ := bind_some hF
      refine mw_callV (c := 8) [.ref (xa (zX Z) 4)] [] C dX3_takeStops_68 (T_X8_takeWord (zl Z) (zX Z) 4 (by decide) _ _ hq10) rfl zn8 zk8 (by decide) rfl wd445 wd446 wd447 wd2 wd448 hd_X8_takeWord rfl (by decide) (by decide) (Nat.le_of_ble_eq_true rfl) ⟨Nat.zero_le _, Nat.zero_le _⟩ ?_
      obtain ⟨g11, hF⟩ := ck_some hF
      rcases ite_some hF with ⟨c12, hF⟩ | ⟨c12, hF⟩
      · refine mw_if_eq_t (tgt := 87) C dX3_takeStops_71 (by decide) g11 c12 ?_
        refine mw_iconst C dX3_takeStops_87 ?_
        cases hF
        exact mw_zret C dX3_takeStops_88 (Or.inl rfl) rfl rfl
      · refine mw_if_eq_f (tgt := 87) C dX3_takeStops_71 (by decide) g11 c12 ?_
        refine mw_aload_n 0 C dX3_takeStops_74 rfl rfl ?_
        refine mw_get (k := 0) (T := TX3) (v := rfv (xd (zX Z)) 8) C dX3_takeStops_75 zn10 zk10 (by decide) rfl inX3 (by decide) wd134 rfl (zfv_r rfl zg_10_0) ?_
        refine mw_iconst C dX3_takeStops_78 ?_
        refine mw_bipush C dX3_takeStops_79 bp_99 ?_
        obtain ⟨q13, hq13, hF⟩ := bind_some hF
        refine mw_callV (c := 8) [iv 1, iv 99] [] C dX3_takeStops_81 (T_X8_takeNumber (zl Z) (zX Z) 1 99 _ _ hq13) rfl zn8 zk8 (by decide) rfl wd451 wd452 wd453 wd2 wd454 hd_X8_takeNumber rfl (by decide) (by decide) (Nat.le_of_ble_eq_true rfl) ⟨Nat.zero_le _, Nat.zero_le _⟩ ?_
        obtain ⟨g14, hF⟩ := ck_some hF
        rcases ite_some hF with ⟨c15, hF⟩ | ⟨c15, hF⟩
        · refine mw_if_ne_t (tgt := 89) C dX3_takeStops_84 (by decide) g14 c15 ?_
          refine mw_aload_n 0 C dX3_takeStops_89 rfl rfl ?_
          refine mw_get (k := 1) (T := TX3) (v := rfv (xd (zX Z)) 11) C dX3_takeStops_90 zn10 zk10 (by decide) rfl inX3 (by decide) wd135 rfl (zfv_r rfl zg_10_1) ?_
          refine mw_get (k := 0) (T := TX5) (v := rfv (xd (zX Z)) 12) C dX3_takeStops_93 zn11 zk11 (by decide) rfl inX5 (by decide) wd120 rfl (zfv_r rfl zg_11_0) ?_
          refine mw_get (k := 3) (T := TX1) (v := rfv (xd (zX Z)) 15) C dX3_takeStops_96 zn12 zk12 (by decide) rfl inX1 (by decide) wd91 rfl (zfv_r rfl zg_12_3) ?_
          refine mw_iload_n 1 C dX3_takeStops_99 rfl rfl ?_
          refine mw_aload_n 0 C dX3_takeStops_100 rfl rfl ?_
          refine mw_get (k := 0) (T := TX3) (v := rfv (xd (zX Z)) 8) C dX3_takeStops_101 zn10 zk10 (by decide) rfl inX3 (by decide) wd134 rfl (zfv_r rfl zg_10_0) ?_
          refine mw_get (k := 8) (T := TX8) (v := iv (q13.2 8 8)) C dX3_takeStops_104 zn8 zk8 (by decide) rfl inX8 (by decide) wd51 rfl rfl ?_
          obtain ⟨h16, eh16, hF⟩ := nx_some hF
          refine mw_iast C dX3_takeStops_107 zn15 zk15 (by decide) g8 (mw_h eh16 ?_)
          refine mw_iconst C dX3_takeStops_108 ?_
          cases hF
          exact mw_zret C dX3_takeStops_109 (Or.inr rfl) rfl rfl
        · refine mw_if_ne_f (tgt := 89) C dX3_takeStops_84 (by decide) g14 c15 ?_
          refine mw_iconst C dX3_takeStops_87 ?_
          cases hF
          exact mw_zret C dX3_takeStops_88 (Or.inl rfl) rfl rfl
    · refine mw_if_ne_f (tgt := 43) C dX3_takeStops_38 (by decide) g6 c7 ?_
      refine mw_iconst C dX3_takeStops_41 ?_
      cases hF
      exact mw_zret C dX3_takeStops_42 (Or.inl rfl) rfl rfl
  · refine mw_if_eq_f (tgt := 16) C dX3_takeStops_4 (by decide) g1 c2 ?_
    refine mw_aload_n 0 C dX3_takeStops_7 rfl rfl ?_
    refine mw_get (k := 0) (T := TX3) (v := rfv (xd (zX Z)) 8) C dX3_takeStops_8 zn10 zk10 (by decide) rfl inX3 (by decide) wd134 rfl (zfv_r rfl zg_10_0) ?_
    refine mw_iconst C dX3_takeStops_11 ?_
    obtain ⟨q17, hq17, hF⟩ := bind_some hF
    refine mw_callV (c := 8) [iv 5] [] C dX3_takeStops_12 (T_X8_wrong (zl Z) (zX Z) 5 _ _ hq17) rfl zn8 zk8 (by decide) rfl wd421 wd422 wd423 wd2 wd424 hd_X8_wrong rfl (by decide) (by decide) (Nat.le_of_ble_eq_true rfl) ⟨Nat.zero_le _, Nat.zero_le _⟩ ?_
    obtain ⟨g18, hF⟩ := ck_some hF
    cases hF
    exact mw_zret C dX3_takeStops_15 g18 rfl rfl
def F_X3_takeStops (x1 : Int) (h : MH) : Option (Int × MH) := F_X3_takeStops_0 x1 h
theorem T_X3_takeStops (l : Launch) (X : XT) (x1 : Int) (h : MH) (t : (Int × MH)) (hF : F_X3_takeStops x1 h = some t) : Ct l X yX3_takeStops cX3_takeStops 2 (some .boolean) 8 [rfv (xd X) 10, iv x1] zN zG h (some (iv t.1)) zN zG t.2 0 0 := by
  refine Ct.head (by decide) (Nat.le_of_ble_eq_true rfl) (fun Z hX hl _ _ _ C => ?_)
  subst hX
  subst hl
  exact (T_X3_takeStops_0 C x1 _ _ hF)
/-! BottleLine$LineReader.takeMachine()Z -/
def F_X3_takeMachine_211 (h : MH) : Option (Int × MH) :=
  (F_X8_takeSign h).bind fun q1 =>
  ck (q1.1 = 0 ∨ q1.1 = 1) <|
  some (q1.1, q1.2)
set_option maxRecDepth 100000 in
theorem T_X3_takeMachine_211 {Z : ZT} (C : Cx Z cX3_takeMachine 3 RX3 9 (some .boolean)) (h : MH) (t : (Int × MH)) (hF : F_X3_takeMachine_211 h = some t) : MW Z (Qm Z (some (iv t.1)) zN zG t.2 0 0) 3 zN zG h 0 0 211 [(0, rfv (xd (zX Z)) 10)] [] := by
  unfold F_X3_takeMachine_211 at hF
  refine mw_aload_n 0 C dX3_takeMachine_211 rfl rfl ?_
  refine mw_get (k := 0) (T := TX3) (v := rfv (xd (zX Z)) 8) C dX3_takeMachine_212 zn10 zk10 (by decide) rfl inX3 (by decide) wd134 rfl (zfv_r rfl zg_10_0) ?_
  obtain ⟨q1, hq1, hF⟩ := bind_some hF
  refine mw_callV (c := 8) [] [] C dX3_takeMachine_215 (T_X8_takeSign (zl Z) (zX Z) _ _ hq1) rfl zn8 zk8 (by decide) rfl wd461 wd462 wd463 wd2 wd464 hd_X8_takeSign rfl (by decide) (by decide) (Nat.le_of_ble_eq_true rfl) ⟨Nat.zero_le _, Nat.zero_le _⟩ ?_
  obtain ⟨g2, hF⟩ := ck_some hF
  cases hF
  exact mw_zret C dX3_takeMachine_218 g2 rfl rfl
def F_X3_takeMachine_205 (k143 : Int → Int → MH → Option (Int × MH)) (x1 : Int) (x2 : Int) (h : MH) : Option (Int × MH) :=
  k143 x1 (x2 + 1) h
set_option maxRecDepth 100000 in
theorem T_X3_takeMachine_205 {Z : ZT} (C : Cx Z cX3_takeMachine 3 RX3 9 (some .boolean)) (k143 : Int → Int → MH → Option (Int × MH)) (hk143 : ∀ (x1 : Int) (x2 : Int) (h : MH) (t : (Int × MH)), k143 x1 x2 h = some t → MW Z (Qm Z (some (iv t.1)) zN zG t.2 0 0) 3 zN zG h 0 0 143 [(0, rfv (xd (zX Z)) 10), (1, iv x1), (2, iv x2)] []) (x1 : Int) (x2 : Int) (h : MH) (t : (Int × MH)) (hF : F_X3_takeMachine_205 k143 x1 x2 h = some t) : MW Z (Qm Z (some (iv t.1)) zN zG t.2 0 0) 3 zN zG h 0 0 205 [(0, rfv (xd (zX Z)) 10), (1, iv x1), (2, iv x2)] [] := by
  unfold F_X3_takeMachine_205 at hF
  refine mw_iinc 2 [(2, iv (x2 + 1)), (0, rfv (xd (zX Z)) 10), (1, iv x1)] C dX3_takeMachine_205 rfl (by decide) rfl ?_
  refine mw_goto (tgt := 143) C dX3_takeMachine_208 (by decide) ?_
  refine mw_sub [1, 2, 0] rfl ?_
  exact hk143 x1 (x2 + 1) _ _ hF
def F_X3_takeMachine_172 (k143 : Int → Int → MH → Option (Int × MH)) (x1 : Int) (x2 : Int) (h : MH) : Option (Int × MH) :=
  (F_X8_is 2 h).bind fun q1 =>
  ck (in32 q1.1) <|
  if q1.1 = 0 then
    (F_X3_takeStops x1 q1.2).bind fun q4 =>
    ck (in32 q4.1) <|
    if q4.1 ≠ 0 then
      F_X3_takeMachine_205 k143 x1 x2 q4.2
    else
      some (0, q4.2)
  else
    (F_X3_takeHeads x1 q1.2).bind fun q7 =>
    ck (in32 q7.1) <|
    if q7.1 = 0 then
      some (0, q7.2)
    else
      F_X3_takeMachine_205 k143 x1 x2 q7.2
set_option maxRecDepth 100000 in
theorem T_X3_takeMachine_172 {Z : ZT} (C : Cx Z cX3_takeMachine 3 RX3 9 (some .boolean)) (k143 : Int → Int → MH → Option (Int × MH)) (hk143 : ∀ (x1 : Int) (x2 : Int) (h : MH) (t : (Int × MH)), k143 x1 x2 h = some t → MW Z (Qm Z (some (iv t.1)) zN zG t.2 0 0) 3 zN zG h 0 0 143 [(0, rfv (xd (zX Z)) 10), (1, iv x1), (2, iv x2)] []) (x1 : Int) (x2 : Int) (h : MH) (t : (Int × MH)) (hF : F_X3_takeMachine_172 k143 x1 x2 h = some t) : MW Z (Qm Z (some (iv t.1)) zN zG t.2 0 0) 3 zN zG h 0 0 172 [(0, rfv (xd (zX Z)) 10), (1, iv x1), (2, iv x2)] [] := by
  unfold F_X3_takeMachine_172 at hF
  refine mw_aload_n 0 C dX3_takeMachine_172 rfl rfl ?_
  refine mw_get (k := 0) (T := TX3) (v := rfv (xd (zX Z)) 8) C dX3_takeMachine_173 zn10 zk10 (by decide) rfl inX3 (by decide) wd134 rfl (zfv_r rfl zg_10_0) ?_
  refine mw_ldcS 2 (by decide) rfl rfl C dX3_takeMachine_176 ?_
  obtain ⟨q1, hq1, hF⟩ := bind_some hF
  refine mw_callV (c := 8) [.ref (xa (zX Z) 2)] [] C dX3_takeMachine_178 (T_X8_is (zl Z) (zX Z) 2 (by decide) _ _ hq1) rfl zn8 zk8 (by decide) rfl wd371 wd372 wd373 wd2 wd374 hd_X8_is rfl (by decide) (by decide) (Nat.le_of_ble_eq_true rfl) ⟨Nat.zero_le _, Nat.zero_le _⟩ ?_
  obtain ⟨g2, hF⟩ := ck_some hF
  rcases ite_some hF with ⟨c3, hF⟩ | ⟨c3, hF⟩
  · refine mw_if_eq_t (tgt := 195) C dX3_takeMachine_181 (by decide) g2 c3 ?_
    refine mw_aload_n 0 C dX3_takeMachine_195 rfl rfl ?_
    refine mw_iload_n 1 C dX3_takeMachine_196 rfl rfl ?_
    obtain ⟨q4, hq4, hF⟩ := bind_some hF
    refine mw_callV (c := 10) [iv x1] [] C dX3_takeMachine_197 (T_X3_takeStops (zl Z) (zX Z) x1 _ _ hq4) rfl zn10 zk10 (by decide) rfl wd458 wd459 wd1319 wd3 wd460 hd_X3_takeStops rfl (by decide) (by decide) (Nat.le_of_ble_eq_true rfl) ⟨Nat.zero_le _, Nat.zero_le _⟩ ?_
    obtain ⟨g5, hF⟩ := ck_some hF
    rcases ite_some hF with ⟨c6, hF⟩ | ⟨c6, hF⟩
    · refine mw_if_ne_t (tgt := 205) C dX3_takeMachine_200 (by decide) g5 c6 ?_
      exact T_X3_takeMachine_205 C k143 hk143 x1 x2 _ _ hF
    · refine mw_if_ne_f (tgt := 205) C dX3_takeMachine_200 (by decide) g5 c6 ?_
      refine mw_iconst C dX3_takeMachine_203 ?_
      cases hF
      exact mw_zret C dX3_takeMachine_204 (Or.inl rfl) rfl rfl
  · refine mw_if_eq_f (tgt := 195) C dX3_takeMachine_181 (by decide) g2 c3 ?_
    refine mw_aload_n 0 C dX3_takeMachine_184 rfl rfl ?_
    refine mw_iload_n 1 C dX3_takeMachine_185 rfl rfl ?_
    obtain ⟨q7, hq7, hF⟩ := bind_some hF
    refine mw_callV (c := 10) [iv x1] [] C dX3_takeMachine_186 (T_X3_takeHeads (zl Z) (zX Z) x1 _ _ hq7) rfl zn10 zk10 (by decide) rfl wd455 wd456 wd1318 wd3 wd457 hd_X3_takeHeads rfl (by decide) (by decide) (Nat.le_of_ble_eq_true rfl) ⟨Nat.zero_le _, Nat.zero_le _⟩ ?_
    obtain ⟨g8, hF⟩ := ck_some hF
    rcases ite_some hF with ⟨c9, hF⟩ | ⟨c9, hF⟩
    · refine mw_if_eq_t (tgt := 203) C dX3_takeMachine_189 (by decide) g8 c9 ?_
      refine mw_iconst C dX3_takeMachine_203 ?_
      cases hF
      exact mw_zret C dX3_takeMachine_204 (Or.inl rfl) rfl rfl
    · refine mw_if_eq_f (tgt := 203) C dX3_takeMachine_189 (by decide) g8 c9 ?_
      refine mw_goto (tgt := 205) C dX3_takeMachine_192 (by decide) ?_
      exact T_X3_takeMachine_205 C k143 hk143 x1 x2 _ _ hF
def F_X3_takeMachine_143 : Nat → Int → Int → MH → Option (Int × MH)
  | 0, _, _, _ => none
  | n + 1, x1, x2, h =>
    ck (in32 x2) <|
    if 3 ≤ x2 then
      F_X3_takeMachine_211 h
    else
      (F_X8_is 2 h).bind fun q3 =>
      ck (in32 q3.1) <|
      if q3.1 ≠ 0 then
        F_X3_takeMachine_172 (F_X3_takeMachine_143 n) x1 x2 q3.2
      else
        (F_X8_is 3 q3.2).bind fun q6 =>
        ck (in32 q6.1) <|
        if q6.1 = 0 then
          F_X3_takeMachine_211 q6.2
        else
          F_X3_takeMachine_172 (F_X3_takeMachine_143 n) x1 x2 q6.2
set_option maxRecDepth 100000 in
theorem T_X3_takeMachine_143 {Z : ZT} (C : Cx Z cX3_takeMachine 3 RX3 9 (some .boolean)) : ∀ (n : Nat) (x1 : Int) (x2 : Int) (h : MH) (t : (Int × MH)), F_X3_takeMachine_143 n x1 x2 h = some t → MW Z (Qm Z (some (iv t.1)) zN zG t.2 0 0) 3 zN zG h 0 0 143 [(0, rfv (xd (zX Z)) 10), (1, iv x1), (2, iv x2)] [] := by
  intro n
  induction n with
  | zero =>
    intros
    rename_i hF
    exact absurd hF (by intro q; cases q)
  | succ n ih =>
    intro x1 x2 h t hF
    rw [F_X3_takeMachine_143] at hF
    refine mw_iload_n 2 C dX3_takeMachine_143 rfl rfl ?_
    refine mw_iconst C dX3_takeMachine_144 ?_
    obtain ⟨g1, hF⟩ := ck_some hF
    rcases ite_some hF with ⟨c2, hF⟩ | ⟨c2, hF⟩
    · refine mw_icmp_ge_t (tgt := 211) C dX3_takeMachine_145 (by decide) g1 (by decide) c2 ?_
      refine mw_sub [0] rfl ?_
      exact T_X3_takeMachine_211 C _ _ hF
    · refine mw_icmp_ge_f (tgt := 211) C dX3_takeMachine_145 (by decide) g1 (by decide) c2 ?_
      refine mw_aload_n 0 C dX3_takeMachine_148 rfl rfl ?_
      refine mw_get (k := 0) (T := TX3) (v := rfv (xd (zX Z)) 8) C dX3_takeMachine_149 zn10 zk10 (by decide) rfl inX3 (by decide) wd134 rfl (zfv_r rfl zg_10_0) ?_
      refine mw_ldcS 2 (by decide) rfl rfl C dX3_takeMachine_152 ?_
      obtain ⟨q3, hq3, hF⟩ := bind_some hF
      refine mw_callV (c := 8) [.ref (xa (zX Z) 2)] [] C dX3_takeMachine_154 (T_X8_is (zl Z) (zX Z) 2 (by decide) _ _ hq3) rfl zn8 zk8 (by decide) rfl wd371 wd372 wd373 wd2 wd374 hd_X8_is rfl (by decide) (by decide) (Nat.le_of_ble_eq_true rfl) ⟨Nat.zero_le _, Nat.zero_le _⟩ ?_
      obtain ⟨g4, hF⟩ := ck_some hF
      rcases ite_some hF with ⟨c5, hF⟩ | ⟨c5, hF⟩
      · refine mw_if_ne_t (tgt := 172) C dX3_takeMachine_157 (by decide) g4 c5 ?_
        exact T_X3_takeMachine_172 C (F_X3_takeMachine_143 n) ih x1 x2 _ _ hF
      · refine mw_if_ne_f (tgt := 172) C dX3_takeMachine_157 (by decide) g4 c5 ?_
        refine mw_aload_n 0 C dX3_takeMachine_160 rfl rfl ?_
        refine mw_get (k := 0) (T := TX3) (v := rfv (xd (zX Z)) 8) C dX3_takeMachine_161 zn10 zk10 (by decide) rfl inX3 (by decide) wd134 rfl (zfv_r rfl zg_10_0) ?_
        refine mw_ldcS 3 (by decide) rfl rfl C dX3_takeMachine_164 ?_
        obtain ⟨q6, hq6, hF⟩ := bind_some hF
        refine mw_callV (c := 8) [.ref (xa (zX Z) 3)] [] C dX3_takeMachine_166 (T_X8_is (zl Z) (zX Z) 3 (by decide) _ _ hq6) rfl zn8 zk8 (by decide) rfl wd371 wd372 wd373 wd2 wd374 hd_X8_is rfl (by decide) (by decide) (Nat.le_of_ble_eq_true rfl) ⟨Nat.zero_le _, Nat.zero_le _⟩ ?_
        obtain ⟨g7, hF⟩ := ck_some hF
        rcases ite_some hF with ⟨c8, hF⟩ | ⟨c8, hF⟩
        · refine mw_if_eq_t (tgt := 211) C dX3_takeMachine_169 (by decide) g7 c8 ?_
          refine mw_sub [0] rfl ?_
          exact T_X3_takeMachine_211 C _ _ hF
        · refine mw_if_eq_f (tgt := 211) C dX3_takeMachine_169 (by decide) g7 c8 ?_
          exact T_X3_takeMachine_172 C (F_X3_takeMachine_143 n) ih x1 x2 _ _ hF
def F_X3_takeMachine_0 (h : MH) : Option (Int × MH) :=
  nx (h 12 0) fun v1 =>
  ck (in32 v1) <|
  if v1 < 6 then
    (F_X8_advance h).bind fun q4 =>
    (F_X3_isName q4).bind fun q5 =>
    ck (in32 q5.1) <|
    if q5.1 ≠ 0 then
      (F_X5_machineNamed 11 (q5.2 8 6) q5.2).bind fun q8 =>
      ck (in32 q8.1) <|
      if q8.1 = (-1) then
        (F_X3_addMachine v1 (q8.2 8 6) q8.2).bind fun q11 =>
        (F_X8_advance q11).bind fun q12 =>
        (F_X8_takeWord 1 q12).bind fun q13 =>
        ck (in32 q13.1) <|
        if q13.1 = 0 then
          some (0, q13.2)
        else
          (F_X8_takeNumber 1 99 q13.2).bind fun q16 =>
          ck (in32 q16.1) <|
          if q16.1 ≠ 0 then
            ck (0 ≤ v1 ∧ v1 < 6) <|
            nx (hup q16.2 13 v1.toNat (q16.2 8 8)) fun h20 =>
            F_X3_takeMachine_143 20000 v1 0 h20
          else
            some (0, q16.2)
      else
        (F_X8_wrong 3 q8.2).bind fun q21 =>
        ck (q21.1 = 0 ∨ q21.1 = 1) <|
        some (q21.1, q21.2)
    else
      (F_X8_misplaced q5.2).bind fun q23 =>
      ck (q23.1 = 0 ∨ q23.1 = 1) <|
      some (q23.1, q23.2)
  else
    (F_X8_wrong 6 h).bind fun q25 =>
    ck (q25.1 = 0 ∨ q25.1 = 1) <|
    some (q25.1, q25.2)
set_option maxRecDepth 100000 in
theorem T_X3_takeMachine_0 {Z : ZT} (C : Cx Z cX3_takeMachine 3 RX3 9 (some .boolean)) (h : MH) (t : (Int × MH)) (hF : F_X3_takeMachine_0 h = some t) : MW Z (Qm Z (some (iv t.1)) zN zG t.2 0 0) 3 zN zG h 0 0 0 [(0, rfv (xd (zX Z)) 10)] [] := by
  unfold F_X3_takeMachine_0 at hF
  refine mw_aload_n 0 C dX3_takeMachine_0 rfl rfl ?_
  refine mw_get (k := 1) (T := TX3) (v := rfv (xd (zX Z)) 11) C dX3_takeMachine_1 zn10 zk10 (by decide) rfl inX3 (by decide) wd135 rfl (zfv_r rfl zg_10_1) ?_
  refine mw_get (k := 0) (T := TX5) (v := rfv (xd (zX Z)) 12) C dX3_takeMachine_4 zn11 zk11 (by decide) rfl inX5 (by decide) wd120 rfl (zfv_r rfl zg_11_0) ?_
  refine mw_get (k := 0) (T := TX1) (v := iv (h 12 0)) C dX3_takeMachine_7 zn12 zk12 (by decide) rfl inX1 (by decide) wd80 rfl rfl ?_
  obtain ⟨v1, ev1, hF⟩ := nx_some hF
  refine mw_ti ev1 ?_
  refine mw_istore_n [(1, iv v1), (0, rfv (xd (zX Z)) 10)] C dX3_takeMachine_10 rfl (by decide) rfl ?_
  refine mw_iload_n 0 C dX3_takeMachine_11 rfl rfl ?_
  refine mw_bipush C dX3_takeMachine_12 bp_6 ?_
  obtain ⟨g2, hF⟩ := ck_some hF
  rcases ite_some hF with ⟨c3, hF⟩ | ⟨c3, hF⟩
  · refine mw_icmp_lt_t (tgt := 27) C dX3_takeMachine_14 (by decide) g2 (by decide) c3 ?_
    refine mw_aload_n 1 C dX3_takeMachine_27 rfl rfl ?_
    refine mw_get (k := 0) (T := TX3) (v := rfv (xd (zX Z)) 8) C dX3_takeMachine_28 zn10 zk10 (by decide) rfl inX3 (by decide) wd134 rfl (zfv_r rfl zg_10_0) ?_
    obtain ⟨q4, hq4, hF⟩ := bind_some hF
    refine mw_callV (c := 8) [] [] C dX3_takeMachine_31 (T_X8_advance (zl Z) (zX Z) _ _ hq4) rfl zn8 zk8 (by decide) rfl wd425 wd359 wd360 wd2 wd361 hd_X8_advance rfl (by decide) (by decide) (Nat.le_of_ble_eq_true rfl) ⟨Nat.zero_le _, Nat.zero_le _⟩ ?_
    refine mw_aload_n 1 C dX3_takeMachine_34 rfl rfl ?_
    obtain ⟨q5, hq5, hF⟩ := bind_some hF
    refine mw_callV (c := 10) [] [] C dX3_takeMachine_35 (T_X3_isName (zl Z) (zX Z) _ _ hq5) rfl zn10 zk10 (by decide) rfl wd426 wd427 wd1316 wd3 wd428 hd_X3_isName rfl (by decide) (by decide) (Nat.le_of_ble_eq_true rfl) ⟨Nat.zero_le _, Nat.zero_le _⟩ ?_
    obtain ⟨g6, hF⟩ := ck_some hF
    rcases ite_some hF with ⟨c7, hF⟩ | ⟨c7, hF⟩
    · refine mw_if_ne_t (tgt := 49) C dX3_takeMachine_38 (by decide) g6 c7 ?_
      refine mw_aload_n 1 C dX3_takeMachine_49 rfl rfl ?_
      refine mw_get (k := 1) (T := TX3) (v := rfv (xd (zX Z)) 11) C dX3_takeMachine_50 zn10 zk10 (by decide) rfl inX3 (by decide) wd135 rfl (zfv_r rfl zg_10_1) ?_
      refine mw_aload_n 1 C dX3_takeMachine_53 rfl rfl ?_
      refine mw_get (k := 0) (T := TX3) (v := rfv (xd (zX Z)) 8) C dX3_takeMachine_54 zn10 zk10 (by decide) rfl inX3 (by decide) wd134 rfl (zfv_r rfl zg_10_0) ?_
      refine mw_get (k := 6) (T := TX8) (v := lvv (q5.2 8 6)) C dX3_takeMachine_57 zn8 zk8 (by decide) rfl inX8 (by decide) wd47 rfl rfl ?_
      obtain ⟨q8, hq8, hF⟩ := bind_some hF
      refine mw_callV (c := 11) [lvv (q5.2 8 6)] [] C dX3_takeMachine_60 (T_X5_machineNamed (zl Z) (zX Z) 11 (q5.2 8 6) ok_11 _ _ hq8) rfl zn11 zk11 (by decide) rfl wd438 wd439 wd440 wd4 wd441 hd_X5_machineNamed rfl (by decide) (by decide) (Nat.le_of_ble_eq_true rfl) ⟨Nat.zero_le _, Nat.zero_le _⟩ ?_
      refine mw_iconst C dX3_takeMachine_63 ?_
      obtain ⟨g9, hF⟩ := ck_some hF
      rcases ite_some hF with ⟨c10, hF⟩ | ⟨c10, hF⟩
      · refine mw_icmp_eq_t (tgt := 76) C dX3_takeMachine_64 (by decide) g9 (by decide) c10 ?_
        refine mw_aload_n 1 C dX3_takeMachine_76 rfl rfl ?_
        refine mw_iload_n 0 C dX3_takeMachine_77 rfl rfl ?_
        refine mw_aload_n 1 C dX3_takeMachine_78 rfl rfl ?_
        refine mw_get (k := 0) (T := TX3) (v := rfv (xd (zX Z)) 8) C dX3_takeMachine_79 zn10 zk10 (by decide) rfl inX3 (by decide) wd134 rfl (zfv_r rfl zg_10_0) ?_
        refine mw_get (k := 6) (T := TX8) (v := lvv (q8.2 8 6)) C dX3_takeMachine_82 zn8 zk8 (by decide) rfl inX8 (by decide) wd47 rfl rfl ?_
        obtain ⟨q11, hq11, hF⟩ := bind_some hF
        refine mw_callV (c := 10) [iv v1, lvv (q8.2 8 6)] [] C dX3_takeMachine_85 (T_X3_addMachine (zl Z) (zX Z) v1 (q8.2 8 6) _ _ hq11) rfl zn10 zk10 (by decide) rfl wd442 wd443 wd1317 wd3 wd444 hd_X3_addMachine rfl (by decide) (by decide) (Nat.le_of_ble_eq_true rfl) ⟨Nat.zero_le _, Nat.zero_le _⟩ ?_
        refine mw_aload_n 1 C dX3_takeMachine_88 rfl rfl ?_
        refine mw_get (k := 0) (T := TX3) (v := rfv (xd (zX Z)) 8) C dX3_takeMachine_89 zn10 zk10 (by decide) rfl inX3 (by decide) wd134 rfl (zfv_r rfl zg_10_0) ?_
        obtain ⟨q12, hq12, hF⟩ := bind_some hF
        refine mw_callV (c := 8) [] [] C dX3_takeMachine_92 (T_X8_advance (zl Z) (zX Z) _ _ hq12) rfl zn8 zk8 (by decide) rfl wd425 wd359 wd360 wd2 wd361 hd_X8_advance rfl (by decide) (by decide) (Nat.le_of_ble_eq_true rfl) ⟨Nat.zero_le _, Nat.zero_le _⟩ ?_
        refine mw_aload_n 1 C dX3_takeMachine_95 rfl rfl ?_
        refine mw_get (k := 0) (T := TX3) (v := rfv (xd (zX Z)) 8) C dX3_takeMachine_96 zn10 zk10 (by decide) rfl inX3 (by decide) wd134 rfl (zfv_r rfl zg_10_0) ?_
        refine mw_ldcS 1 (by decide) rfl rfl C dX3_takeMachine_99 ?_
        obtain ⟨q13, hq13, hF⟩ := bind_some hF
        refine mw_callV (c := 8) [.ref (xa (zX Z) 1)] [] C dX3_takeMachine_101 (T_X8_takeWord (zl Z) (zX Z) 1 (by decide) _ _ hq13) rfl zn8 zk8 (by decide) rfl wd445 wd446 wd447 wd2 wd448 hd_X8_takeWord rfl (by decide) (by decide) (Nat.le_of_ble_eq_true rfl) ⟨Nat.zero_le _, Nat.zero_le _⟩ ?_
        obtain ⟨g14, hF⟩ := ck_some hF
        rcases ite_some hF with ⟨c15, hF⟩ | ⟨c15, hF⟩
        · refine mw_if_eq_t (tgt := 120) C dX3_takeMachine_104 (by decide) g14 c15 ?_
          refine mw_iconst C dX3_takeMachine_120 ?_
          cases hF
          exact mw_zret C dX3_takeMachine_121 (Or.inl rfl) rfl rfl
        · refine mw_if_eq_f (tgt := 120) C dX3_takeMachine_104 (by decide) g14 c15 ?_
          refine mw_aload_n 1 C dX3_takeMachine_107 rfl rfl ?_
          refine mw_get (k := 0) (T := TX3) (v := rfv (xd (zX Z)) 8) C dX3_takeMachine_108 zn10 zk10 (by decide) rfl inX3 (by decide) wd134 rfl (zfv_r rfl zg_10_0) ?_
          refine mw_iconst C dX3_takeMachine_111 ?_
          refine mw_bipush C dX3_takeMachine_112 bp_99 ?_
          obtain ⟨q16, hq16, hF⟩ := bind_some hF
          refine mw_callV (c := 8) [iv 1, iv 99] [] C dX3_takeMachine_114 (T_X8_takeNumber (zl Z) (zX Z) 1 99 _ _ hq16) rfl zn8 zk8 (by decide) rfl wd451 wd452 wd453 wd2 wd454 hd_X8_takeNumber rfl (by decide) (by decide) (Nat.le_of_ble_eq_true rfl) ⟨Nat.zero_le _, Nat.zero_le _⟩ ?_
          obtain ⟨g17, hF⟩ := ck_some hF
          rcases ite_some hF with ⟨c18, hF⟩ | ⟨c18, hF⟩
          · refine mw_if_ne_t (tgt := 122) C dX3_takeMachine_117 (by decide) g17 c18 ?_
            refine mw_aload_n 1 C dX3_takeMachine_122 rfl rfl ?_
            refine mw_get (k := 1) (T := TX3) (v := rfv (xd (zX Z)) 11) C dX3_takeMachine_123 zn10 zk10 (by decide) rfl inX3 (by decide) wd135 rfl (zfv_r rfl zg_10_1) ?_
            refine mw_get (k := 0) (T := TX5) (v := rfv (xd (zX Z)) 12) C dX3_takeMachine_126 zn11 zk11 (by decide) rfl inX5 (by decide) wd120 rfl (zfv_r rfl zg_11_0) ?_
            refine mw_get (k := 1) (T := TX1) (v := rfv (xd (zX Z)) 13) C dX3_takeMachine_129 zn12 zk12 (by decide) rfl inX1 (by decide) wd84 rfl (zfv_r rfl zg_12_1) ?_
            refine mw_iload_n 0 C dX3_takeMachine_132 rfl rfl ?_
            refine mw_aload_n 1 C dX3_takeMachine_133 rfl rfl ?_
            refine mw_get (k := 0) (T := TX3) (v := rfv (xd (zX Z)) 8) C dX3_takeMachine_134 zn10 zk10 (by decide) rfl inX3 (by decide) wd134 rfl (zfv_r rfl zg_10_0) ?_
            refine mw_get (k := 8) (T := TX8) (v := iv (q16.2 8 8)) C dX3_takeMachine_137 zn8 zk8 (by decide) rfl inX8 (by decide) wd51 rfl rfl ?_
            obtain ⟨g19, hF⟩ := ck_some hF
            obtain ⟨h20, eh20, hF⟩ := nx_some hF
            refine mw_iast C dX3_takeMachine_140 zn13 zk13 (by decide) g19 (mw_h eh20 ?_)
            refine mw_iconst C dX3_takeMachine_141 ?_
            refine mw_istore_n [(2, iv 0), (1, iv v1), (0, rfv (xd (zX Z)) 10)] C dX3_takeMachine_142 rfl (by decide) rfl ?_
            refine mw_sub [2, 1, 0] rfl ?_
            exact T_X3_takeMachine_143 C 20000 v1 0 _ _ hF
          · refine mw_if_ne_f (tgt := 122) C dX3_takeMachine_117 (by decide) g17 c18 ?_
            refine mw_iconst C dX3_takeMachine_120 ?_
            cases hF
            exact mw_zret C dX3_takeMachine_121 (Or.inl rfl) rfl rfl
      · refine mw_icmp_eq_f (tgt := 76) C dX3_takeMachine_64 (by decide) g9 (by decide) c10 ?_
        refine mw_aload_n 1 C dX3_takeMachine_67 rfl rfl ?_
        refine mw_get (k := 0) (T := TX3) (v := rfv (xd (zX Z)) 8) C dX3_takeMachine_68 zn10 zk10 (by decide) rfl inX3 (by decide) wd134 rfl (zfv_r rfl zg_10_0) ?_
        refine mw_iconst C dX3_takeMachine_71 ?_
        obtain ⟨q21, hq21, hF⟩ := bind_some hF
        refine mw_callV (c := 8) [iv 3] [] C dX3_takeMachine_72 (T_X8_wrong (zl Z) (zX Z) 3 _ _ hq21) rfl zn8 zk8 (by decide) rfl wd421 wd422 wd423 wd2 wd424 hd_X8_wrong rfl (by decide) (by decide) (Nat.le_of_ble_eq_true rfl) ⟨Nat.zero_le _, Nat.zero_le _⟩ ?_
        obtain ⟨g22, hF⟩ := ck_some hF
        cases hF
        exact mw_zret C dX3_takeMachine_75 g22 rfl rfl
    · refine mw_if_ne_f (tgt := 49) C dX3_takeMachine_38 (by decide) g6 c7 ?_
      refine mw_aload_n 1 C dX3_takeMachine_41 rfl rfl ?_
      refine mw_get (k := 0) (T := TX3) (v := rfv (xd (zX Z)) 8) C dX3_takeMachine_42 zn10 zk10 (by decide) rfl inX3 (by decide) wd134 rfl (zfv_r rfl zg_10_0) ?_
      obtain ⟨q23, hq23, hF⟩ := bind_some hF
      refine mw_callV (c := 8) [] [] C dX3_takeMachine_45 (T_X8_misplaced (zl Z) (zX Z) _ _ hq23) rfl zn8 zk8 (by decide) rfl wd433 wd434 wd435 wd2 wd436 hd_X8_misplaced rfl (by decide) (by decide) (Nat.le_of_ble_eq_true rfl) ⟨Nat.zero_le _, Nat.zero_le _⟩ ?_
      obtain ⟨g24, hF⟩ := ck_some hF
      cases hF
      exact mw_zret C dX3_takeMachine_48 g24 rfl rfl
  · refine mw_icmp_lt_f (tgt := 27) C dX3_takeMachine_14 (by decide) g2 (by decide) c3 ?_
    refine mw_aload_n 1 C dX3_takeMachine_17 rfl rfl ?_
    refine mw_get (k := 0) (T := TX3) (v := rfv (xd (zX Z)) 8) C dX3_takeMachine_18 zn10 zk10 (by decide) rfl inX3 (by decide) wd134 rfl (zfv_r rfl zg_10_0) ?_
    refine mw_bipush C dX3_takeMachine_21 bp_6 ?_
    obtain ⟨q25, hq25, hF⟩ := bind_some hF
    refine mw_callV (c := 8) [iv 6] [] C dX3_takeMachine_23 (T_X8_wrong (zl Z) (zX Z) 6 _ _ hq25) rfl zn8 zk8 (by decide) rfl wd421 wd422 wd423 wd2 wd424 hd_X8_wrong rfl (by decide) (by decide) (Nat.le_of_ble_eq_true rfl) ⟨Nat.zero_le _, Nat.zero_le _⟩ ?_
    obtain ⟨g26, hF⟩ := ck_some hF
    cases hF
    exact mw_zret C dX3_takeMachine_26 g26 rfl rfl
def F_X3_takeMachine (h : MH) : Option (Int × MH) := F_X3_takeMachine_0 h
theorem T_X3_takeMachine (l : Launch) (X : XT) (h : MH) (t : (Int × MH)) (hF : F_X3_takeMachine h = some t) : Ct l X yX3_takeMachine cX3_takeMachine 3 (some .boolean) 9 [rfv (xd X) 10] zN zG h (some (iv t.1)) zN zG t.2 0 0 := by
  refine Ct.head (by decide) (Nat.le_of_ble_eq_true rfl) (fun Z hX hl _ _ _ C => ?_)
  subst hX
  subst hl
  exact (T_X3_takeMachine_0 C _ _ hF)
/-! BottleLine$LineReader.takeTable()Z -/
def F_X3_takeTable_24 (h : MH) : Option (Int × MH) :=
  (F_X8_wrong 5 h).bind fun q1 =>
  ck (q1.1 = 0 ∨ q1.1 = 1) <|
  some (q1.1, q1.2)
set_option maxRecDepth 100000 in
theorem T_X3_takeTable_24 {Z : ZT} (C : Cx Z cX3_takeTable 2 RX3 4 (some .boolean)) (h : MH) (t : (Int × MH)) (hF : F_X3_takeTable_24 h = some t) : MW Z (Qm Z (some (iv t.1)) zN zG t.2 0 0) 2 zN zG h 0 0 24 [(0, rfv (xd (zX Z)) 10)] [] := by
  unfold F_X3_takeTable_24 at hF
  refine mw_aload_n 0 C dX3_takeTable_24 rfl rfl ?_
  refine mw_get (k := 0) (T := TX3) (v := rfv (xd (zX Z)) 8) C dX3_takeTable_25 zn10 zk10 (by decide) rfl inX3 (by decide) wd134 rfl (zfv_r rfl zg_10_0) ?_
  refine mw_iconst C dX3_takeTable_28 ?_
  obtain ⟨q1, hq1, hF⟩ := bind_some hF
  refine mw_callV (c := 8) [iv 5] [] C dX3_takeTable_29 (T_X8_wrong (zl Z) (zX Z) 5 _ _ hq1) rfl zn8 zk8 (by decide) rfl wd421 wd422 wd423 wd2 wd424 hd_X8_wrong rfl (by decide) (by decide) (Nat.le_of_ble_eq_true rfl) ⟨Nat.zero_le _, Nat.zero_le _⟩ ?_
  obtain ⟨g2, hF⟩ := ck_some hF
  cases hF
  exact mw_zret C dX3_takeTable_32 g2 rfl rfl
def F_X3_takeTable_0 (h : MH) : Option (Int × MH) :=
  nx ((h 12 0) - 1) fun v1 =>
  ck (in32 v1) <|
  if v1 < 0 then
    F_X3_takeTable_24 h
  else
    ck (in32 (h 10 5)) <|
    if (h 10 5) = 0 then
      nx (hup h 10 5 1) fun h6 =>
      (F_X8_advance h6).bind fun q7 =>
      (F_X8_takeNumber 0 999 q7).bind fun q8 =>
      ck (in32 q8.1) <|
      if q8.1 ≠ 0 then
        ck (0 ≤ v1 ∧ v1 < 6) <|
        nx (hup q8.2 16 v1.toNat (q8.2 8 8)) fun h12 =>
        (F_X8_takeSign h12).bind fun q13 =>
        ck (q13.1 = 0 ∨ q13.1 = 1) <|
        some (q13.1, q13.2)
      else
        some (0, q8.2)
    else
      F_X3_takeTable_24 h
set_option maxRecDepth 100000 in
theorem T_X3_takeTable_0 {Z : ZT} (C : Cx Z cX3_takeTable 2 RX3 4 (some .boolean)) (h : MH) (t : (Int × MH)) (hF : F_X3_takeTable_0 h = some t) : MW Z (Qm Z (some (iv t.1)) zN zG t.2 0 0) 2 zN zG h 0 0 0 [(0, rfv (xd (zX Z)) 10)] [] := by
  unfold F_X3_takeTable_0 at hF
  refine mw_aload_n 0 C dX3_takeTable_0 rfl rfl ?_
  refine mw_get (k := 1) (T := TX3) (v := rfv (xd (zX Z)) 11) C dX3_takeTable_1 zn10 zk10 (by decide) rfl inX3 (by decide) wd135 rfl (zfv_r rfl zg_10_1) ?_
  refine mw_get (k := 0) (T := TX5) (v := rfv (xd (zX Z)) 12) C dX3_takeTable_4 zn11 zk11 (by decide) rfl inX5 (by decide) wd120 rfl (zfv_r rfl zg_11_0) ?_
  refine mw_get (k := 0) (T := TX1) (v := iv (h 12 0)) C dX3_takeTable_7 zn12 zk12 (by decide) rfl inX1 (by decide) wd80 rfl rfl ?_
  refine mw_iconst C dX3_takeTable_10 ?_
  refine mw_isub C dX3_takeTable_11 ?_
  obtain ⟨v1, ev1, hF⟩ := nx_some hF
  refine mw_ti ev1 ?_
  refine mw_istore_n [(1, iv v1), (0, rfv (xd (zX Z)) 10)] C dX3_takeTable_12 rfl (by decide) rfl ?_
  refine mw_iload_n 0 C dX3_takeTable_13 rfl rfl ?_
  obtain ⟨g2, hF⟩ := ck_some hF
  rcases ite_some hF with ⟨c3, hF⟩ | ⟨c3, hF⟩
  · refine mw_if_lt_t (tgt := 24) C dX3_takeTable_14 (by decide) g2 c3 ?_
    refine mw_sub [1] rfl ?_
    exact T_X3_takeTable_24 C _ _ hF
  · refine mw_if_lt_f (tgt := 24) C dX3_takeTable_14 (by decide) g2 c3 ?_
    refine mw_aload_n 1 C dX3_takeTable_17 rfl rfl ?_
    refine mw_get (k := 5) (T := TX3) (v := iv (h 10 5)) C dX3_takeTable_18 zn10 zk10 (by decide) rfl inX3 (by decide) wd140 rfl rfl ?_
    obtain ⟨g4, hF⟩ := ck_some hF
    rcases ite_some hF with ⟨c5, hF⟩ | ⟨c5, hF⟩
    · refine mw_if_eq_t (tgt := 33) C dX3_takeTable_21 (by decide) g4 c5 ?_
      refine mw_aload_n 1 C dX3_takeTable_33 rfl rfl ?_
      refine mw_iconst C dX3_takeTable_34 ?_
      obtain ⟨h6, eh6, hF⟩ := nx_some hF
      refine mw_put (k := 5) (T := TX3) (ty0 := tyX3) (x := 1) C dX3_takeTable_35 zn10 zk10 (by decide) rfl inX3 tyX3_ok nmX3 (by decide) wd140 rfl rfl (nz_n (Or.inr rfl)) (nz_f (Or.inr rfl)) rfl (by decide) (mw_h eh6 ?_)
      refine mw_aload_n 1 C dX3_takeTable_38 rfl rfl ?_
      refine mw_get (k := 0) (T := TX3) (v := rfv (xd (zX Z)) 8) C dX3_takeTable_39 zn10 zk10 (by decide) rfl inX3 (by decide) wd134 rfl (zfv_r rfl zg_10_0) ?_
      obtain ⟨q7, hq7, hF⟩ := bind_some hF
      refine mw_callV (c := 8) [] [] C dX3_takeTable_42 (T_X8_advance (zl Z) (zX Z) _ _ hq7) rfl zn8 zk8 (by decide) rfl wd425 wd359 wd360 wd2 wd361 hd_X8_advance rfl (by decide) (by decide) (Nat.le_of_ble_eq_true rfl) ⟨Nat.zero_le _, Nat.zero_le _⟩ ?_
      refine mw_aload_n 1 C dX3_takeTable_45 rfl rfl ?_
      refine mw_get (k := 0) (T := TX3) (v := rfv (xd (zX Z)) 8) C dX3_takeTable_46 zn10 zk10 (by decide) rfl inX3 (by decide) wd134 rfl (zfv_r rfl zg_10_0) ?_
      refine mw_iconst C dX3_takeTable_49 ?_
      refine mw_sipush C dX3_takeTable_50 sp_999 ?_
      obtain ⟨q8, hq8, hF⟩ := bind_some hF
      refine mw_callV (c := 8) [iv 0, iv 999] [] C dX3_takeTable_53 (T_X8_takeNumber (zl Z) (zX Z) 0 999 _ _ hq8) rfl zn8 zk8 (by decide) rfl wd451 wd452 wd453 wd2 wd454 hd_X8_takeNumber rfl (by decide) (by decide) (Nat.le_of_ble_eq_true rfl) ⟨Nat.zero_le _, Nat.zero_le _⟩ ?_
      obtain ⟨g9, hF⟩ := ck_some hF
      rcases ite_some hF with ⟨c10, hF⟩ | ⟨c10, hF⟩
      · refine mw_if_ne_t (tgt := 61) C dX3_takeTable_56 (by decide) g9 c10 ?_
        refine mw_aload_n 1 C dX3_takeTable_61 rfl rfl ?_
        refine mw_get (k := 1) (T := TX3) (v := rfv (xd (zX Z)) 11) C dX3_takeTable_62 zn10 zk10 (by decide) rfl inX3 (by decide) wd135 rfl (zfv_r rfl zg_10_1) ?_
        refine mw_get (k := 0) (T := TX5) (v := rfv (xd (zX Z)) 12) C dX3_takeTable_65 zn11 zk11 (by decide) rfl inX5 (by decide) wd120 rfl (zfv_r rfl zg_11_0) ?_
        refine mw_get (k := 4) (T := TX1) (v := rfv (xd (zX Z)) 16) C dX3_takeTable_68 zn12 zk12 (by decide) rfl inX1 (by decide) wd94 rfl (zfv_r rfl zg_12_4) ?_
        refine mw_iload_n 0 C dX3_takeTable_71 rfl rfl ?_
        refine mw_aload_n 1 C dX3_takeTable_72 rfl rfl ?_
        refine mw_get (k := 0) (T := TX3) (v := rfv (xd (zX Z)) 8) C dX3_takeTable_73 zn10 zk10 (by decide) rfl inX3 (by decide) wd134 rfl (zfv_r rfl zg_10_0) ?_
        refine mw_get (k := 8) (T := TX8) (v := iv (q8.2 8 8)) C dX3_takeTable_76 zn8 zk8 (by decide) rfl inX8 (by decide) wd51 rfl rfl ?_
        obtain ⟨g11, hF⟩ := ck_some hF
        obtain ⟨h12, eh12, hF⟩ := nx_some hF
        refine mw_iast C dX3_takeTable_79 zn16 zk16 (by decide) g11 (mw_h eh12 ?_)
        refine mw_aload_n 1 C dX3_takeTable_80 rfl rfl ?_
        refine mw_get (k := 0) (T := TX3) (v := rfv (xd (zX Z)) 8) C dX3_takeTable_81 zn10 zk10 (by decide) rfl inX3 (by decide) wd134 rfl (zfv_r rfl zg_10_0) ?_
        obtain ⟨q13, hq13, hF⟩ := bind_some hF
        refine mw_callV (c := 8) [] [] C dX3_takeTable_84 (T_X8_takeSign (zl Z) (zX Z) _ _ hq13) rfl zn8 zk8 (by decide) rfl wd461 wd462 wd463 wd2 wd464 hd_X8_takeSign rfl (by decide) (by decide) (Nat.le_of_ble_eq_true rfl) ⟨Nat.zero_le _, Nat.zero_le _⟩ ?_
        obtain ⟨g14, hF⟩ := ck_some hF
        cases hF
        exact mw_zret C dX3_takeTable_87 g14 rfl rfl
      · refine mw_if_ne_f (tgt := 61) C dX3_takeTable_56 (by decide) g9 c10 ?_
        refine mw_iconst C dX3_takeTable_59 ?_
        cases hF
        exact mw_zret C dX3_takeTable_60 (Or.inl rfl) rfl rfl
    · refine mw_if_eq_f (tgt := 33) C dX3_takeTable_21 (by decide) g4 c5 ?_
      refine mw_sub [1] rfl ?_
      exact T_X3_takeTable_24 C _ _ hF
def F_X3_takeTable (h : MH) : Option (Int × MH) := F_X3_takeTable_0 h
theorem T_X3_takeTable (l : Launch) (X : XT) (h : MH) (t : (Int × MH)) (hF : F_X3_takeTable h = some t) : Ct l X yX3_takeTable cX3_takeTable 2 (some .boolean) 4 [rfv (xd X) 10] zN zG h (some (iv t.1)) zN zG t.2 0 0 := by
  refine Ct.head (by decide) (Nat.le_of_ble_eq_true rfl) (fun Z hX hl _ _ _ C => ?_)
  subst hX
  subst hl
  exact (T_X3_takeTable_0 C _ _ hF)
/-! BottleLine$LineReader.sortNamed(J)I -/
def F_X3_sortNamed_2 : Nat → Int → Int → MH → Option (Int × MH)
  | 0, _, _, _ => none
  | n + 1, x1, x3, h =>
    ck (in32 x3) <|
    ck (in32 (h 11 4)) <|
    if (h 11 4) ≤ x3 then
      some ((-1), h)
    else
      ck (0 ≤ x3 ∧ x3 < 7) <|
      ck (in64 (h 26 x3.toNat)) <|
      ck (in64 x1) <|
      if (h 26 x3.toNat) ≠ x1 then
        F_X3_sortNamed_2 n x1 (x3 + 1) h
      else
        some (x3, h)
set_option maxRecDepth 100000 in
theorem T_X3_sortNamed_2 {Z : ZT} (C : Cx Z cX3_sortNamed 4 RX3 1 (some .int)) : ∀ (n : Nat) (x1 : Int) (x3 : Int) (h : MH) (t : (Int × MH)), F_X3_sortNamed_2 n x1 x3 h = some t → MW Z (Qm Z (some (iv t.1)) zN zG t.2 0 0) 4 zN zG h 0 0 2 [(0, rfv (xd (zX Z)) 10), (1, lvv x1), (3, iv x3)] [] := by
  intro n
  induction n with
  | zero =>
    intros
    rename_i hF
    exact absurd hF (by intro q; cases q)
  | succ n ih =>
    intro x1 x3 h t hF
    rw [F_X3_sortNamed_2] at hF
    refine mw_iload_n 2 C dX3_sortNamed_2 rfl rfl ?_
    refine mw_aload_n 0 C dX3_sortNamed_3 rfl rfl ?_
    refine mw_get (k := 1) (T := TX3) (v := rfv (xd (zX Z)) 11) C dX3_sortNamed_4 zn10 zk10 (by decide) rfl inX3 (by decide) wd135 rfl (zfv_r rfl zg_10_1) ?_
    refine mw_get (k := 4) (T := TX5) (v := iv (h 11 4)) C dX3_sortNamed_7 zn11 zk11 (by decide) rfl inX5 (by decide) wd132 rfl rfl ?_
    obtain ⟨g1, hF⟩ := ck_some hF
    obtain ⟨g2, hF⟩ := ck_some hF
    rcases ite_some hF with ⟨c3, hF⟩ | ⟨c3, hF⟩
    · refine mw_icmp_ge_t (tgt := 32) C dX3_sortNamed_10 (by decide) g1 g2 c3 ?_
      refine mw_iconst C dX3_sortNamed_32 ?_
      cases hF
      exact mw_iret C dX3_sortNamed_33 rfl rfl
    · refine mw_icmp_ge_f (tgt := 32) C dX3_sortNamed_10 (by decide) g1 g2 c3 ?_
      refine mw_aload_n 0 C dX3_sortNamed_13 rfl rfl ?_
      refine mw_get (k := 2) (T := TX3) (v := rfv (xd (zX Z)) 26) C dX3_sortNamed_14 zn10 zk10 (by decide) rfl inX3 (by decide) wd137 rfl (zfv_r rfl zg_10_2) ?_
      refine mw_iload_n 2 C dX3_sortNamed_17 rfl rfl ?_
      obtain ⟨g4, hF⟩ := ck_some hF
      refine mw_lald C dX3_sortNamed_18 zn26 zk26 (by decide) g4 ?_
      refine mw_lload_n 1 C dX3_sortNamed_19 rfl rfl ?_
      obtain ⟨g5, hF⟩ := ck_some hF
      obtain ⟨g6, hF⟩ := ck_some hF
      rcases ite_some hF with ⟨c7, hF⟩ | ⟨c7, hF⟩
      · refine mw_lcmp_ne_t (tgt := 26) C dX3_sortNamed_20 dX3_sortNamed_21 (by decide) g5 g6 c7 ?_
        refine mw_iinc 2 [(3, iv (x3 + 1)), (0, rfv (xd (zX Z)) 10), (1, lvv x1)] C dX3_sortNamed_26 rfl (by decide) rfl ?_
        refine mw_goto (tgt := 2) C dX3_sortNamed_29 (by decide) ?_
        refine mw_sub [1, 2, 0] rfl ?_
        exact ih x1 (x3 + 1) _ _ hF
      · refine mw_lcmp_ne_f (tgt := 26) C dX3_sortNamed_20 dX3_sortNamed_21 (by decide) g5 g6 c7 ?_
        refine mw_iload_n 2 C dX3_sortNamed_24 rfl rfl ?_
        cases hF
        exact mw_iret C dX3_sortNamed_25 rfl rfl
def F_X3_sortNamed_0 (x1 : Int) (h : MH) : Option (Int × MH) :=
  F_X3_sortNamed_2 20000 x1 0 h
set_option maxRecDepth 100000 in
theorem T_X3_sortNamed_0 {Z : ZT} (C : Cx Z cX3_sortNamed 4 RX3 1 (some .int)) (x1 : Int) (h : MH) (t : (Int × MH)) (hF : F_X3_sortNamed_0 x1 h = some t) : MW Z (Qm Z (some (iv t.1)) zN zG t.2 0 0) 4 zN zG h 0 0 0 [(0, rfv (xd (zX Z)) 10), (1, lvv x1)] [] := by
  unfold F_X3_sortNamed_0 at hF
  refine mw_iconst C dX3_sortNamed_0 ?_
  refine mw_istore_n [(3, iv 0), (0, rfv (xd (zX Z)) 10), (1, lvv x1)] C dX3_sortNamed_1 rfl (by decide) rfl ?_
  refine mw_sub [1, 2, 0] rfl ?_
  exact T_X3_sortNamed_2 C 20000 x1 0 _ _ hF
def F_X3_sortNamed (x1 : Int) (h : MH) : Option (Int × MH) := F_X3_sortNamed_0 x1 h
theorem T_X3_sortNamed (l : Launch) (X : XT) (x1 : Int) (h : MH) (t : (Int × MH)) (hF : F_X3_sortNamed x1 h = some t) : Ct l X yX3_sortNamed cX3_sortNamed 4 (some .int) 1 [rfv (xd X) 10, lvv x1] zN zG h (some (iv t.1)) zN zG t.2 0 0 := by
  refine Ct.head (by decide) (Nat.le_of_ble_eq_true rfl) (fun Z hX hl _ _ _ C => ?_)
  subst hX
  subst hl
  exact (T_X3_sortNamed_0 C x1 _ _ hF)
/-! BottleLine$LineReader.takeSort()Z -/
def F_X3_takeSort_0 (h : MH) : Option (Int × MH) :=
  ck (in32 (h 11 4)) <|
  if (h 11 4) < 7 then
    (F_X8_advance h).bind fun q3 =>
    (F_X3_isName q3).bind fun q4 =>
    ck (in32 q4.1) <|
    if q4.1 ≠ 0 then
      (F_X3_sortNamed (q4.2 8 6) q4.2).bind fun q7 =>
      ck (in32 q7.1) <|
      if q7.1 = (-1) then
        ck (0 ≤ (q7.2 11 4) ∧ (q7.2 11 4) < 7) <|
        nx (hup q7.2 26 (q7.2 11 4).toNat (q7.2 8 6)) fun h11 =>
        nx (hup h11 11 4 ((h11 11 4) + 1)) fun h12 =>
        (F_X8_advance h12).bind fun q13 =>
        (F_X8_takeSign q13).bind fun q14 =>
        ck (q14.1 = 0 ∨ q14.1 = 1) <|
        some (q14.1, q14.2)
      else
        (F_X8_wrong 3 q7.2).bind fun q16 =>
        ck (q16.1 = 0 ∨ q16.1 = 1) <|
        some (q16.1, q16.2)
    else
      (F_X8_misplaced q4.2).bind fun q18 =>
      ck (q18.1 = 0 ∨ q18.1 = 1) <|
      some (q18.1, q18.2)
  else
    (F_X8_wrong 6 h).bind fun q20 =>
    ck (q20.1 = 0 ∨ q20.1 = 1) <|
    some (q20.1, q20.2)
set_option maxRecDepth 100000 in
theorem T_X3_takeSort_0 {Z : ZT} (C : Cx Z cX3_takeSort 1 RX3 8 (some .boolean)) (h : MH) (t : (Int × MH)) (hF : F_X3_takeSort_0 h = some t) : MW Z (Qm Z (some (iv t.1)) zN zG t.2 0 0) 1 zN zG h 0 0 0 [(0, rfv (xd (zX Z)) 10)] [] := by
  unfold F_X3_takeSort_0 at hF
  refine mw_aload_n 0 C dX3_takeSort_0 rfl rfl ?_
  refine mw_get (k := 1) (T := TX3) (v := rfv (xd (zX Z)) 11) C dX3_takeSort_1 zn10 zk10 (by decide) rfl inX3 (by decide) wd135 rfl (zfv_r rfl zg_10_1) ?_
  refine mw_get (k := 4) (T := TX5) (v := iv (h 11 4)) C dX3_takeSort_4 zn11 zk11 (by decide) rfl inX5 (by decide) wd132 rfl rfl ?_
  refine mw_bipush C dX3_takeSort_7 bp_7 ?_
  obtain ⟨g1, hF⟩ := ck_some hF
  rcases ite_some hF with ⟨c2, hF⟩ | ⟨c2, hF⟩
  · refine mw_icmp_lt_t (tgt := 22) C dX3_takeSort_9 (by decide) g1 (by decide) c2 ?_
    refine mw_aload_n 0 C dX3_takeSort_22 rfl rfl ?_
    refine mw_get (k := 0) (T := TX3) (v := rfv (xd (zX Z)) 8) C dX3_takeSort_23 zn10 zk10 (by decide) rfl inX3 (by decide) wd134 rfl (zfv_r rfl zg_10_0) ?_
    obtain ⟨q3, hq3, hF⟩ := bind_some hF
    refine mw_callV (c := 8) [] [] C dX3_takeSort_26 (T_X8_advance (zl Z) (zX Z) _ _ hq3) rfl zn8 zk8 (by decide) rfl wd425 wd359 wd360 wd2 wd361 hd_X8_advance rfl (by decide) (by decide) (Nat.le_of_ble_eq_true rfl) ⟨Nat.zero_le _, Nat.zero_le _⟩ ?_
    refine mw_aload_n 0 C dX3_takeSort_29 rfl rfl ?_
    obtain ⟨q4, hq4, hF⟩ := bind_some hF
    refine mw_callV (c := 10) [] [] C dX3_takeSort_30 (T_X3_isName (zl Z) (zX Z) _ _ hq4) rfl zn10 zk10 (by decide) rfl wd426 wd427 wd1316 wd3 wd428 hd_X3_isName rfl (by decide) (by decide) (Nat.le_of_ble_eq_true rfl) ⟨Nat.zero_le _, Nat.zero_le _⟩ ?_
    obtain ⟨g5, hF⟩ := ck_some hF
    rcases ite_some hF with ⟨c6, hF⟩ | ⟨c6, hF⟩
    · refine mw_if_ne_t (tgt := 44) C dX3_takeSort_33 (by decide) g5 c6 ?_
      refine mw_aload_n 0 C dX3_takeSort_44 rfl rfl ?_
      refine mw_aload_n 0 C dX3_takeSort_45 rfl rfl ?_
      refine mw_get (k := 0) (T := TX3) (v := rfv (xd (zX Z)) 8) C dX3_takeSort_46 zn10 zk10 (by decide) rfl inX3 (by decide) wd134 rfl (zfv_r rfl zg_10_0) ?_
      refine mw_get (k := 6) (T := TX8) (v := lvv (q4.2 8 6)) C dX3_takeSort_49 zn8 zk8 (by decide) rfl inX8 (by decide) wd47 rfl rfl ?_
      obtain ⟨q7, hq7, hF⟩ := bind_some hF
      refine mw_callV (c := 10) [lvv (q4.2 8 6)] [] C dX3_takeSort_52 (T_X3_sortNamed (zl Z) (zX Z) (q4.2 8 6) _ _ hq7) rfl zn10 zk10 (by decide) rfl wd471 wd472 wd1322 wd3 wd473 hd_X3_sortNamed rfl (by decide) (by decide) (Nat.le_of_ble_eq_true rfl) ⟨Nat.zero_le _, Nat.zero_le _⟩ ?_
      refine mw_iconst C dX3_takeSort_55 ?_
      obtain ⟨g8, hF⟩ := ck_some hF
      rcases ite_some hF with ⟨c9, hF⟩ | ⟨c9, hF⟩
      · refine mw_icmp_eq_t (tgt := 68) C dX3_takeSort_56 (by decide) g8 (by decide) c9 ?_
        refine mw_aload_n 0 C dX3_takeSort_68 rfl rfl ?_
        refine mw_get (k := 2) (T := TX3) (v := rfv (xd (zX Z)) 26) C dX3_takeSort_69 zn10 zk10 (by decide) rfl inX3 (by decide) wd137 rfl (zfv_r rfl zg_10_2) ?_
        refine mw_aload_n 0 C dX3_takeSort_72 rfl rfl ?_
        refine mw_get (k := 1) (T := TX3) (v := rfv (xd (zX Z)) 11) C dX3_takeSort_73 zn10 zk10 (by decide) rfl inX3 (by decide) wd135 rfl (zfv_r rfl zg_10_1) ?_
        refine mw_get (k := 4) (T := TX5) (v := iv (q7.2 11 4)) C dX3_takeSort_76 zn11 zk11 (by decide) rfl inX5 (by decide) wd132 rfl rfl ?_
        refine mw_aload_n 0 C dX3_takeSort_79 rfl rfl ?_
        refine mw_get (k := 0) (T := TX3) (v := rfv (xd (zX Z)) 8) C dX3_takeSort_80 zn10 zk10 (by decide) rfl inX3 (by decide) wd134 rfl (zfv_r rfl zg_10_0) ?_
        refine mw_get (k := 6) (T := TX8) (v := lvv (q7.2 8 6)) C dX3_takeSort_83 zn8 zk8 (by decide) rfl inX8 (by decide) wd47 rfl rfl ?_
        obtain ⟨g10, hF⟩ := ck_some hF
        obtain ⟨h11, eh11, hF⟩ := nx_some hF
        refine mw_last C dX3_takeSort_86 zn26 zk26 (by decide) g10 (mw_h eh11 ?_)
        refine mw_aload_n 0 C dX3_takeSort_87 rfl rfl ?_
        refine mw_get (k := 1) (T := TX3) (v := rfv (xd (zX Z)) 11) C dX3_takeSort_88 zn10 zk10 (by decide) rfl inX3 (by decide) wd135 rfl (zfv_r rfl zg_10_1) ?_
        refine mw_dup C dX3_takeSort_91 rfl ?_
        refine mw_get (k := 4) (T := TX5) (v := iv (h11 11 4)) C dX3_takeSort_92 zn11 zk11 (by decide) rfl inX5 (by decide) wd132 rfl rfl ?_
        refine mw_iconst C dX3_takeSort_95 ?_
        refine mw_iadd C dX3_takeSort_96 ?_
        obtain ⟨h12, eh12, hF⟩ := nx_some hF
        refine mw_put (k := 4) (T := TX5) (ty0 := tyX5) (x := ((h11 11 4) + 1)) C dX3_takeSort_97 zn11 zk11 (by decide) rfl inX5 tyX5_ok nmX5 (by decide) wd132 rfl rfl rfl rfl rfl (by decide) (mw_h eh12 ?_)
        refine mw_aload_n 0 C dX3_takeSort_100 rfl rfl ?_
        refine mw_get (k := 0) (T := TX3) (v := rfv (xd (zX Z)) 8) C dX3_takeSort_101 zn10 zk10 (by decide) rfl inX3 (by decide) wd134 rfl (zfv_r rfl zg_10_0) ?_
        obtain ⟨q13, hq13, hF⟩ := bind_some hF
        refine mw_callV (c := 8) [] [] C dX3_takeSort_104 (T_X8_advance (zl Z) (zX Z) _ _ hq13) rfl zn8 zk8 (by decide) rfl wd425 wd359 wd360 wd2 wd361 hd_X8_advance rfl (by decide) (by decide) (Nat.le_of_ble_eq_true rfl) ⟨Nat.zero_le _, Nat.zero_le _⟩ ?_
        refine mw_aload_n 0 C dX3_takeSort_107 rfl rfl ?_
        refine mw_get (k := 0) (T := TX3) (v := rfv (xd (zX Z)) 8) C dX3_takeSort_108 zn10 zk10 (by decide) rfl inX3 (by decide) wd134 rfl (zfv_r rfl zg_10_0) ?_
        obtain ⟨q14, hq14, hF⟩ := bind_some hF
        refine mw_callV (c := 8) [] [] C dX3_takeSort_111 (T_X8_takeSign (zl Z) (zX Z) _ _ hq14) rfl zn8 zk8 (by decide) rfl wd461 wd462 wd463 wd2 wd464 hd_X8_takeSign rfl (by decide) (by decide) (Nat.le_of_ble_eq_true rfl) ⟨Nat.zero_le _, Nat.zero_le _⟩ ?_
        obtain ⟨g15, hF⟩ := ck_some hF
        cases hF
        exact mw_zret C dX3_takeSort_114 g15 rfl rfl
      · refine mw_icmp_eq_f (tgt := 68) C dX3_takeSort_56 (by decide) g8 (by decide) c9 ?_
        refine mw_aload_n 0 C dX3_takeSort_59 rfl rfl ?_
        refine mw_get (k := 0) (T := TX3) (v := rfv (xd (zX Z)) 8) C dX3_takeSort_60 zn10 zk10 (by decide) rfl inX3 (by decide) wd134 rfl (zfv_r rfl zg_10_0) ?_
        refine mw_iconst C dX3_takeSort_63 ?_
        obtain ⟨q16, hq16, hF⟩ := bind_some hF
        refine mw_callV (c := 8) [iv 3] [] C dX3_takeSort_64 (T_X8_wrong (zl Z) (zX Z) 3 _ _ hq16) rfl zn8 zk8 (by decide) rfl wd421 wd422 wd423 wd2 wd424 hd_X8_wrong rfl (by decide) (by decide) (Nat.le_of_ble_eq_true rfl) ⟨Nat.zero_le _, Nat.zero_le _⟩ ?_
        obtain ⟨g17, hF⟩ := ck_some hF
        cases hF
        exact mw_zret C dX3_takeSort_67 g17 rfl rfl
    · refine mw_if_ne_f (tgt := 44) C dX3_takeSort_33 (by decide) g5 c6 ?_
      refine mw_aload_n 0 C dX3_takeSort_36 rfl rfl ?_
      refine mw_get (k := 0) (T := TX3) (v := rfv (xd (zX Z)) 8) C dX3_takeSort_37 zn10 zk10 (by decide) rfl inX3 (by decide) wd134 rfl (zfv_r rfl zg_10_0) ?_
      obtain ⟨q18, hq18, hF⟩ := bind_some hF
      refine mw_callV (c := 8) [] [] C dX3_takeSort_40 (T_X8_misplaced (zl Z) (zX Z) _ _ hq18) rfl zn8 zk8 (by decide) rfl wd433 wd434 wd435 wd2 wd436 hd_X8_misplaced rfl (by decide) (by decide) (Nat.le_of_ble_eq_true rfl) ⟨Nat.zero_le _, Nat.zero_le _⟩ ?_
      obtain ⟨g19, hF⟩ := ck_some hF
      cases hF
      exact mw_zret C dX3_takeSort_43 g19 rfl rfl
  · refine mw_icmp_lt_f (tgt := 22) C dX3_takeSort_9 (by decide) g1 (by decide) c2 ?_
    refine mw_aload_n 0 C dX3_takeSort_12 rfl rfl ?_
    refine mw_get (k := 0) (T := TX3) (v := rfv (xd (zX Z)) 8) C dX3_takeSort_13 zn10 zk10 (by decide) rfl inX3 (by decide) wd134 rfl (zfv_r rfl zg_10_0) ?_
    refine mw_bipush C dX3_takeSort_16 bp_6 ?_
    obtain ⟨q20, hq20, hF⟩ := bind_some hF
    refine mw_callV (c := 8) [iv 6] [] C dX3_takeSort_18 (T_X8_wrong (zl Z) (zX Z) 6 _ _ hq20) rfl zn8 zk8 (by decide) rfl wd421 wd422 wd423 wd2 wd424 hd_X8_wrong rfl (by decide) (by decide) (Nat.le_of_ble_eq_true rfl) ⟨Nat.zero_le _, Nat.zero_le _⟩ ?_
    obtain ⟨g21, hF⟩ := ck_some hF
    cases hF
    exact mw_zret C dX3_takeSort_21 g21 rfl rfl
def F_X3_takeSort (h : MH) : Option (Int × MH) := F_X3_takeSort_0 h
theorem T_X3_takeSort (l : Launch) (X : XT) (h : MH) (t : (Int × MH)) (hF : F_X3_takeSort h = some t) : Ct l X yX3_takeSort cX3_takeSort 1 (some .boolean) 8 [rfv (xd X) 10] zN zG h (some (iv t.1)) zN zG t.2 0 0 := by
  refine Ct.head (by decide) (Nat.le_of_ble_eq_true rfl) (fun Z hX hl _ _ _ C => ?_)
  subst hX
  subst hl
  exact (T_X3_takeSort_0 C _ _ hF)
/-! BottleLine$LineReader.sortHere()I -/
def F_X3_sortHere_0 (h : MH) : Option (Int × MH) :=
  (F_X3_isName h).bind fun q1 =>
  ck (in32 q1.1) <|
  if q1.1 ≠ 0 then
    (F_X3_sortNamed (q1.2 8 6) q1.2).bind fun q4 =>
    ck (in32 q4.1) <|
    if q4.1 ≠ (-1) then
      some (q4.1, q4.2)
    else
      (F_X8_wrong 3 q4.2).bind fun q7 =>
      some (q4.1, q7.2)
  else
    (F_X8_misplaced q1.2).bind fun q8 =>
    some ((-1), q8.2)
set_option maxRecDepth 100000 in
theorem T_X3_sortHere_0 {Z : ZT} (C : Cx Z cX3_sortHere 2 RX3 8 (some .int)) (h : MH) (t : (Int × MH)) (hF : F_X3_sortHere_0 h = some t) : MW Z (Qm Z (some (iv t.1)) zN zG t.2 0 0) 2 zN zG h 0 0 0 [(0, rfv (xd (zX Z)) 10)] [] := by
  unfold F_X3_sortHere_0 at hF
  refine mw_aload_n 0 C dX3_sortHere_0 rfl rfl ?_
  obtain ⟨q1, hq1, hF⟩ := bind_some hF
  refine mw_callV (c := 10) [] [] C dX3_sortHere_1 (T_X3_isName (zl Z) (zX Z) _ _ hq1) rfl zn10 zk10 (by decide) rfl wd426 wd427 wd1316 wd3 wd428 hd_X3_isName rfl (by decide) (by decide) (Nat.le_of_ble_eq_true rfl) ⟨Nat.zero_le _, Nat.zero_le _⟩ ?_
  obtain ⟨g2, hF⟩ := ck_some hF
  rcases ite_some hF with ⟨c3, hF⟩ | ⟨c3, hF⟩
  · refine mw_if_ne_t (tgt := 17) C dX3_sortHere_4 (by decide) g2 c3 ?_
    refine mw_aload_n 0 C dX3_sortHere_17 rfl rfl ?_
    refine mw_aload_n 0 C dX3_sortHere_18 rfl rfl ?_
    refine mw_get (k := 0) (T := TX3) (v := rfv (xd (zX Z)) 8) C dX3_sortHere_19 zn10 zk10 (by decide) rfl inX3 (by decide) wd134 rfl (zfv_r rfl zg_10_0) ?_
    refine mw_get (k := 6) (T := TX8) (v := lvv (q1.2 8 6)) C dX3_sortHere_22 zn8 zk8 (by decide) rfl inX8 (by decide) wd47 rfl rfl ?_
    obtain ⟨q4, hq4, hF⟩ := bind_some hF
    refine mw_callV (c := 10) [lvv (q1.2 8 6)] [] C dX3_sortHere_25 (T_X3_sortNamed (zl Z) (zX Z) (q1.2 8 6) _ _ hq4) rfl zn10 zk10 (by decide) rfl wd471 wd472 wd1322 wd3 wd473 hd_X3_sortNamed rfl (by decide) (by decide) (Nat.le_of_ble_eq_true rfl) ⟨Nat.zero_le _, Nat.zero_le _⟩ ?_
    refine mw_istore_n [(1, iv q4.1), (0, rfv (xd (zX Z)) 10)] C dX3_sortHere_28 rfl (by decide) rfl ?_
    refine mw_iload_n 0 C dX3_sortHere_29 rfl rfl ?_
    refine mw_iconst C dX3_sortHere_30 ?_
    obtain ⟨g5, hF⟩ := ck_some hF
    rcases ite_some hF with ⟨c6, hF⟩ | ⟨c6, hF⟩
    · refine mw_icmp_ne_t (tgt := 43) C dX3_sortHere_31 (by decide) g5 (by decide) c6 ?_
      refine mw_iload_n 0 C dX3_sortHere_43 rfl rfl ?_
      cases hF
      exact mw_iret C dX3_sortHere_44 rfl rfl
    · refine mw_icmp_ne_f (tgt := 43) C dX3_sortHere_31 (by decide) g5 (by decide) c6 ?_
      refine mw_aload_n 1 C dX3_sortHere_34 rfl rfl ?_
      refine mw_get (k := 0) (T := TX3) (v := rfv (xd (zX Z)) 8) C dX3_sortHere_35 zn10 zk10 (by decide) rfl inX3 (by decide) wd134 rfl (zfv_r rfl zg_10_0) ?_
      refine mw_iconst C dX3_sortHere_38 ?_
      obtain ⟨q7, hq7, hF⟩ := bind_some hF
      refine mw_callV (c := 8) [iv 3] [] C dX3_sortHere_39 (T_X8_wrong (zl Z) (zX Z) 3 _ _ hq7) rfl zn8 zk8 (by decide) rfl wd421 wd422 wd423 wd2 wd424 hd_X8_wrong rfl (by decide) (by decide) (Nat.le_of_ble_eq_true rfl) ⟨Nat.zero_le _, Nat.zero_le _⟩ ?_
      refine mw_pop C dX3_sortHere_42 rfl ?_
      refine mw_iload_n 0 C dX3_sortHere_43 rfl rfl ?_
      cases hF
      exact mw_iret C dX3_sortHere_44 rfl rfl
  · refine mw_if_ne_f (tgt := 17) C dX3_sortHere_4 (by decide) g2 c3 ?_
    refine mw_aload_n 0 C dX3_sortHere_7 rfl rfl ?_
    refine mw_get (k := 0) (T := TX3) (v := rfv (xd (zX Z)) 8) C dX3_sortHere_8 zn10 zk10 (by decide) rfl inX3 (by decide) wd134 rfl (zfv_r rfl zg_10_0) ?_
    obtain ⟨q8, hq8, hF⟩ := bind_some hF
    refine mw_callV (c := 8) [] [] C dX3_sortHere_11 (T_X8_misplaced (zl Z) (zX Z) _ _ hq8) rfl zn8 zk8 (by decide) rfl wd433 wd434 wd435 wd2 wd436 hd_X8_misplaced rfl (by decide) (by decide) (Nat.le_of_ble_eq_true rfl) ⟨Nat.zero_le _, Nat.zero_le _⟩ ?_
    refine mw_pop C dX3_sortHere_14 rfl ?_
    refine mw_iconst C dX3_sortHere_15 ?_
    cases hF
    exact mw_iret C dX3_sortHere_16 rfl rfl
def F_X3_sortHere (h : MH) : Option (Int × MH) := F_X3_sortHere_0 h
theorem T_X3_sortHere (l : Launch) (X : XT) (h : MH) (t : (Int × MH)) (hF : F_X3_sortHere h = some t) : Ct l X yX3_sortHere cX3_sortHere 2 (some .int) 8 [rfv (xd X) 10] zN zG h (some (iv t.1)) zN zG t.2 0 0 := by
  refine Ct.head (by decide) (Nat.le_of_ble_eq_true rfl) (fun Z hX hl _ _ _ C => ?_)
  subst hX
  subst hl
  exact (T_X3_sortHere_0 C _ _ hF)
/-! BottleLine$Plan.washTold(II)Z -/
def F_X5_washTold_0 (x0 : Nat) (x1 : Int) (x2 : Int) (h : MH) : Option (Int × MH) :=
  ck (0 ≤ ((x1 * 7) + x2) ∧ ((x1 * 7) + x2) < 49) <|
  ck (in32 (h (x0 + 14) ((x1 * 7) + x2).toNat)) <|
  if (h (x0 + 14) ((x1 * 7) + x2).toNat) = (-1) then
    some (0, h)
  else
    some (1, h)
set_option maxRecDepth 100000 in
theorem T_X5_washTold_0 {Z : ZT} (C : Cx Z cX5_washTold 3 RX5 1 (some .boolean)) (x0 : Nat) (x1 : Int) (x2 : Int) (hk_x0 : okX5 x0) (h : MH) (t : (Int × MH)) (hF : F_X5_washTold_0 x0 x1 x2 h = some t) : MW Z (Qm Z (some (iv t.1)) zN zG t.2 0 0) 3 zN zG h 0 0 0 [(0, rfv (xd (zX Z)) x0), (1, iv x1), (2, iv x2)] [] := by
  unfold F_X5_washTold_0 at hF
  refine mw_aload_n 0 C dX5_washTold_0 rfl rfl ?_
  refine mw_get (k := 3) (T := TX5) (v := rfv (xd (zX Z)) (x0 + 14)) C dX5_washTold_1 (okX5_n _ hk_x0) (okX5_k _ hk_x0) (by decide) rfl inX5 (by decide) wd128 rfl (zfv_r rfl (okX5_g3 _ hk_x0)) ?_
  refine mw_iload_n 1 C dX5_washTold_4 rfl rfl ?_
  refine mw_bipush C dX5_washTold_5 bp_7 ?_
  refine mw_imul C dX5_washTold_7 ?_
  refine mw_iload_n 2 C dX5_washTold_8 rfl rfl ?_
  refine mw_iadd C dX5_washTold_9 ?_
  obtain ⟨g1, hF⟩ := ck_some hF
  refine mw_iald C dX5_washTold_10 (okX5_f3 _ hk_x0).2.1 (okX5_f3 _ hk_x0).1 (okX5_f3 _ hk_x0).2.2 g1 ?_
  refine mw_iconst C dX5_washTold_11 ?_
  obtain ⟨g2, hF⟩ := ck_some hF
  rcases ite_some hF with ⟨c3, hF⟩ | ⟨c3, hF⟩
  · refine mw_icmp_eq_t (tgt := 19) C dX5_washTold_12 (by decide) g2 (by decide) c3 ?_
    refine mw_iconst C dX5_washTold_19 ?_
    cases hF
    exact mw_zret C dX5_washTold_20 (Or.inl rfl) rfl rfl
  · refine mw_icmp_eq_f (tgt := 19) C dX5_washTold_12 (by decide) g2 (by decide) c3 ?_
    refine mw_iconst C dX5_washTold_15 ?_
    refine mw_goto (tgt := 20) C dX5_washTold_16 (by decide) ?_
    cases hF
    exact mw_zret C dX5_washTold_20 (Or.inr rfl) rfl rfl
def F_X5_washTold (x0 : Nat) (x1 : Int) (x2 : Int) (h : MH) : Option (Int × MH) := F_X5_washTold_0 x0 x1 x2 h
theorem T_X5_washTold (l : Launch) (X : XT) (x0 : Nat) (x1 : Int) (x2 : Int) (hk_x0 : okX5 x0) (h : MH) (t : (Int × MH)) (hF : F_X5_washTold x0 x1 x2 h = some t) : Ct l X yX5_washTold cX5_washTold 3 (some .boolean) 1 [rfv (xd X) x0, iv x1, iv x2] zN zG h (some (iv t.1)) zN zG t.2 0 0 := by
  refine Ct.head (by decide) (Nat.le_of_ble_eq_true rfl) (fun Z hX hl _ _ _ C => ?_)
  subst hX
  subst hl
  exact (T_X5_washTold_0 C x0 x1 x2 hk_x0 _ _ hF)
/-! BottleLine$LineReader.takeWash()Z -/
def F_X3_takeWash_55 (h : MH) : Option (Int × MH) :=
  (F_X8_wrong 5 h).bind fun q1 =>
  ck (q1.1 = 0 ∨ q1.1 = 1) <|
  some (q1.1, q1.2)
set_option maxRecDepth 100000 in
theorem T_X3_takeWash_55 {Z : ZT} (C : Cx Z cX3_takeWash 3 RX3 9 (some .boolean)) (h : MH) (t : (Int × MH)) (hF : F_X3_takeWash_55 h = some t) : MW Z (Qm Z (some (iv t.1)) zN zG t.2 0 0) 3 zN zG h 0 0 55 [(0, rfv (xd (zX Z)) 10)] [] := by
  unfold F_X3_takeWash_55 at hF
  refine mw_aload_n 0 C dX3_takeWash_55 rfl rfl ?_
  refine mw_get (k := 0) (T := TX3) (v := rfv (xd (zX Z)) 8) C dX3_takeWash_56 zn10 zk10 (by decide) rfl inX3 (by decide) wd134 rfl (zfv_r rfl zg_10_0) ?_
  refine mw_iconst C dX3_takeWash_59 ?_
  obtain ⟨q1, hq1, hF⟩ := bind_some hF
  refine mw_callV (c := 8) [iv 5] [] C dX3_takeWash_60 (T_X8_wrong (zl Z) (zX Z) 5 _ _ hq1) rfl zn8 zk8 (by decide) rfl wd421 wd422 wd423 wd2 wd424 hd_X8_wrong rfl (by decide) (by decide) (Nat.le_of_ble_eq_true rfl) ⟨Nat.zero_le _, Nat.zero_le _⟩ ?_
  obtain ⟨g2, hF⟩ := ck_some hF
  cases hF
  exact mw_zret C dX3_takeWash_63 g2 rfl rfl
def F_X3_takeWash_0 (h : MH) : Option (Int × MH) :=
  (F_X8_advance h).bind fun q1 =>
  (F_X3_sortHere q1).bind fun q2 =>
  ck (in32 q2.1) <|
  if q2.1 ≠ (-1) then
    (F_X8_advance q2.2).bind fun q5 =>
    (F_X3_sortHere q5).bind fun q6 =>
    ck (in32 q6.1) <|
    if q6.1 ≠ (-1) then
      if q2.1 = q6.1 then
        F_X3_takeWash_55 q6.2
      else
        (F_X5_washTold 11 q2.1 q6.1 q6.2).bind fun q10 =>
        ck (in32 q10.1) <|
        if q10.1 = 0 then
          (F_X8_advance q10.2).bind fun q13 =>
          (F_X8_takeNumber 0 999 q13).bind fun q14 =>
          ck (in32 q14.1) <|
          if q14.1 ≠ 0 then
            ck (0 ≤ ((q2.1 * 7) + q6.1) ∧ ((q2.1 * 7) + q6.1) < 49) <|
            nx (hup q14.2 25 ((q2.1 * 7) + q6.1).toNat (q14.2 8 8)) fun h18 =>
            (F_X8_takeSign h18).bind fun q19 =>
            ck (q19.1 = 0 ∨ q19.1 = 1) <|
            some (q19.1, q19.2)
          else
            some (0, q14.2)
        else
          F_X3_takeWash_55 q10.2
    else
      some (0, q6.2)
  else
    some (0, q2.2)
set_option maxRecDepth 100000 in
theorem T_X3_takeWash_0 {Z : ZT} (C : Cx Z cX3_takeWash 3 RX3 9 (some .boolean)) (h : MH) (t : (Int × MH)) (hF : F_X3_takeWash_0 h = some t) : MW Z (Qm Z (some (iv t.1)) zN zG t.2 0 0) 3 zN zG h 0 0 0 [(0, rfv (xd (zX Z)) 10)] [] := by
  unfold F_X3_takeWash_0 at hF
  refine mw_aload_n 0 C dX3_takeWash_0 rfl rfl ?_
  refine mw_get (k := 0) (T := TX3) (v := rfv (xd (zX Z)) 8) C dX3_takeWash_1 zn10 zk10 (by decide) rfl inX3 (by decide) wd134 rfl (zfv_r rfl zg_10_0) ?_
  obtain ⟨q1, hq1, hF⟩ := bind_some hF
  refine mw_callV (c := 8) [] [] C dX3_takeWash_4 (T_X8_advance (zl Z) (zX Z) _ _ hq1) rfl zn8 zk8 (by decide) rfl wd425 wd359 wd360 wd2 wd361 hd_X8_advance rfl (by decide) (by decide) (Nat.le_of_ble_eq_true rfl) ⟨Nat.zero_le _, Nat.zero_le _⟩ ?_
  refine mw_aload_n 0 C dX3_takeWash_7 rfl rfl ?_
  obtain ⟨q2, hq2, hF⟩ := bind_some hF
  refine mw_callV (c := 10) [] [] C dX3_takeWash_8 (T_X3_sortHere (zl Z) (zX Z) _ _ hq2) rfl zn10 zk10 (by decide) rfl wd477 wd478 wd1324 wd3 wd479 hd_X3_sortHere rfl (by decide) (by decide) (Nat.le_of_ble_eq_true rfl) ⟨Nat.zero_le _, Nat.zero_le _⟩ ?_
  refine mw_istore_n [(1, iv q2.1), (0, rfv (xd (zX Z)) 10)] C dX3_takeWash_11 rfl (by decide) rfl ?_
  refine mw_iload_n 0 C dX3_takeWash_12 rfl rfl ?_
  refine mw_iconst C dX3_takeWash_13 ?_
  obtain ⟨g3, hF⟩ := ck_some hF
  rcases ite_some hF with ⟨c4, hF⟩ | ⟨c4, hF⟩
  · refine mw_icmp_ne_t (tgt := 19) C dX3_takeWash_14 (by decide) g3 (by decide) c4 ?_
    refine mw_aload_n 1 C dX3_takeWash_19 rfl rfl ?_
    refine mw_get (k := 0) (T := TX3) (v := rfv (xd (zX Z)) 8) C dX3_takeWash_20 zn10 zk10 (by decide) rfl inX3 (by decide) wd134 rfl (zfv_r rfl zg_10_0) ?_
    obtain ⟨q5, hq5, hF⟩ := bind_some hF
    refine mw_callV (c := 8) [] [] C dX3_takeWash_23 (T_X8_advance (zl Z) (zX Z) _ _ hq5) rfl zn8 zk8 (by decide) rfl wd425 wd359 wd360 wd2 wd361 hd_X8_advance rfl (by decide) (by decide) (Nat.le_of_ble_eq_true rfl) ⟨Nat.zero_le _, Nat.zero_le _⟩ ?_
    refine mw_aload_n 1 C dX3_takeWash_26 rfl rfl ?_
    obtain ⟨q6, hq6, hF⟩ := bind_some hF
    refine mw_callV (c := 10) [] [] C dX3_takeWash_27 (T_X3_sortHere (zl Z) (zX Z) _ _ hq6) rfl zn10 zk10 (by decide) rfl wd477 wd478 wd1324 wd3 wd479 hd_X3_sortHere rfl (by decide) (by decide) (Nat.le_of_ble_eq_true rfl) ⟨Nat.zero_le _, Nat.zero_le _⟩ ?_
    refine mw_istore_n [(2, iv q6.1), (1, iv q2.1), (0, rfv (xd (zX Z)) 10)] C dX3_takeWash_30 rfl (by decide) rfl ?_
    refine mw_iload_n 0 C dX3_takeWash_31 rfl rfl ?_
    refine mw_iconst C dX3_takeWash_32 ?_
    obtain ⟨g7, hF⟩ := ck_some hF
    rcases ite_some hF with ⟨c8, hF⟩ | ⟨c8, hF⟩
    · refine mw_icmp_ne_t (tgt := 38) C dX3_takeWash_33 (by decide) g7 (by decide) c8 ?_
      refine mw_iload_n 1 C dX3_takeWash_38 rfl rfl ?_
      refine mw_iload_n 0 C dX3_takeWash_39 rfl rfl ?_
      rcases ite_some hF with ⟨c9, hF⟩ | ⟨c9, hF⟩
      · refine mw_icmp_eq_t (tgt := 55) C dX3_takeWash_40 (by decide) g3 g7 c9 ?_
        refine mw_sub [2] rfl ?_
        exact T_X3_takeWash_55 C _ _ hF
      · refine mw_icmp_eq_f (tgt := 55) C dX3_takeWash_40 (by decide) g3 g7 c9 ?_
        refine mw_aload_n 2 C dX3_takeWash_43 rfl rfl ?_
        refine mw_get (k := 1) (T := TX3) (v := rfv (xd (zX Z)) 11) C dX3_takeWash_44 zn10 zk10 (by decide) rfl inX3 (by decide) wd135 rfl (zfv_r rfl zg_10_1) ?_
        refine mw_iload_n 1 C dX3_takeWash_47 rfl rfl ?_
        refine mw_iload_n 0 C dX3_takeWash_48 rfl rfl ?_
        obtain ⟨q10, hq10, hF⟩ := bind_some hF
        refine mw_callV (c := 11) [iv q2.1, iv q6.1] [] C dX3_takeWash_49 (T_X5_washTold (zl Z) (zX Z) 11 q2.1 q6.1 ok_11 _ _ hq10) rfl zn11 zk11 (by decide) rfl wd480 wd481 wd482 wd4 wd483 hd_X5_washTold rfl (by decide) (by decide) (Nat.le_of_ble_eq_true rfl) ⟨Nat.zero_le _, Nat.zero_le _⟩ ?_
        obtain ⟨g11, hF⟩ := ck_some hF
        rcases ite_some hF with ⟨c12, hF⟩ | ⟨c12, hF⟩
        · refine mw_if_eq_t (tgt := 64) C dX3_takeWash_52 (by decide) g11 c12 ?_
          refine mw_aload_n 2 C dX3_takeWash_64 rfl rfl ?_
          refine mw_get (k := 0) (T := TX3) (v := rfv (xd (zX Z)) 8) C dX3_takeWash_65 zn10 zk10 (by decide) rfl inX3 (by decide) wd134 rfl (zfv_r rfl zg_10_0) ?_
          obtain ⟨q13, hq13, hF⟩ := bind_some hF
          refine mw_callV (c := 8) [] [] C dX3_takeWash_68 (T_X8_advance (zl Z) (zX Z) _ _ hq13) rfl zn8 zk8 (by decide) rfl wd425 wd359 wd360 wd2 wd361 hd_X8_advance rfl (by decide) (by decide) (Nat.le_of_ble_eq_true rfl) ⟨Nat.zero_le _, Nat.zero_le _⟩ ?_
          refine mw_aload_n 2 C dX3_takeWash_71 rfl rfl ?_
          refine mw_get (k := 0) (T := TX3) (v := rfv (xd (zX Z)) 8) C dX3_takeWash_72 zn10 zk10 (by decide) rfl inX3 (by decide) wd134 rfl (zfv_r rfl zg_10_0) ?_
          refine mw_iconst C dX3_takeWash_75 ?_
          refine mw_sipush C dX3_takeWash_76 sp_999 ?_
          obtain ⟨q14, hq14, hF⟩ := bind_some hF
          refine mw_callV (c := 8) [iv 0, iv 999] [] C dX3_takeWash_79 (T_X8_takeNumber (zl Z) (zX Z) 0 999 _ _ hq14) rfl zn8 zk8 (by decide) rfl wd451 wd452 wd453 wd2 wd454 hd_X8_takeNumber rfl (by decide) (by decide) (Nat.le_of_ble_eq_true rfl) ⟨Nat.zero_le _, Nat.zero_le _⟩ ?_
          obtain ⟨g15, hF⟩ := ck_some hF
          rcases ite_some hF with ⟨c16, hF⟩ | ⟨c16, hF⟩
          · refine mw_if_ne_t (tgt := 87) C dX3_takeWash_82 (by decide) g15 c16 ?_
            refine mw_aload_n 2 C dX3_takeWash_87 rfl rfl ?_
            refine mw_get (k := 1) (T := TX3) (v := rfv (xd (zX Z)) 11) C dX3_takeWash_88 zn10 zk10 (by decide) rfl inX3 (by decide) wd135 rfl (zfv_r rfl zg_10_1) ?_
            refine mw_get (k := 3) (T := TX5) (v := rfv (xd (zX Z)) 25) C dX3_takeWash_91 zn11 zk11 (by decide) rfl inX5 (by decide) wd129 rfl (zfv_r rfl zg_11_3) ?_
            refine mw_iload_n 1 C dX3_takeWash_94 rfl rfl ?_
            refine mw_bipush C dX3_takeWash_95 bp_7 ?_
            refine mw_imul C dX3_takeWash_97 ?_
            refine mw_iload_n 0 C dX3_takeWash_98 rfl rfl ?_
            refine mw_iadd C dX3_takeWash_99 ?_
            refine mw_aload_n 2 C dX3_takeWash_100 rfl rfl ?_
            refine mw_get (k := 0) (T := TX3) (v := rfv (xd (zX Z)) 8) C dX3_takeWash_101 zn10 zk10 (by decide) rfl inX3 (by decide) wd134 rfl (zfv_r rfl zg_10_0) ?_
            refine mw_get (k := 8) (T := TX8) (v := iv (q14.2 8 8)) C dX3_takeWash_104 zn8 zk8 (by decide) rfl inX8 (by decide) wd51 rfl rfl ?_
            obtain ⟨g17, hF⟩ := ck_some hF
            obtain ⟨h18, eh18, hF⟩ := nx_some hF
            refine mw_iast C dX3_takeWash_107 zn25 zk25 (by decide) g17 (mw_h eh18 ?_)
            refine mw_aload_n 2 C dX3_takeWash_108 rfl rfl ?_
            refine mw_get (k := 0) (T := TX3) (v := rfv (xd (zX Z)) 8) C dX3_takeWash_109 zn10 zk10 (by decide) rfl inX3 (by decide) wd134 rfl (zfv_r rfl zg_10_0) ?_
            obtain ⟨q19, hq19, hF⟩ := bind_some hF
            refine mw_callV (c := 8) [] [] C dX3_takeWash_112 (T_X8_takeSign (zl Z) (zX Z) _ _ hq19) rfl zn8 zk8 (by decide) rfl wd461 wd462 wd463 wd2 wd464 hd_X8_takeSign rfl (by decide) (by decide) (Nat.le_of_ble_eq_true rfl) ⟨Nat.zero_le _, Nat.zero_le _⟩ ?_
            obtain ⟨g20, hF⟩ := ck_some hF
            cases hF
            exact mw_zret C dX3_takeWash_115 g20 rfl rfl
          · refine mw_if_ne_f (tgt := 87) C dX3_takeWash_82 (by decide) g15 c16 ?_
            refine mw_iconst C dX3_takeWash_85 ?_
            cases hF
            exact mw_zret C dX3_takeWash_86 (Or.inl rfl) rfl rfl
        · refine mw_if_eq_f (tgt := 64) C dX3_takeWash_52 (by decide) g11 c12 ?_
          refine mw_sub [2] rfl ?_
          exact T_X3_takeWash_55 C _ _ hF
    · refine mw_icmp_ne_f (tgt := 38) C dX3_takeWash_33 (by decide) g7 (by decide) c8 ?_
      refine mw_iconst C dX3_takeWash_36 ?_
      cases hF
      exact mw_zret C dX3_takeWash_37 (Or.inl rfl) rfl rfl
  · refine mw_icmp_ne_f (tgt := 19) C dX3_takeWash_14 (by decide) g3 (by decide) c4 ?_
    refine mw_iconst C dX3_takeWash_17 ?_
    cases hF
    exact mw_zret C dX3_takeWash_18 (Or.inl rfl) rfl rfl
def F_X3_takeWash (h : MH) : Option (Int × MH) := F_X3_takeWash_0 h
theorem T_X3_takeWash (l : Launch) (X : XT) (h : MH) (t : (Int × MH)) (hF : F_X3_takeWash h = some t) : Ct l X yX3_takeWash cX3_takeWash 3 (some .boolean) 9 [rfv (xd X) 10] zN zG h (some (iv t.1)) zN zG t.2 0 0 := by
  refine Ct.head (by decide) (Nat.le_of_ble_eq_true rfl) (fun Z hX hl _ _ _ C => ?_)
  subst hX
  subst hl
  exact (T_X3_takeWash_0 C _ _ hF)
/-! BottleLine$LineReader.takePart()Z -/
def F_X3_takePart_0 (h : MH) : Option (Int × MH) :=
  (F_X8_is 0 h).bind fun q1 =>
  ck (in32 q1.1) <|
  if q1.1 = 0 then
    (F_X8_is 5 q1.2).bind fun q4 =>
    ck (in32 q4.1) <|
    if q4.1 = 0 then
      (F_X8_is 6 q4.2).bind fun q7 =>
      ck (in32 q7.1) <|
      if q7.1 = 0 then
        (F_X8_is 7 q7.2).bind fun q10 =>
        ck (in32 q10.1) <|
        if q10.1 = 0 then
          (F_X8_misplaced q10.2).bind fun q13 =>
          ck (q13.1 = 0 ∨ q13.1 = 1) <|
          some (q13.1, q13.2)
        else
          (F_X3_takeWash q10.2).bind fun q15 =>
          ck (q15.1 = 0 ∨ q15.1 = 1) <|
          some (q15.1, q15.2)
      else
        (F_X3_takeSort q7.2).bind fun q17 =>
        ck (q17.1 = 0 ∨ q17.1 = 1) <|
        some (q17.1, q17.2)
    else
      (F_X3_takeTable q4.2).bind fun q19 =>
      ck (q19.1 = 0 ∨ q19.1 = 1) <|
      some (q19.1, q19.2)
  else
    (F_X3_takeMachine q1.2).bind fun q21 =>
    ck (q21.1 = 0 ∨ q21.1 = 1) <|
    some (q21.1, q21.2)
set_option maxRecDepth 100000 in
theorem T_X3_takePart_0 {Z : ZT} (C : Cx Z cX3_takePart 1 RX3 10 (some .boolean)) (h : MH) (t : (Int × MH)) (hF : F_X3_takePart_0 h = some t) : MW Z (Qm Z (some (iv t.1)) zN zG t.2 0 0) 1 zN zG h 0 0 0 [(0, rfv (xd (zX Z)) 10)] [] := by
  unfold F_X3_takePart_0 at hF
  refine mw_aload_n 0 C dX3_takePart_0 rfl rfl ?_
  refine mw_get (k := 0) (T := TX3) (v := rfv (xd (zX Z)) 8) C dX3_takePart_1 zn10 zk10 (by decide) rfl inX3 (by decide) wd134 rfl (zfv_r rfl zg_10_0) ?_
  refine mw_ldcS 0 (by decide) rfl rfl C dX3_takePart_4 ?_
  obtain ⟨q1, hq1, hF⟩ := bind_some hF
  refine mw_callV (c := 8) [.ref (xa (zX Z) 0)] [] C dX3_takePart_6 (T_X8_is (zl Z) (zX Z) 0 (by decide) _ _ hq1) rfl zn8 zk8 (by decide) rfl wd371 wd372 wd373 wd2 wd374 hd_X8_is rfl (by decide) (by decide) (Nat.le_of_ble_eq_true rfl) ⟨Nat.zero_le _, Nat.zero_le _⟩ ?_
  obtain ⟨g2, hF⟩ := ck_some hF
  rcases ite_some hF with ⟨c3, hF⟩ | ⟨c3, hF⟩
  · refine mw_if_eq_t (tgt := 17) C dX3_takePart_9 (by decide) g2 c3 ?_
    refine mw_aload_n 0 C dX3_takePart_17 rfl rfl ?_
    refine mw_get (k := 0) (T := TX3) (v := rfv (xd (zX Z)) 8) C dX3_takePart_18 zn10 zk10 (by decide) rfl inX3 (by decide) wd134 rfl (zfv_r rfl zg_10_0) ?_
    refine mw_ldcS 5 (by decide) rfl rfl C dX3_takePart_21 ?_
    obtain ⟨q4, hq4, hF⟩ := bind_some hF
    refine mw_callV (c := 8) [.ref (xa (zX Z) 5)] [] C dX3_takePart_23 (T_X8_is (zl Z) (zX Z) 5 (by decide) _ _ hq4) rfl zn8 zk8 (by decide) rfl wd371 wd372 wd373 wd2 wd374 hd_X8_is rfl (by decide) (by decide) (Nat.le_of_ble_eq_true rfl) ⟨Nat.zero_le _, Nat.zero_le _⟩ ?_
    obtain ⟨g5, hF⟩ := ck_some hF
    rcases ite_some hF with ⟨c6, hF⟩ | ⟨c6, hF⟩
    · refine mw_if_eq_t (tgt := 34) C dX3_takePart_26 (by decide) g5 c6 ?_
      refine mw_aload_n 0 C dX3_takePart_34 rfl rfl ?_
      refine mw_get (k := 0) (T := TX3) (v := rfv (xd (zX Z)) 8) C dX3_takePart_35 zn10 zk10 (by decide) rfl inX3 (by decide) wd134 rfl (zfv_r rfl zg_10_0) ?_
      refine mw_ldcS 6 (by decide) rfl rfl C dX3_takePart_38 ?_
      obtain ⟨q7, hq7, hF⟩ := bind_some hF
      refine mw_callV (c := 8) [.ref (xa (zX Z) 6)] [] C dX3_takePart_40 (T_X8_is (zl Z) (zX Z) 6 (by decide) _ _ hq7) rfl zn8 zk8 (by decide) rfl wd371 wd372 wd373 wd2 wd374 hd_X8_is rfl (by decide) (by decide) (Nat.le_of_ble_eq_true rfl) ⟨Nat.zero_le _, Nat.zero_le _⟩ ?_
      obtain ⟨g8, hF⟩ := ck_some hF
      rcases ite_some hF with ⟨c9, hF⟩ | ⟨c9, hF⟩
      · refine mw_if_eq_t (tgt := 51) C dX3_takePart_43 (by decide) g8 c9 ?_
        refine mw_aload_n 0 C dX3_takePart_51 rfl rfl ?_
        refine mw_get (k := 0) (T := TX3) (v := rfv (xd (zX Z)) 8) C dX3_takePart_52 zn10 zk10 (by decide) rfl inX3 (by decide) wd134 rfl (zfv_r rfl zg_10_0) ?_
        refine mw_ldcS 7 (by decide) rfl rfl C dX3_takePart_55 ?_
        obtain ⟨q10, hq10, hF⟩ := bind_some hF
        refine mw_callV (c := 8) [.ref (xa (zX Z) 7)] [] C dX3_takePart_57 (T_X8_is (zl Z) (zX Z) 7 (by decide) _ _ hq10) rfl zn8 zk8 (by decide) rfl wd371 wd372 wd373 wd2 wd374 hd_X8_is rfl (by decide) (by decide) (Nat.le_of_ble_eq_true rfl) ⟨Nat.zero_le _, Nat.zero_le _⟩ ?_
        obtain ⟨g11, hF⟩ := ck_some hF
        rcases ite_some hF with ⟨c12, hF⟩ | ⟨c12, hF⟩
        · refine mw_if_eq_t (tgt := 70) C dX3_takePart_60 (by decide) g11 c12 ?_
          refine mw_aload_n 0 C dX3_takePart_70 rfl rfl ?_
          refine mw_get (k := 0) (T := TX3) (v := rfv (xd (zX Z)) 8) C dX3_takePart_71 zn10 zk10 (by decide) rfl inX3 (by decide) wd134 rfl (zfv_r rfl zg_10_0) ?_
          obtain ⟨q13, hq13, hF⟩ := bind_some hF
          refine mw_callV (c := 8) [] [] C dX3_takePart_74 (T_X8_misplaced (zl Z) (zX Z) _ _ hq13) rfl zn8 zk8 (by decide) rfl wd433 wd434 wd435 wd2 wd436 hd_X8_misplaced rfl (by decide) (by decide) (Nat.le_of_ble_eq_true rfl) ⟨Nat.zero_le _, Nat.zero_le _⟩ ?_
          obtain ⟨g14, hF⟩ := ck_some hF
          cases hF
          exact mw_zret C dX3_takePart_77 g14 rfl rfl
        · refine mw_if_eq_f (tgt := 70) C dX3_takePart_60 (by decide) g11 c12 ?_
          refine mw_aload_n 0 C dX3_takePart_63 rfl rfl ?_
          obtain ⟨q15, hq15, hF⟩ := bind_some hF
          refine mw_callV (c := 10) [] [] C dX3_takePart_64 (T_X3_takeWash (zl Z) (zX Z) _ _ hq15) rfl zn10 zk10 (by decide) rfl wd474 wd475 wd1323 wd3 wd476 hd_X3_takeWash rfl (by decide) (by decide) (Nat.le_of_ble_eq_true rfl) ⟨Nat.zero_le _, Nat.zero_le _⟩ ?_
          refine mw_goto (tgt := 77) C dX3_takePart_67 (by decide) ?_
          obtain ⟨g16, hF⟩ := ck_some hF
          cases hF
          exact mw_zret C dX3_takePart_77 g16 rfl rfl
      · refine mw_if_eq_f (tgt := 51) C dX3_takePart_43 (by decide) g8 c9 ?_
        refine mw_aload_n 0 C dX3_takePart_46 rfl rfl ?_
        obtain ⟨q17, hq17, hF⟩ := bind_some hF
        refine mw_callV (c := 10) [] [] C dX3_takePart_47 (T_X3_takeSort (zl Z) (zX Z) _ _ hq17) rfl zn10 zk10 (by decide) rfl wd468 wd469 wd1321 wd3 wd470 hd_X3_takeSort rfl (by decide) (by decide) (Nat.le_of_ble_eq_true rfl) ⟨Nat.zero_le _, Nat.zero_le _⟩ ?_
        obtain ⟨g18, hF⟩ := ck_some hF
        cases hF
        exact mw_zret C dX3_takePart_50 g18 rfl rfl
    · refine mw_if_eq_f (tgt := 34) C dX3_takePart_26 (by decide) g5 c6 ?_
      refine mw_aload_n 0 C dX3_takePart_29 rfl rfl ?_
      obtain ⟨q19, hq19, hF⟩ := bind_some hF
      refine mw_callV (c := 10) [] [] C dX3_takePart_30 (T_X3_takeTable (zl Z) (zX Z) _ _ hq19) rfl zn10 zk10 (by decide) rfl wd465 wd466 wd1320 wd3 wd467 hd_X3_takeTable rfl (by decide) (by decide) (Nat.le_of_ble_eq_true rfl) ⟨Nat.zero_le _, Nat.zero_le _⟩ ?_
      obtain ⟨g20, hF⟩ := ck_some hF
      cases hF
      exact mw_zret C dX3_takePart_33 g20 rfl rfl
  · refine mw_if_eq_f (tgt := 17) C dX3_takePart_9 (by decide) g2 c3 ?_
    refine mw_aload_n 0 C dX3_takePart_12 rfl rfl ?_
    obtain ⟨q21, hq21, hF⟩ := bind_some hF
    refine mw_callV (c := 10) [] [] C dX3_takePart_13 (T_X3_takeMachine (zl Z) (zX Z) _ _ hq21) rfl zn10 zk10 (by decide) rfl wd418 wd419 wd1315 wd3 wd420 hd_X3_takeMachine rfl (by decide) (by decide) (Nat.le_of_ble_eq_true rfl) ⟨Nat.zero_le _, Nat.zero_le _⟩ ?_
    obtain ⟨g22, hF⟩ := ck_some hF
    cases hF
    exact mw_zret C dX3_takePart_16 g22 rfl rfl
def F_X3_takePart (h : MH) : Option (Int × MH) := F_X3_takePart_0 h
theorem T_X3_takePart (l : Launch) (X : XT) (h : MH) (t : (Int × MH)) (hF : F_X3_takePart h = some t) : Ct l X yX3_takePart cX3_takePart 1 (some .boolean) 10 [rfv (xd X) 10] zN zG h (some (iv t.1)) zN zG t.2 0 0 := by
  refine Ct.head (by decide) (Nat.le_of_ble_eq_true rfl) (fun Z hX hl _ _ _ C => ?_)
  subst hX
  subst hl
  exact (T_X3_takePart_0 C _ _ hF)
/-! BottleLine$LineReader.takesAll(I)Z -/
def F_X3_takesAll_17 : Nat → Int → MH → Option (Int × MH)
  | 0, _, _ => none
  | n + 1, x2, h =>
    ck (in32 x2) <|
    if 700 < x2 then
      some (0, h)
    else
      ck (in32 (h 8 4)) <|
      if (h 8 4) ≠ 0 then
        (F_X3_takePart h).bind fun q5 =>
        ck (in32 q5.1) <|
        if q5.1 ≠ 0 then
          F_X3_takesAll_17 n (x2 + 1) q5.2
        else
          some (0, q5.2)
      else
        some (1, h)
set_option maxRecDepth 100000 in
theorem T_X3_takesAll_17 {Z : ZT} (C : Cx Z cX3_takesAll 3 RX3 11 (some .boolean)) : ∀ (n : Nat) (x2 : Int) (h : MH) (t : (Int × MH)), F_X3_takesAll_17 n x2 h = some t → MW Z (Qm Z (some (iv t.1)) zN zG t.2 0 0) 3 zN zG h 0 0 17 [(0, rfv (xd (zX Z)) 10), (2, iv x2)] [] := by
  intro n
  induction n with
  | zero =>
    intros
    rename_i hF
    exact absurd hF (by intro q; cases q)
  | succ n ih =>
    intro x2 h t hF
    rw [F_X3_takesAll_17] at hF
    refine mw_iload_n 1 C dX3_takesAll_17 rfl rfl ?_
    refine mw_sipush C dX3_takesAll_18 sp_700 ?_
    obtain ⟨g1, hF⟩ := ck_some hF
    rcases ite_some hF with ⟨c2, hF⟩ | ⟨c2, hF⟩
    · refine mw_icmp_gt_t (tgt := 51) C dX3_takesAll_21 (by decide) g1 (by decide) c2 ?_
      refine mw_iconst C dX3_takesAll_51 ?_
      cases hF
      exact mw_zret C dX3_takesAll_52 (Or.inl rfl) rfl rfl
    · refine mw_icmp_gt_f (tgt := 51) C dX3_takesAll_21 (by decide) g1 (by decide) c2 ?_
      refine mw_aload_n 0 C dX3_takesAll_24 rfl rfl ?_
      refine mw_get (k := 0) (T := TX3) (v := rfv (xd (zX Z)) 8) C dX3_takesAll_25 zn10 zk10 (by decide) rfl inX3 (by decide) wd134 rfl (zfv_r rfl zg_10_0) ?_
      refine mw_get (k := 4) (T := TX8) (v := iv (h 8 4)) C dX3_takesAll_28 zn8 zk8 (by decide) rfl inX8 (by decide) wd43 rfl rfl ?_
      obtain ⟨g3, hF⟩ := ck_some hF
      rcases ite_some hF with ⟨c4, hF⟩ | ⟨c4, hF⟩
      · refine mw_if_ne_t (tgt := 36) C dX3_takesAll_31 (by decide) g3 c4 ?_
        refine mw_aload_n 0 C dX3_takesAll_36 rfl rfl ?_
        obtain ⟨q5, hq5, hF⟩ := bind_some hF
        refine mw_callV (c := 10) [] [] C dX3_takesAll_37 (T_X3_takePart (zl Z) (zX Z) _ _ hq5) rfl zn10 zk10 (by decide) rfl wd368 wd369 wd1314 wd3 wd370 hd_X3_takePart rfl (by decide) (by decide) (Nat.le_of_ble_eq_true rfl) ⟨Nat.zero_le _, Nat.zero_le _⟩ ?_
        obtain ⟨g6, hF⟩ := ck_some hF
        rcases ite_some hF with ⟨c7, hF⟩ | ⟨c7, hF⟩
        · refine mw_if_ne_t (tgt := 45) C dX3_takesAll_40 (by decide) g6 c7 ?_
          refine mw_iinc 1 [(2, iv (x2 + 1)), (0, rfv (xd (zX Z)) 10)] C dX3_takesAll_45 rfl (by decide) rfl ?_
          refine mw_goto (tgt := 17) C dX3_takesAll_48 (by decide) ?_
          refine mw_sub [1, 0] rfl ?_
          exact ih (x2 + 1) _ _ hF
        · refine mw_if_ne_f (tgt := 45) C dX3_takesAll_40 (by decide) g6 c7 ?_
          refine mw_iconst C dX3_takesAll_43 ?_
          cases hF
          exact mw_zret C dX3_takesAll_44 (Or.inl rfl) rfl rfl
      · refine mw_if_ne_f (tgt := 36) C dX3_takesAll_31 (by decide) g3 c4 ?_
        refine mw_iconst C dX3_takesAll_34 ?_
        cases hF
        exact mw_zret C dX3_takesAll_35 (Or.inr rfl) rfl rfl
def F_X3_takesAll_0 (x1 : Int) (h : MH) : Option (Int × MH) :=
  (F_X5_clear 11 h).bind fun q1 =>
  (F_X8_open x1 q1).bind fun q2 =>
  F_X3_takesAll_17 20000 0 q2
set_option maxRecDepth 100000 in
theorem T_X3_takesAll_0 {Z : ZT} (C : Cx Z cX3_takesAll 3 RX3 11 (some .boolean)) (x1 : Int) (h : MH) (t : (Int × MH)) (hF : F_X3_takesAll_0 x1 h = some t) : MW Z (Qm Z (some (iv t.1)) zN zG t.2 0 0) 3 zN zG h 0 0 0 [(0, rfv (xd (zX Z)) 10), (1, iv x1)] [] := by
  unfold F_X3_takesAll_0 at hF
  refine mw_aload_n 0 C dX3_takesAll_0 rfl rfl ?_
  refine mw_get (k := 1) (T := TX3) (v := rfv (xd (zX Z)) 11) C dX3_takesAll_1 zn10 zk10 (by decide) rfl inX3 (by decide) wd135 rfl (zfv_r rfl zg_10_1) ?_
  obtain ⟨q1, hq1, hF⟩ := bind_some hF
  refine mw_callV (c := 11) [] [] C dX3_takesAll_4 (T_X5_clear (zl Z) (zX Z) 11 ok_11 _ _ hq1) rfl zn11 zk11 (by decide) rfl wd341 wd342 wd343 wd4 wd344 hd_X5_clear rfl (by decide) (by decide) (Nat.le_of_ble_eq_true rfl) ⟨Nat.zero_le _, Nat.zero_le _⟩ ?_
  refine mw_aload_n 0 C dX3_takesAll_7 rfl rfl ?_
  refine mw_get (k := 0) (T := TX3) (v := rfv (xd (zX Z)) 8) C dX3_takesAll_8 zn10 zk10 (by decide) rfl inX3 (by decide) wd134 rfl (zfv_r rfl zg_10_0) ?_
  refine mw_iload_n 1 C dX3_takesAll_11 rfl rfl ?_
  obtain ⟨q2, hq2, hF⟩ := bind_some hF
  refine mw_callV (c := 8) [iv x1] [] C dX3_takesAll_12 (T_X8_open (zl Z) (zX Z) x1 _ _ hq2) rfl zn8 zk8 (by decide) rfl wd351 wd352 wd353 wd2 wd354 hd_X8_open rfl (by decide) (by decide) (Nat.le_of_ble_eq_true rfl) ⟨Nat.zero_le _, Nat.zero_le _⟩ ?_
  refine mw_iconst C dX3_takesAll_15 ?_
  refine mw_istore_n [(2, iv 0), (0, rfv (xd (zX Z)) 10), (1, iv x1)] C dX3_takesAll_16 rfl (by decide) rfl ?_
  refine mw_sub [1, 0] rfl ?_
  exact T_X3_takesAll_17 C 20000 0 _ _ hF
def F_X3_takesAll (x1 : Int) (h : MH) : Option (Int × MH) := F_X3_takesAll_0 x1 h
theorem T_X3_takesAll (l : Launch) (X : XT) (x1 : Int) (h : MH) (t : (Int × MH)) (hF : F_X3_takesAll x1 h = some t) : Ct l X yX3_takesAll cX3_takesAll 3 (some .boolean) 11 [rfv (xd X) 10, iv x1] zN zG h (some (iv t.1)) zN zG t.2 0 0 := by
  refine Ct.head (by decide) (Nat.le_of_ble_eq_true rfl) (fun Z hX hl _ _ _ C => ?_)
  subst hX
  subst hl
  exact (T_X3_takesAll_0 C x1 _ _ hF)
/-! BottleLine$Packing.fits([JIIII)Z -/
def F_X4_fits_106 (rec : Nat → Int → Int → Int → Int → MH → Option (Int × MH)) (k13 : Nat → Int → Int → Int → Int → Int → MH → Option (Int × MH)) (x1 : Nat) (x2 : Int) (x3 : Int) (x4 : Int) (x5 : Int) (x6 : Int) (h : MH) : Option (Int × MH) :=
  k13 x1 x2 x3 x4 x5 (x6 + 1) h
set_option maxRecDepth 100000 in
theorem T_X4_fits_106 {Z : ZT} {nd : Nat} (C : Cx Z cX4_fits 7 RX4 (1 + nd + 1) (some .boolean)) (rec : Nat → Int → Int → Int → Int → MH → Option (Int × MH)) (hrec : ∀ (x1 : Nat) (x2 : Int) (x3 : Int) (x4 : Int) (x5 : Int) (hk_x1 : zK x1 = (22, 60) ∧ x1 < zN ∧ 60 < 2147483648) (h : MH) (t : (Int × MH)), rec x1 x2 x3 x4 x5 h = some t → Ct (zl Z) (zX Z) yX4_fits cX4_fits 7 (some .boolean) (1 + nd) [rfv (xd (zX Z)) 78, rfv (xd (zX Z)) x1, iv x2, iv x3, iv x4, iv x5] zN zG h (some (iv t.1)) zN zG t.2 0 0) (k13 : Nat → Int → Int → Int → Int → Int → MH → Option (Int × MH)) (hk13 : ∀ (x1 : Nat) (x2 : Int) (x3 : Int) (x4 : Int) (x5 : Int) (x6 : Int) (hk_x1 : zK x1 = (22, 60) ∧ x1 < zN ∧ 60 < 2147483648) (h : MH) (t : (Int × MH)), k13 x1 x2 x3 x4 x5 x6 h = some t → MW Z (Qm Z (some (iv t.1)) zN zG t.2 0 0) 7 zN zG h 0 0 13 [(0, rfv (xd (zX Z)) 78), (1, rfv (xd (zX Z)) x1), (2, iv x2), (3, iv x3), (4, iv x4), (5, iv x5), (6, iv x6)] []) (x1 : Nat) (x2 : Int) (x3 : Int) (x4 : Int) (x5 : Int) (x6 : Int) (hk_x1 : zK x1 = (22, 60) ∧ x1 < zN ∧ 60 < 2147483648) (h : MH) (t : (Int × MH)) (hF : F_X4_fits_106 rec k13 x1 x2 x3 x4 x5 x6 h = some t) : MW Z (Qm Z (some (iv t.1)) zN zG t.2 0 0) 7 zN zG h 0 0 106 [(0, rfv (xd (zX Z)) 78), (1, rfv (xd (zX Z)) x1), (2, iv x2), (3, iv x3), (4, iv x4), (5, iv x5), (6, iv x6)] [] := by
  unfold F_X4_fits_106 at hF
  refine mw_iinc 6 [(6, iv (x6 + 1)), (0, rfv (xd (zX Z)) 78), (1, rfv (xd (zX Z)) x1), (2, iv x2), (3, iv x3), (4, iv x4), (5, iv x5)] C dX4_fits_106 rfl (by decide) rfl ?_
  refine mw_goto (tgt := 13) C dX4_fits_109 (by decide) ?_
  refine mw_sub [1, 2, 3, 4, 5, 6, 0] rfl ?_
  exact hk13 x1 x2 x3 x4 x5 (x6 + 1) hk_x1 _ _ hF
def F_X4_fits_13 (rec : Nat → Int → Int → Int → Int → MH → Option (Int × MH)) : Nat → Nat → Int → Int → Int → Int → Int → MH → Option (Int × MH)
  | 0, _, _, _, _, _, _, _ => none
  | n + 1, x1, x2, x3, x4, x5, x6, h =>
    ck (in32 x6) <|
    ck (in32 x3) <|
    if x3 < x6 then
      some (0, h)
    else
      ck (in32 x4) <|
      if x4 ≤ x6 then
        some (0, h)
      else
        ck (0 ≤ x6 ∧ x6 < 8) <|
        ck (0 ≤ x2 ∧ x2 < 60) <|
        ck (in32 x5) <|
        ck (in64 ((h 80 x6.toNat) + (h x1 x2.toNat))) <|
        if ((h 80 x6.toNat) + (h x1 x2.toNat)) ≤ x5 then
          nx (hup h 80 x6.toNat ((h 80 x6.toNat) + (h x1 x2.toNat))) fun h11 =>
          ck (0 ≤ x2 ∧ x2 < 8) <|
          nx (hup h11 79 x2.toNat x6) fun h13 =>
          ck (in32 (x6 + 1)) <|
          (rec x1 (x2 + 1) (max x3 (x6 + 1)) x4 x5 h13).bind fun q15 =>
          ck (in32 q15.1) <|
          if q15.1 = 0 then
            nx (hup q15.2 80 x6.toNat ((q15.2 80 x6.toNat) - (q15.2 x1 x2.toNat))) fun h18 =>
            F_X4_fits_106 rec (F_X4_fits_13 rec n) x1 x2 x3 x4 x5 x6 h18
          else
            some (1, q15.2)
        else
          F_X4_fits_106 rec (F_X4_fits_13 rec n) x1 x2 x3 x4 x5 x6 h
set_option maxRecDepth 100000 in
theorem T_X4_fits_13 {Z : ZT} {nd : Nat} (C : Cx Z cX4_fits 7 RX4 (1 + nd + 1) (some .boolean)) (rec : Nat → Int → Int → Int → Int → MH → Option (Int × MH)) (hrec : ∀ (x1 : Nat) (x2 : Int) (x3 : Int) (x4 : Int) (x5 : Int) (hk_x1 : zK x1 = (22, 60) ∧ x1 < zN ∧ 60 < 2147483648) (h : MH) (t : (Int × MH)), rec x1 x2 x3 x4 x5 h = some t → Ct (zl Z) (zX Z) yX4_fits cX4_fits 7 (some .boolean) (1 + nd) [rfv (xd (zX Z)) 78, rfv (xd (zX Z)) x1, iv x2, iv x3, iv x4, iv x5] zN zG h (some (iv t.1)) zN zG t.2 0 0) : ∀ (n : Nat) (x1 : Nat) (x2 : Int) (x3 : Int) (x4 : Int) (x5 : Int) (x6 : Int) (hk_x1 : zK x1 = (22, 60) ∧ x1 < zN ∧ 60 < 2147483648) (h : MH) (t : (Int × MH)), F_X4_fits_13 rec n x1 x2 x3 x4 x5 x6 h = some t → MW Z (Qm Z (some (iv t.1)) zN zG t.2 0 0) 7 zN zG h 0 0 13 [(0, rfv (xd (zX Z)) 78), (1, rfv (xd (zX Z)) x1), (2, iv x2), (3, iv x3), (4, iv x4), (5, iv x5), (6, iv x6)] [] := by
  intro n
  induction n with
  | zero =>
    intros
    rename_i hF
    exact absurd hF (by intro q; cases q)
  | succ n ih =>
    intro x1 x2 x3 x4 x5 x6 hk_x1 h t hF
    rw [F_X4_fits_13] at hF
    refine mw_iload 6 C dX4_fits_13 rfl ?_
    refine mw_iload_n 3 C dX4_fits_15 rfl rfl ?_
    obtain ⟨g1, hF⟩ := ck_some hF
    obtain ⟨g2, hF⟩ := ck_some hF
    rcases ite_some hF with ⟨c3, hF⟩ | ⟨c3, hF⟩
    · refine mw_icmp_gt_t (tgt := 112) C dX4_fits_16 (by decide) g1 g2 c3 ?_
      refine mw_iconst C dX4_fits_112 ?_
      cases hF
      exact mw_zret C dX4_fits_113 (Or.inl rfl) rfl rfl
    · refine mw_icmp_gt_f (tgt := 112) C dX4_fits_16 (by decide) g1 g2 c3 ?_
      refine mw_iload 6 C dX4_fits_19 rfl ?_
      refine mw_iload 4 C dX4_fits_21 rfl ?_
      obtain ⟨g4, hF⟩ := ck_some hF
      rcases ite_some hF with ⟨c5, hF⟩ | ⟨c5, hF⟩
      · refine mw_icmp_ge_t (tgt := 112) C dX4_fits_23 (by decide) g1 g4 c5 ?_
        refine mw_iconst C dX4_fits_112 ?_
        cases hF
        exact mw_zret C dX4_fits_113 (Or.inl rfl) rfl rfl
      · refine mw_icmp_ge_f (tgt := 112) C dX4_fits_23 (by decide) g1 g4 c5 ?_
        refine mw_aload_n 0 C dX4_fits_26 rfl rfl ?_
        refine mw_get (k := 2) (T := TX4) (v := rfv (xd (zX Z)) 80) C dX4_fits_27 zn78 zk78 (by decide) rfl inX4 (by decide) wd245 rfl (zfv_r rfl zg_78_2) ?_
        refine mw_iload 6 C dX4_fits_30 rfl ?_
        obtain ⟨g6, hF⟩ := ck_some hF
        refine mw_lald C dX4_fits_32 zn80 zk80 (by decide) g6 ?_
        refine mw_aload_n 1 C dX4_fits_33 rfl rfl ?_
        refine mw_iload_n 2 C dX4_fits_34 rfl rfl ?_
        obtain ⟨g7, hF⟩ := ck_some hF
        refine mw_lald C dX4_fits_35 hk_x1.2.1 hk_x1.1 hk_x1.2.2 g7 ?_
        refine mw_ladd C dX4_fits_36 ?_
        refine mw_iload 5 C dX4_fits_37 rfl ?_
        obtain ⟨g8, hF⟩ := ck_some hF
        refine mw_i2l C dX4_fits_39 g8 ?_
        obtain ⟨g9, hF⟩ := ck_some hF
        rcases ite_some hF with ⟨c10, hF⟩ | ⟨c10, hF⟩
        · refine mw_lcmp_le_t (tgt := 47) C dX4_fits_40 dX4_fits_41 (by decide) g9 (in64_of g8) c10 ?_
          refine mw_aload_n 0 C dX4_fits_47 rfl rfl ?_
          refine mw_get (k := 2) (T := TX4) (v := rfv (xd (zX Z)) 80) C dX4_fits_48 zn78 zk78 (by decide) rfl inX4 (by decide) wd245 rfl (zfv_r rfl zg_78_2) ?_
          refine mw_iload 6 C dX4_fits_51 rfl ?_
          refine mw_dup2 C dX4_fits_53 rfl rfl ?_
          refine mw_lald C dX4_fits_54 zn80 zk80 (by decide) g6 ?_
          refine mw_aload_n 1 C dX4_fits_55 rfl rfl ?_
          refine mw_iload_n 2 C dX4_fits_56 rfl rfl ?_
          refine mw_lald C dX4_fits_57 hk_x1.2.1 hk_x1.1 hk_x1.2.2 g7 ?_
          refine mw_ladd C dX4_fits_58 ?_
          obtain ⟨h11, eh11, hF⟩ := nx_some hF
          refine mw_last C dX4_fits_59 zn80 zk80 (by decide) g6 (mw_h eh11 ?_)
          refine mw_aload_n 0 C dX4_fits_60 rfl rfl ?_
          refine mw_get (k := 0) (T := TX4) (v := rfv (xd (zX Z)) 79) C dX4_fits_61 zn78 zk78 (by decide) rfl inX4 (by decide) wd241 rfl (zfv_r rfl zg_78_0) ?_
          refine mw_iload_n 2 C dX4_fits_64 rfl rfl ?_
          refine mw_iload 6 C dX4_fits_65 rfl ?_
          obtain ⟨g12, hF⟩ := ck_some hF
          obtain ⟨h13, eh13, hF⟩ := nx_some hF
          refine mw_iast C dX4_fits_67 zn79 zk79 (by decide) g12 (mw_h eh13 ?_)
          refine mw_aload_n 0 C dX4_fits_68 rfl rfl ?_
          refine mw_aload_n 1 C dX4_fits_69 rfl rfl ?_
          refine mw_iload_n 2 C dX4_fits_70 rfl rfl ?_
          refine mw_iconst C dX4_fits_71 ?_
          refine mw_iadd C dX4_fits_72 ?_
          refine mw_iload_n 3 C dX4_fits_73 rfl rfl ?_
          refine mw_iload 6 C dX4_fits_74 rfl ?_
          refine mw_iconst C dX4_fits_76 ?_
          refine mw_iadd C dX4_fits_77 ?_
          obtain ⟨g14, hF⟩ := ck_some hF
          refine mw_mmax C dX4_fits_78 wd860 wd571 wd16 wd572 (by omega) (Nat.le_of_ble_eq_true rfl) ⟨Nat.zero_le _, Nat.zero_le _⟩ g2 g14 ?_
          refine mw_iload 4 C dX4_fits_81 rfl ?_
          refine mw_iload 5 C dX4_fits_83 rfl ?_
          obtain ⟨q15, hq15, hF⟩ := bind_some hF
          refine mw_callV (c := 78) [rfv (xd (zX Z)) x1, iv (x2 + 1), iv (max x3 (x6 + 1)), iv x4, iv x5] [] C dX4_fits_85 (hrec x1 (x2 + 1) (max x3 (x6 + 1)) x4 x5 hk_x1 _ _ hq15) rfl zn78 zk78 (by decide) rfl wd857 wd858 wd1356 wd12 wd859 hd_X4_fits rfl (by omega) (by decide) (Nat.le_of_ble_eq_true rfl) ⟨Nat.zero_le _, Nat.zero_le _⟩ ?_
          obtain ⟨g16, hF⟩ := ck_some hF
          rcases ite_some hF with ⟨c17, hF⟩ | ⟨c17, hF⟩
          · refine mw_if_eq_t (tgt := 93) C dX4_fits_88 (by decide) g16 c17 ?_
            refine mw_aload_n 0 C dX4_fits_93 rfl rfl ?_
            refine mw_get (k := 2) (T := TX4) (v := rfv (xd (zX Z)) 80) C dX4_fits_94 zn78 zk78 (by decide) rfl inX4 (by decide) wd245 rfl (zfv_r rfl zg_78_2) ?_
            refine mw_iload 6 C dX4_fits_97 rfl ?_
            refine mw_dup2 C dX4_fits_99 rfl rfl ?_
            refine mw_lald C dX4_fits_100 zn80 zk80 (by decide) g6 ?_
            refine mw_aload_n 1 C dX4_fits_101 rfl rfl ?_
            refine mw_iload_n 2 C dX4_fits_102 rfl rfl ?_
            refine mw_lald C dX4_fits_103 hk_x1.2.1 hk_x1.1 hk_x1.2.2 g7 ?_
            refine mw_lsub C dX4_fits_104 ?_
            obtain ⟨h18, eh18, hF⟩ := nx_some hF
            refine mw_last C dX4_fits_105 zn80 zk80 (by decide) g6 (mw_h eh18 ?_)
            exact T_X4_fits_106 C rec hrec (F_X4_fits_13 rec n) ih x1 x2 x3 x4 x5 x6 hk_x1 _ _ hF
          · refine mw_if_eq_f (tgt := 93) C dX4_fits_88 (by decide) g16 c17 ?_
            refine mw_iconst C dX4_fits_91 ?_
            cases hF
            exact mw_zret C dX4_fits_92 (Or.inr rfl) rfl rfl
        · refine mw_lcmp_le_f (tgt := 47) C dX4_fits_40 dX4_fits_41 (by decide) g9 (in64_of g8) c10 ?_
          refine mw_goto (tgt := 106) C dX4_fits_44 (by decide) ?_
          exact T_X4_fits_106 C rec hrec (F_X4_fits_13 rec n) ih x1 x2 x3 x4 x5 x6 hk_x1 _ _ hF
def F_X4_fits_0 (rec : Nat → Int → Int → Int → Int → MH → Option (Int × MH)) (x1 : Nat) (x2 : Int) (x3 : Int) (x4 : Int) (x5 : Int) (h : MH) : Option (Int × MH) :=
  ck (in32 x2) <|
  ck (in32 (h 78 1)) <|
  if x2 < (h 78 1) then
    F_X4_fits_13 rec 20000 x1 x2 x3 x4 x5 0 h
  else
    some (1, h)
set_option maxRecDepth 100000 in
theorem T_X4_fits_0 {Z : ZT} {nd : Nat} (C : Cx Z cX4_fits 7 RX4 (1 + nd + 1) (some .boolean)) (rec : Nat → Int → Int → Int → Int → MH → Option (Int × MH)) (hrec : ∀ (x1 : Nat) (x2 : Int) (x3 : Int) (x4 : Int) (x5 : Int) (hk_x1 : zK x1 = (22, 60) ∧ x1 < zN ∧ 60 < 2147483648) (h : MH) (t : (Int × MH)), rec x1 x2 x3 x4 x5 h = some t → Ct (zl Z) (zX Z) yX4_fits cX4_fits 7 (some .boolean) (1 + nd) [rfv (xd (zX Z)) 78, rfv (xd (zX Z)) x1, iv x2, iv x3, iv x4, iv x5] zN zG h (some (iv t.1)) zN zG t.2 0 0) (x1 : Nat) (x2 : Int) (x3 : Int) (x4 : Int) (x5 : Int) (hk_x1 : zK x1 = (22, 60) ∧ x1 < zN ∧ 60 < 2147483648) (h : MH) (t : (Int × MH)) (hF : F_X4_fits_0 rec x1 x2 x3 x4 x5 h = some t) : MW Z (Qm Z (some (iv t.1)) zN zG t.2 0 0) 7 zN zG h 0 0 0 [(0, rfv (xd (zX Z)) 78), (1, rfv (xd (zX Z)) x1), (2, iv x2), (3, iv x3), (4, iv x4), (5, iv x5)] [] := by
  unfold F_X4_fits_0 at hF
  refine mw_iload_n 2 C dX4_fits_0 rfl rfl ?_
  refine mw_aload_n 0 C dX4_fits_1 rfl rfl ?_
  refine mw_get (k := 1) (T := TX4) (v := iv (h 78 1)) C dX4_fits_2 zn78 zk78 (by decide) rfl inX4 (by decide) wd243 rfl rfl ?_
  obtain ⟨g1, hF⟩ := ck_some hF
  obtain ⟨g2, hF⟩ := ck_some hF
  rcases ite_some hF with ⟨c3, hF⟩ | ⟨c3, hF⟩
  · refine mw_icmp_lt_t (tgt := 10) C dX4_fits_5 (by decide) g1 g2 c3 ?_
    refine mw_iconst C dX4_fits_10 ?_
    refine mw_istore [(6, iv 0), (0, rfv (xd (zX Z)) 78), (1, rfv (xd (zX Z)) x1), (2, iv x2), (3, iv x3), (4, iv x4), (5, iv x5)] C dX4_fits_11 (by decide) rfl ?_
    refine mw_sub [1, 2, 3, 4, 5, 6, 0] rfl ?_
    exact T_X4_fits_13 C rec hrec 20000 x1 x2 x3 x4 x5 0 hk_x1 _ _ hF
  · refine mw_icmp_lt_f (tgt := 10) C dX4_fits_5 (by decide) g1 g2 c3 ?_
    refine mw_iconst C dX4_fits_8 ?_
    cases hF
    exact mw_zret C dX4_fits_9 (Or.inr rfl) rfl rfl
def F_X4_fits : Nat → Nat → Int → Int → Int → Int → MH → Option (Int × MH)
  | 0, _, _, _, _, _, _ => none
  | nd + 1, x1, x2, x3, x4, x5, h => F_X4_fits_0 (F_X4_fits nd) x1 x2 x3 x4 x5 h
theorem T_X4_fits (l : Launch) (X : XT) : ∀ (nd : Nat) (x1 : Nat) (x2 : Int) (x3 : Int) (x4 : Int) (x5 : Int) (hk_x1 : zK x1 = (22, 60) ∧ x1 < zN ∧ 60 < 2147483648) (h : MH) (t : (Int × MH)), F_X4_fits nd x1 x2 x3 x4 x5 h = some t → Ct l X yX4_fits cX4_fits 7 (some .boolean) (1 + nd) [rfv (xd X) 78, rfv (xd X) x1, iv x2, iv x3, iv x4, iv x5] zN zG h (some (iv t.1)) zN zG t.2 0 0 := by
  intro nd
  induction nd with
  | zero =>
    intros
    rename_i hF
    exact absurd hF (by intro q; cases q)
  | succ nd ih =>
    intro x1 x2 x3 x4 x5 hk_x1 h t hF
    rw [F_X4_fits] at hF
    refine Ct.head (by decide) (Nat.le_of_ble_eq_true rfl) (fun Z hX hl _ _ _ C => ?_)
    subst hX
    subst hl
    exact (T_X4_fits_0 C _ ih x1 x2 x3 x4 x5 hk_x1 _ _ hF)
/-! BottleLine$Packing.pack([JII)I -/
def F_X4_pack_16 : Nat → Nat → Int → Int → Int → MH → Option (Int × MH)
  | 0, _, _, _, _, _ => none
  | n + 1, x1, x2, x3, x4, h =>
    ck (in32 x4) <|
    ck (in32 x2) <|
    if x2 ≤ x4 then
      (F_X4_fits 10 x1 0 0 x2 x3 h).bind fun q4 =>
      some (x2, q4.2)
    else
      (F_X4_fits 10 x1 0 0 x4 x3 h).bind fun q5 =>
      ck (in32 q5.1) <|
      if q5.1 = 0 then
        F_X4_pack_16 n x1 x2 x3 (x4 + 1) q5.2
      else
        some (x4, q5.2)
set_option maxRecDepth 100000 in
theorem T_X4_pack_16 {Z : ZT} (C : Cx Z cX4_pack 5 RX4 14 (some .int)) : ∀ (n : Nat) (x1 : Nat) (x2 : Int) (x3 : Int) (x4 : Int) (hk_x1 : zK x1 = (22, 60) ∧ x1 < zN ∧ 60 < 2147483648) (h : MH) (t : (Int × MH)), F_X4_pack_16 n x1 x2 x3 x4 h = some t → MW Z (Qm Z (some (iv t.1)) zN zG t.2 0 0) 5 zN zG h 0 0 16 [(0, rfv (xd (zX Z)) 78), (1, rfv (xd (zX Z)) x1), (2, iv x2), (3, iv x3), (4, iv x4)] [] := by
  intro n
  induction n with
  | zero =>
    intros
    rename_i hF
    exact absurd hF (by intro q; cases q)
  | succ n ih =>
    intro x1 x2 x3 x4 hk_x1 h t hF
    rw [F_X4_pack_16] at hF
    refine mw_iload 4 C dX4_pack_16 rfl ?_
    refine mw_iload_n 2 C dX4_pack_18 rfl rfl ?_
    obtain ⟨g1, hF⟩ := ck_some hF
    obtain ⟨g2, hF⟩ := ck_some hF
    rcases ite_some hF with ⟨c3, hF⟩ | ⟨c3, hF⟩
    · refine mw_icmp_ge_t (tgt := 44) C dX4_pack_19 (by decide) g1 g2 c3 ?_
      refine mw_aload_n 0 C dX4_pack_44 rfl rfl ?_
      refine mw_aload_n 1 C dX4_pack_45 rfl rfl ?_
      refine mw_iconst C dX4_pack_46 ?_
      refine mw_iconst C dX4_pack_47 ?_
      refine mw_iload_n 2 C dX4_pack_48 rfl rfl ?_
      refine mw_iload_n 3 C dX4_pack_49 rfl rfl ?_
      obtain ⟨q4, hq4, hF⟩ := bind_some hF
      refine mw_callV (c := 78) [rfv (xd (zX Z)) x1, iv 0, iv 0, iv x2, iv x3] [] C dX4_pack_50 (T_X4_fits (zl Z) (zX Z) 10 x1 0 0 x2 x3 hk_x1 _ _ hq4) rfl zn78 zk78 (by decide) rfl wd857 wd858 wd1356 wd12 wd859 hd_X4_fits rfl (by decide) (by decide) (Nat.le_of_ble_eq_true rfl) ⟨Nat.zero_le _, Nat.zero_le _⟩ ?_
      refine mw_pop C dX4_pack_53 rfl ?_
      refine mw_iload_n 2 C dX4_pack_54 rfl rfl ?_
      cases hF
      exact mw_iret C dX4_pack_55 rfl rfl
    · refine mw_icmp_ge_f (tgt := 44) C dX4_pack_19 (by decide) g1 g2 c3 ?_
      refine mw_aload_n 0 C dX4_pack_22 rfl rfl ?_
      refine mw_aload_n 1 C dX4_pack_23 rfl rfl ?_
      refine mw_iconst C dX4_pack_24 ?_
      refine mw_iconst C dX4_pack_25 ?_
      refine mw_iload 4 C dX4_pack_26 rfl ?_
      refine mw_iload_n 3 C dX4_pack_28 rfl rfl ?_
      obtain ⟨q5, hq5, hF⟩ := bind_some hF
      refine mw_callV (c := 78) [rfv (xd (zX Z)) x1, iv 0, iv 0, iv x4, iv x3] [] C dX4_pack_29 (T_X4_fits (zl Z) (zX Z) 10 x1 0 0 x4 x3 hk_x1 _ _ hq5) rfl zn78 zk78 (by decide) rfl wd857 wd858 wd1356 wd12 wd859 hd_X4_fits rfl (by decide) (by decide) (Nat.le_of_ble_eq_true rfl) ⟨Nat.zero_le _, Nat.zero_le _⟩ ?_
      obtain ⟨g6, hF⟩ := ck_some hF
      rcases ite_some hF with ⟨c7, hF⟩ | ⟨c7, hF⟩
      · refine mw_if_eq_t (tgt := 38) C dX4_pack_32 (by decide) g6 c7 ?_
        refine mw_iinc 4 [(4, iv (x4 + 1)), (0, rfv (xd (zX Z)) 78), (1, rfv (xd (zX Z)) x1), (2, iv x2), (3, iv x3)] C dX4_pack_38 rfl (by decide) rfl ?_
        refine mw_goto (tgt := 16) C dX4_pack_41 (by decide) ?_
        refine mw_sub [1, 2, 3, 4, 0] rfl ?_
        exact ih x1 x2 x3 (x4 + 1) hk_x1 _ _ hF
      · refine mw_if_eq_f (tgt := 38) C dX4_pack_32 (by decide) g6 c7 ?_
        refine mw_iload 4 C dX4_pack_35 rfl ?_
        cases hF
        exact mw_iret C dX4_pack_37 rfl rfl
def F_X4_pack_0 (x1 : Nat) (x2 : Int) (x3 : Int) (h : MH) : Option (Int × MH) :=
  nx (hup h 78 1 x2) fun h1 =>
  (F_J7_fill_d0a16 80 8 0 h1).bind fun q2 =>
  F_X4_pack_16 20000 x1 x2 x3 1 q2
set_option maxRecDepth 100000 in
theorem T_X4_pack_0 {Z : ZT} (C : Cx Z cX4_pack 5 RX4 14 (some .int)) (x1 : Nat) (x2 : Int) (x3 : Int) (hk_x1 : zK x1 = (22, 60) ∧ x1 < zN ∧ 60 < 2147483648) (h : MH) (t : (Int × MH)) (hF : F_X4_pack_0 x1 x2 x3 h = some t) : MW Z (Qm Z (some (iv t.1)) zN zG t.2 0 0) 5 zN zG h 0 0 0 [(0, rfv (xd (zX Z)) 78), (1, rfv (xd (zX Z)) x1), (2, iv x2), (3, iv x3)] [] := by
  unfold F_X4_pack_0 at hF
  refine mw_aload_n 0 C dX4_pack_0 rfl rfl ?_
  refine mw_iload_n 2 C dX4_pack_1 rfl rfl ?_
  obtain ⟨h1, eh1, hF⟩ := nx_some hF
  refine mw_put (k := 1) (T := TX4) (ty0 := tyX4) (x := x2) C dX4_pack_2 zn78 zk78 (by decide) rfl inX4 tyX4_ok nmX4 (by decide) wd243 rfl rfl rfl rfl rfl (by decide) (mw_h eh1 ?_)
  refine mw_aload_n 0 C dX4_pack_5 rfl rfl ?_
  refine mw_get (k := 2) (T := TX4) (v := rfv (xd (zX Z)) 80) C dX4_pack_6 zn78 zk78 (by decide) rfl inX4 (by decide) wd245 rfl (zfv_r rfl zg_78_2) ?_
  refine mw_lconst (a := 0) C dX4_pack_9 lc_0 ?_
  obtain ⟨q2, hq2, hF⟩ := bind_some hF
  refine mw_callS [rfv (xd (zX Z)) 80, lvv 0] [] C dX4_pack_10 (T_J7_fill_d0a16 (zl Z) (zX Z) 80 8 0 (⟨zk80, zn80, by decide⟩) _ _ hq2) rfl wd856 wd296 wd13 wd297 hd_J7_fill_d0a16 rfl (by decide) (by decide) (Nat.le_of_ble_eq_true rfl) ⟨Nat.zero_le _, Nat.zero_le _⟩ ?_
  refine mw_iconst C dX4_pack_13 ?_
  refine mw_istore [(4, iv 1), (0, rfv (xd (zX Z)) 78), (1, rfv (xd (zX Z)) x1), (2, iv x2), (3, iv x3)] C dX4_pack_14 (by decide) rfl ?_
  refine mw_sub [1, 2, 3, 4, 0] rfl ?_
  exact T_X4_pack_16 C 20000 x1 x2 x3 1 hk_x1 _ _ hF
def F_X4_pack (x1 : Nat) (x2 : Int) (x3 : Int) (h : MH) : Option (Int × MH) := F_X4_pack_0 x1 x2 x3 h
theorem T_X4_pack (l : Launch) (X : XT) (x1 : Nat) (x2 : Int) (x3 : Int) (hk_x1 : zK x1 = (22, 60) ∧ x1 < zN ∧ 60 < 2147483648) (h : MH) (t : (Int × MH)) (hF : F_X4_pack x1 x2 x3 h = some t) : Ct l X yX4_pack cX4_pack 5 (some .int) 14 [rfv (xd X) 78, rfv (xd X) x1, iv x2, iv x3] zN zG h (some (iv t.1)) zN zG t.2 0 0 := by
  refine Ct.head (by decide) (Nat.le_of_ble_eq_true rfl) (fun Z hX hl _ _ _ C => ?_)
  subst hX
  subst hl
  exact (T_X4_pack_0 C x1 x2 x3 hk_x1 _ _ hF)
/-! BottleLine$Plan.copy(LBottleLine$Plan;)V -/
def F_X5_copy_0 (x0 : Nat) (x1 : Nat) (h : MH) : Option MH :=
  (F_X1_copy (x0 + 1) (x1 + 1) h).bind fun q1 =>
  nx (hcp q1 (x1 + 12) 0 (x0 + 12) 0 6) fun h2 =>
  nx (hcp h2 (x1 + 13) 0 (x0 + 13) 0 6) fun h3 =>
  nx (hcp h3 (x1 + 14) 0 (x0 + 14) 0 49) fun h4 =>
  nx (hup h4 x0 4 (h4 x1 4)) fun h5 =>
  some h5
set_option maxRecDepth 100000 in
theorem T_X5_copy_0 {Z : ZT} (C : Cx Z cX5_copy 2 RX5 2 none) (x0 : Nat) (x1 : Nat) (hk_x0 : okX5 x0) (hk_x1 : okX5 x1) (h : MH) (t : MH) (hF : F_X5_copy_0 x0 x1 h = some t) : MW Z (Qm Z none zN zG t 0 0) 2 zN zG h 0 0 0 [(0, rfv (xd (zX Z)) x0), (1, rfv (xd (zX Z)) x1)] [] := by
  unfold F_X5_copy_0 at hF
  refine mw_aload_n 0 C dX5_copy_0 rfl rfl ?_
  refine mw_get (k := 0) (T := TX5) (v := rfv (xd (zX Z)) (x0 + 1)) C dX5_copy_1 (okX5_n _ hk_x0) (okX5_k _ hk_x0) (by decide) rfl inX5 (by decide) wd117 rfl (zfv_r rfl (okX5_g0 _ hk_x0)) ?_
  refine mw_aload_n 1 C dX5_copy_4 rfl rfl ?_
  refine mw_get (k := 0) (T := TX5) (v := rfv (xd (zX Z)) (x1 + 1)) C dX5_copy_5 (okX5_n _ hk_x1) (okX5_k _ hk_x1) (by decide) rfl inX5 (by decide) wd117 rfl (zfv_r rfl (okX5_g0 _ hk_x1)) ?_
  obtain ⟨q1, hq1, hF⟩ := bind_some hF
  refine mw_callV (c := (x0 + 1)) [rfv (xd (zX Z)) (x1 + 1)] [] C dX5_copy_8 (T_X1_copy (zl Z) (zX Z) (x0 + 1) (x1 + 1) (okX5_f0 _ hk_x0) (okX5_f0 _ hk_x1) _ _ hq1) rfl (okX1_n _ (okX5_f0 _ hk_x0)) (okX1_k _ (okX5_f0 _ hk_x0)) (by decide) rfl wd488 wd489 wd490 wd5 wd491 hd_X1_copy rfl (by decide) (by decide) (Nat.le_of_ble_eq_true rfl) ⟨Nat.zero_le _, Nat.zero_le _⟩ ?_
  refine mw_aload_n 1 C dX5_copy_11 rfl rfl ?_
  refine mw_get (k := 1) (T := TX5) (v := rfv (xd (zX Z)) (x1 + 12)) C dX5_copy_12 (okX5_n _ hk_x1) (okX5_k _ hk_x1) (by decide) rfl inX5 (by decide) wd122 rfl (zfv_r rfl (okX5_g1 _ hk_x1)) ?_
  refine mw_iconst C dX5_copy_15 ?_
  refine mw_aload_n 0 C dX5_copy_16 rfl rfl ?_
  refine mw_get (k := 1) (T := TX5) (v := rfv (xd (zX Z)) (x0 + 12)) C dX5_copy_17 (okX5_n _ hk_x0) (okX5_k _ hk_x0) (by decide) rfl inX5 (by decide) wd122 rfl (zfv_r rfl (okX5_g1 _ hk_x0)) ?_
  refine mw_iconst C dX5_copy_20 ?_
  refine mw_bipush C dX5_copy_21 bp_6 ?_
  obtain ⟨h2, eh2, hF⟩ := nx_some hF
  refine mw_copyL C dX5_copy_23 wd493 wd323 wd15 wd324 (by decide) (Nat.le_of_ble_eq_true rfl) (okX5_f1 _ hk_x1).2.1 (okX5_f1 _ hk_x0).2.1 (okX5_f1 _ hk_x1).1 (okX5_f1 _ hk_x0).1 (okX5_f1 _ hk_x1).2.2 (okX5_f1 _ hk_x0).2.2 (by decide) (mw_h eh2 ?_)
  refine mw_aload_n 1 C dX5_copy_26 rfl rfl ?_
  refine mw_get (k := 2) (T := TX5) (v := rfv (xd (zX Z)) (x1 + 13)) C dX5_copy_27 (okX5_n _ hk_x1) (okX5_k _ hk_x1) (by decide) rfl inX5 (by decide) wd124 rfl (zfv_r rfl (okX5_g2 _ hk_x1)) ?_
  refine mw_iconst C dX5_copy_30 ?_
  refine mw_aload_n 0 C dX5_copy_31 rfl rfl ?_
  refine mw_get (k := 2) (T := TX5) (v := rfv (xd (zX Z)) (x0 + 13)) C dX5_copy_32 (okX5_n _ hk_x0) (okX5_k _ hk_x0) (by decide) rfl inX5 (by decide) wd124 rfl (zfv_r rfl (okX5_g2 _ hk_x0)) ?_
  refine mw_iconst C dX5_copy_35 ?_
  refine mw_bipush C dX5_copy_36 bp_6 ?_
  obtain ⟨h3, eh3, hF⟩ := nx_some hF
  refine mw_copyI C dX5_copy_38 wd493 wd323 wd15 wd324 (by decide) (Nat.le_of_ble_eq_true rfl) (okX5_f2 _ hk_x1).2.1 (okX5_f2 _ hk_x0).2.1 (okX5_f2 _ hk_x1).1 (okX5_f2 _ hk_x0).1 (okX5_f2 _ hk_x1).2.2 (okX5_f2 _ hk_x0).2.2 (by decide) (mw_h eh3 ?_)
  refine mw_aload_n 1 C dX5_copy_41 rfl rfl ?_
  refine mw_get (k := 3) (T := TX5) (v := rfv (xd (zX Z)) (x1 + 14)) C dX5_copy_42 (okX5_n _ hk_x1) (okX5_k _ hk_x1) (by decide) rfl inX5 (by decide) wd128 rfl (zfv_r rfl (okX5_g3 _ hk_x1)) ?_
  refine mw_iconst C dX5_copy_45 ?_
  refine mw_aload_n 0 C dX5_copy_46 rfl rfl ?_
  refine mw_get (k := 3) (T := TX5) (v := rfv (xd (zX Z)) (x0 + 14)) C dX5_copy_47 (okX5_n _ hk_x0) (okX5_k _ hk_x0) (by decide) rfl inX5 (by decide) wd128 rfl (zfv_r rfl (okX5_g3 _ hk_x0)) ?_
  refine mw_iconst C dX5_copy_50 ?_
  refine mw_bipush C dX5_copy_51 bp_49 ?_
  obtain ⟨h4, eh4, hF⟩ := nx_some hF
  refine mw_copyI C dX5_copy_53 wd493 wd323 wd15 wd324 (by decide) (Nat.le_of_ble_eq_true rfl) (okX5_f3 _ hk_x1).2.1 (okX5_f3 _ hk_x0).2.1 (okX5_f3 _ hk_x1).1 (okX5_f3 _ hk_x0).1 (okX5_f3 _ hk_x1).2.2 (okX5_f3 _ hk_x0).2.2 (by decide) (mw_h eh4 ?_)
  refine mw_aload_n 0 C dX5_copy_56 rfl rfl ?_
  refine mw_aload_n 1 C dX5_copy_57 rfl rfl ?_
  refine mw_get (k := 4) (T := TX5) (v := iv (h4 x1 4)) C dX5_copy_58 (okX5_n _ hk_x1) (okX5_k _ hk_x1) (by decide) rfl inX5 (by decide) wd130 rfl rfl ?_
  obtain ⟨h5, eh5, hF⟩ := nx_some hF
  refine mw_put (k := 4) (T := TX5) (ty0 := tyX5) (x := (h4 x1 4)) C dX5_copy_61 (okX5_n _ hk_x0) (okX5_k _ hk_x0) (by decide) rfl inX5 tyX5_ok nmX5 (by decide) wd130 rfl rfl rfl rfl rfl (by decide) (mw_h eh5 ?_)
  cases hF
  exact mw_vret C dX5_copy_64 rfl rfl
def F_X5_copy (x0 : Nat) (x1 : Nat) (h : MH) : Option MH := F_X5_copy_0 x0 x1 h
theorem T_X5_copy (l : Launch) (X : XT) (x0 : Nat) (x1 : Nat) (hk_x0 : okX5 x0) (hk_x1 : okX5 x1) (h : MH) (t : MH) (hF : F_X5_copy x0 x1 h = some t) : Ct l X yX5_copy cX5_copy 2 none 2 [rfv (xd X) x0, rfv (xd X) x1] zN zG h none zN zG t 0 0 := by
  refine Ct.head (by decide) (Nat.le_of_ble_eq_true rfl) (fun Z hX hl _ _ _ C => ?_)
  subst hX
  subst hl
  exact (T_X5_copy_0 C x0 x1 hk_x0 hk_x1 _ _ hF)
/-! BottleLine$Plan.washMinutes(II)I -/
def F_X5_washMinutes_0 (x0 : Nat) (x1 : Int) (x2 : Int) (h : MH) : Option (Int × MH) :=
  (F_X5_washTold x0 x1 x2 h).bind fun q1 =>
  ck (in32 q1.1) <|
  if q1.1 = 0 then
    some (10, q1.2)
  else
    ck (0 ≤ ((x1 * 7) + x2) ∧ ((x1 * 7) + x2) < 49) <|
    some ((q1.2 (x0 + 14) ((x1 * 7) + x2).toNat), q1.2)
set_option maxRecDepth 100000 in
theorem T_X5_washMinutes_0 {Z : ZT} (C : Cx Z cX5_washMinutes 3 RX5 2 (some .int)) (x0 : Nat) (x1 : Int) (x2 : Int) (hk_x0 : okX5 x0) (h : MH) (t : (Int × MH)) (hF : F_X5_washMinutes_0 x0 x1 x2 h = some t) : MW Z (Qm Z (some (iv t.1)) zN zG t.2 0 0) 3 zN zG h 0 0 0 [(0, rfv (xd (zX Z)) x0), (1, iv x1), (2, iv x2)] [] := by
  unfold F_X5_washMinutes_0 at hF
  refine mw_aload_n 0 C dX5_washMinutes_0 rfl rfl ?_
  refine mw_iload_n 1 C dX5_washMinutes_1 rfl rfl ?_
  refine mw_iload_n 2 C dX5_washMinutes_2 rfl rfl ?_
  obtain ⟨q1, hq1, hF⟩ := bind_some hF
  refine mw_callV (c := x0) [iv x1, iv x2] [] C dX5_washMinutes_3 (T_X5_washTold (zl Z) (zX Z) x0 x1 x2 hk_x0 _ _ hq1) rfl (okX5_n _ hk_x0) (okX5_k _ hk_x0) (by decide) rfl wd584 wd481 wd482 wd4 wd483 hd_X5_washTold rfl (by decide) (by decide) (Nat.le_of_ble_eq_true rfl) ⟨Nat.zero_le _, Nat.zero_le _⟩ ?_
  obtain ⟨g2, hF⟩ := ck_some hF
  rcases ite_some hF with ⟨c3, hF⟩ | ⟨c3, hF⟩
  · refine mw_if_eq_t (tgt := 23) C dX5_washMinutes_6 (by decide) g2 c3 ?_
    refine mw_bipush C dX5_washMinutes_23 bp_10 ?_
    cases hF
    exact mw_iret C dX5_washMinutes_25 rfl rfl
  · refine mw_if_eq_f (tgt := 23) C dX5_washMinutes_6 (by decide) g2 c3 ?_
    refine mw_aload_n 0 C dX5_washMinutes_9 rfl rfl ?_
    refine mw_get (k := 3) (T := TX5) (v := rfv (xd (zX Z)) (x0 + 14)) C dX5_washMinutes_10 (okX5_n _ hk_x0) (okX5_k _ hk_x0) (by decide) rfl inX5 (by decide) wd128 rfl (zfv_r rfl (okX5_g3 _ hk_x0)) ?_
    refine mw_iload_n 1 C dX5_washMinutes_13 rfl rfl ?_
    refine mw_bipush C dX5_washMinutes_14 bp_7 ?_
    refine mw_imul C dX5_washMinutes_16 ?_
    refine mw_iload_n 2 C dX5_washMinutes_17 rfl rfl ?_
    refine mw_iadd C dX5_washMinutes_18 ?_
    obtain ⟨g4, hF⟩ := ck_some hF
    refine mw_iald C dX5_washMinutes_19 (okX5_f3 _ hk_x0).2.1 (okX5_f3 _ hk_x0).1 (okX5_f3 _ hk_x0).2.2 g4 ?_
    refine mw_goto (tgt := 25) C dX5_washMinutes_20 (by decide) ?_
    cases hF
    exact mw_iret C dX5_washMinutes_25 rfl rfl
def F_X5_washMinutes (x0 : Nat) (x1 : Int) (x2 : Int) (h : MH) : Option (Int × MH) := F_X5_washMinutes_0 x0 x1 x2 h
theorem T_X5_washMinutes (l : Launch) (X : XT) (x0 : Nat) (x1 : Int) (x2 : Int) (hk_x0 : okX5 x0) (h : MH) (t : (Int × MH)) (hF : F_X5_washMinutes x0 x1 x2 h = some t) : Ct l X yX5_washMinutes cX5_washMinutes 3 (some .int) 2 [rfv (xd X) x0, iv x1, iv x2] zN zG h (some (iv t.1)) zN zG t.2 0 0 := by
  refine Ct.head (by decide) (Nat.le_of_ble_eq_true rfl) (fun Z hX hl _ _ _ C => ?_)
  subst hX
  subst hl
  exact (T_X5_washMinutes_0 C x0 x1 x2 hk_x0 _ _ hF)
/-! BottleLine$ShiftReader.takeEnd()Z -/
def F_X7_takeEnd_0 (h : MH) : Option (Int × MH) :=
  ck (in32 (h 27 3)) <|
  if (h 27 3) ≠ 0 then
    nx (hup h 27 3 ((h 27 3) - 1)) fun h3 =>
    ck (0 ≤ (h3 27 3) ∧ (h3 27 3) < 3) <|
    ck (0 ≤ (h3 33 (h3 27 3).toNat) ∧ (h3 33 (h3 27 3).toNat) < 30) <|
    nx (hup h3 32 (h3 33 (h3 27 3).toNat).toNat (h3 28 0)) fun h6 =>
    (F_X8_advance h6).bind fun q7 =>
    (F_X8_takeSign q7).bind fun q8 =>
    ck (q8.1 = 0 ∨ q8.1 = 1) <|
    some (q8.1, q8.2)
  else
    (F_X8_misplaced h).bind fun q10 =>
    ck (q10.1 = 0 ∨ q10.1 = 1) <|
    some (q10.1, q10.2)
set_option maxRecDepth 100000 in
theorem T_X7_takeEnd_0 {Z : ZT} (C : Cx Z cX7_takeEnd 1 RX7 4 (some .boolean)) (h : MH) (t : (Int × MH)) (hF : F_X7_takeEnd_0 h = some t) : MW Z (Qm Z (some (iv t.1)) zN zG t.2 0 0) 1 zN zG h 0 0 0 [(0, rfv (xd (zX Z)) 27)] [] := by
  unfold F_X7_takeEnd_0 at hF
  refine mw_aload_n 0 C dX7_takeEnd_0 rfl rfl ?_
  refine mw_get (k := 3) (T := TX7) (v := iv (h 27 3)) C dX7_takeEnd_1 zn27 zk27 (by decide) rfl inX7 (by decide) wd172 rfl rfl ?_
  obtain ⟨g1, hF⟩ := ck_some hF
  rcases ite_some hF with ⟨c2, hF⟩ | ⟨c2, hF⟩
  · refine mw_if_ne_t (tgt := 15) C dX7_takeEnd_4 (by decide) g1 c2 ?_
    refine mw_aload_n 0 C dX7_takeEnd_15 rfl rfl ?_
    refine mw_dup C dX7_takeEnd_16 rfl ?_
    refine mw_get (k := 3) (T := TX7) (v := iv (h 27 3)) C dX7_takeEnd_17 zn27 zk27 (by decide) rfl inX7 (by decide) wd172 rfl rfl ?_
    refine mw_iconst C dX7_takeEnd_20 ?_
    refine mw_isub C dX7_takeEnd_21 ?_
    obtain ⟨h3, eh3, hF⟩ := nx_some hF
    refine mw_put (k := 3) (T := TX7) (ty0 := tyX7) (x := ((h 27 3) - 1)) C dX7_takeEnd_22 zn27 zk27 (by decide) rfl inX7 tyX7_ok nmX7 (by decide) wd172 rfl rfl rfl rfl rfl (by decide) (mw_h eh3 ?_)
    refine mw_aload_n 0 C dX7_takeEnd_25 rfl rfl ?_
    refine mw_get (k := 1) (T := TX7) (v := rfv (xd (zX Z)) 28) C dX7_takeEnd_26 zn27 zk27 (by decide) rfl inX7 (by decide) wd169 rfl (zfv_r rfl zg_27_1) ?_
    refine mw_get (k := 4) (T := TX6) (v := rfv (xd (zX Z)) 32) C dX7_takeEnd_29 zn28 zk28 (by decide) rfl inX6 (by decide) wd166 rfl (zfv_r rfl zg_28_4) ?_
    refine mw_aload_n 0 C dX7_takeEnd_32 rfl rfl ?_
    refine mw_get (k := 2) (T := TX7) (v := rfv (xd (zX Z)) 33) C dX7_takeEnd_33 zn27 zk27 (by decide) rfl inX7 (by decide) wd171 rfl (zfv_r rfl zg_27_2) ?_
    refine mw_aload_n 0 C dX7_takeEnd_36 rfl rfl ?_
    refine mw_get (k := 3) (T := TX7) (v := iv (h3 27 3)) C dX7_takeEnd_37 zn27 zk27 (by decide) rfl inX7 (by decide) wd172 rfl rfl ?_
    obtain ⟨g4, hF⟩ := ck_some hF
    refine mw_iald C dX7_takeEnd_40 zn33 zk33 (by decide) g4 ?_
    refine mw_aload_n 0 C dX7_takeEnd_41 rfl rfl ?_
    refine mw_get (k := 1) (T := TX7) (v := rfv (xd (zX Z)) 28) C dX7_takeEnd_42 zn27 zk27 (by decide) rfl inX7 (by decide) wd169 rfl (zfv_r rfl zg_27_1) ?_
    refine mw_get (k := 0) (T := TX6) (v := iv (h3 28 0)) C dX7_takeEnd_45 zn28 zk28 (by decide) rfl inX6 (by decide) wd153 rfl rfl ?_
    obtain ⟨g5, hF⟩ := ck_some hF
    obtain ⟨h6, eh6, hF⟩ := nx_some hF
    refine mw_iast C dX7_takeEnd_48 zn32 zk32 (by decide) g5 (mw_h eh6 ?_)
    refine mw_aload_n 0 C dX7_takeEnd_49 rfl rfl ?_
    refine mw_get (k := 0) (T := TX7) (v := rfv (xd (zX Z)) 8) C dX7_takeEnd_50 zn27 zk27 (by decide) rfl inX7 (by decide) wd168 rfl (zfv_r rfl zg_27_0) ?_
    obtain ⟨q7, hq7, hF⟩ := bind_some hF
    refine mw_callV (c := 8) [] [] C dX7_takeEnd_53 (T_X8_advance (zl Z) (zX Z) _ _ hq7) rfl zn8 zk8 (by decide) rfl wd512 wd359 wd360 wd2 wd361 hd_X8_advance rfl (by decide) (by decide) (Nat.le_of_ble_eq_true rfl) ⟨Nat.zero_le _, Nat.zero_le _⟩ ?_
    refine mw_aload_n 0 C dX7_takeEnd_56 rfl rfl ?_
    refine mw_get (k := 0) (T := TX7) (v := rfv (xd (zX Z)) 8) C dX7_takeEnd_57 zn27 zk27 (by decide) rfl inX7 (by decide) wd168 rfl (zfv_r rfl zg_27_0) ?_
    obtain ⟨q8, hq8, hF⟩ := bind_some hF
    refine mw_callV (c := 8) [] [] C dX7_takeEnd_60 (T_X8_takeSign (zl Z) (zX Z) _ _ hq8) rfl zn8 zk8 (by decide) rfl wd513 wd462 wd463 wd2 wd464 hd_X8_takeSign rfl (by decide) (by decide) (Nat.le_of_ble_eq_true rfl) ⟨Nat.zero_le _, Nat.zero_le _⟩ ?_
    obtain ⟨g9, hF⟩ := ck_some hF
    cases hF
    exact mw_zret C dX7_takeEnd_63 g9 rfl rfl
  · refine mw_if_ne_f (tgt := 15) C dX7_takeEnd_4 (by decide) g1 c2 ?_
    refine mw_aload_n 0 C dX7_takeEnd_7 rfl rfl ?_
    refine mw_get (k := 0) (T := TX7) (v := rfv (xd (zX Z)) 8) C dX7_takeEnd_8 zn27 zk27 (by decide) rfl inX7 (by decide) wd168 rfl (zfv_r rfl zg_27_0) ?_
    obtain ⟨q10, hq10, hF⟩ := bind_some hF
    refine mw_callV (c := 8) [] [] C dX7_takeEnd_11 (T_X8_misplaced (zl Z) (zX Z) _ _ hq10) rfl zn8 zk8 (by decide) rfl wd507 wd434 wd435 wd2 wd436 hd_X8_misplaced rfl (by decide) (by decide) (Nat.le_of_ble_eq_true rfl) ⟨Nat.zero_le _, Nat.zero_le _⟩ ?_
    obtain ⟨g11, hF⟩ := ck_some hF
    cases hF
    exact mw_zret C dX7_takeEnd_14 g11 rfl rfl
def F_X7_takeEnd (h : MH) : Option (Int × MH) := F_X7_takeEnd_0 h
theorem T_X7_takeEnd (l : Launch) (X : XT) (h : MH) (t : (Int × MH)) (hF : F_X7_takeEnd h = some t) : Ct l X yX7_takeEnd cX7_takeEnd 1 (some .boolean) 4 [rfv (xd X) 27] zN zG h (some (iv t.1)) zN zG t.2 0 0 := by
  refine Ct.head (by decide) (Nat.le_of_ble_eq_true rfl) (fun Z hX hl _ _ _ C => ?_)
  subst hX
  subst hl
  exact (T_X7_takeEnd_0 C _ _ hF)
/-! BottleLine$ShiftReader.kindHere()I -/
def F_X7_kindHere_0 (h : MH) : Option (Int × MH) :=
  (F_X8_is 9 h).bind fun q1 =>
  ck (in32 q1.1) <|
  if q1.1 = 0 then
    (F_X8_is 10 q1.2).bind fun q4 =>
    ck (in32 q4.1) <|
    if q4.1 = 0 then
      (F_X8_is 11 q4.2).bind fun q7 =>
      ck (in32 q7.1) <|
      if q7.1 = 0 then
        (F_X8_is 12 q7.2).bind fun q10 =>
        ck (in32 q10.1) <|
        if q10.1 = 0 then
          (F_X8_is 13 q10.2).bind fun q13 =>
          ck (in32 q13.1) <|
          if q13.1 = 0 then
            (F_X8_is 14 q13.2).bind fun q16 =>
            ck (in32 q16.1) <|
            if q16.1 = 0 then
              some ((-1), q16.2)
            else
              some (5, q16.2)
          else
            some (4, q13.2)
        else
          some (3, q10.2)
      else
        some (2, q7.2)
    else
      some (1, q4.2)
  else
    some (0, q1.2)
set_option maxRecDepth 100000 in
theorem T_X7_kindHere_0 {Z : ZT} (C : Cx Z cX7_kindHere 1 RX7 7 (some .int)) (h : MH) (t : (Int × MH)) (hF : F_X7_kindHere_0 h = some t) : MW Z (Qm Z (some (iv t.1)) zN zG t.2 0 0) 1 zN zG h 0 0 0 [(0, rfv (xd (zX Z)) 27)] [] := by
  unfold F_X7_kindHere_0 at hF
  refine mw_aload_n 0 C dX7_kindHere_0 rfl rfl ?_
  refine mw_get (k := 0) (T := TX7) (v := rfv (xd (zX Z)) 8) C dX7_kindHere_1 zn27 zk27 (by decide) rfl inX7 (by decide) wd168 rfl (zfv_r rfl zg_27_0) ?_
  refine mw_ldcS 9 (by decide) rfl rfl C dX7_kindHere_4 ?_
  obtain ⟨q1, hq1, hF⟩ := bind_some hF
  refine mw_callV (c := 8) [.ref (xa (zX Z) 9)] [] C dX7_kindHere_6 (T_X8_is (zl Z) (zX Z) 9 (by decide) _ _ hq1) rfl zn8 zk8 (by decide) rfl wd508 wd372 wd373 wd2 wd374 hd_X8_is rfl (by decide) (by decide) (Nat.le_of_ble_eq_true rfl) ⟨Nat.zero_le _, Nat.zero_le _⟩ ?_
  obtain ⟨g2, hF⟩ := ck_some hF
  rcases ite_some hF with ⟨c3, hF⟩ | ⟨c3, hF⟩
  · refine mw_if_eq_t (tgt := 14) C dX7_kindHere_9 (by decide) g2 c3 ?_
    refine mw_aload_n 0 C dX7_kindHere_14 rfl rfl ?_
    refine mw_get (k := 0) (T := TX7) (v := rfv (xd (zX Z)) 8) C dX7_kindHere_15 zn27 zk27 (by decide) rfl inX7 (by decide) wd168 rfl (zfv_r rfl zg_27_0) ?_
    refine mw_ldcS 10 (by decide) rfl rfl C dX7_kindHere_18 ?_
    obtain ⟨q4, hq4, hF⟩ := bind_some hF
    refine mw_callV (c := 8) [.ref (xa (zX Z) 10)] [] C dX7_kindHere_20 (T_X8_is (zl Z) (zX Z) 10 (by decide) _ _ hq4) rfl zn8 zk8 (by decide) rfl wd508 wd372 wd373 wd2 wd374 hd_X8_is rfl (by decide) (by decide) (Nat.le_of_ble_eq_true rfl) ⟨Nat.zero_le _, Nat.zero_le _⟩ ?_
    obtain ⟨g5, hF⟩ := ck_some hF
    rcases ite_some hF with ⟨c6, hF⟩ | ⟨c6, hF⟩
    · refine mw_if_eq_t (tgt := 28) C dX7_kindHere_23 (by decide) g5 c6 ?_
      refine mw_aload_n 0 C dX7_kindHere_28 rfl rfl ?_
      refine mw_get (k := 0) (T := TX7) (v := rfv (xd (zX Z)) 8) C dX7_kindHere_29 zn27 zk27 (by decide) rfl inX7 (by decide) wd168 rfl (zfv_r rfl zg_27_0) ?_
      refine mw_ldcS 11 (by decide) rfl rfl C dX7_kindHere_32 ?_
      obtain ⟨q7, hq7, hF⟩ := bind_some hF
      refine mw_callV (c := 8) [.ref (xa (zX Z) 11)] [] C dX7_kindHere_34 (T_X8_is (zl Z) (zX Z) 11 (by decide) _ _ hq7) rfl zn8 zk8 (by decide) rfl wd508 wd372 wd373 wd2 wd374 hd_X8_is rfl (by decide) (by decide) (Nat.le_of_ble_eq_true rfl) ⟨Nat.zero_le _, Nat.zero_le _⟩ ?_
      obtain ⟨g8, hF⟩ := ck_some hF
      rcases ite_some hF with ⟨c9, hF⟩ | ⟨c9, hF⟩
      · refine mw_if_eq_t (tgt := 42) C dX7_kindHere_37 (by decide) g8 c9 ?_
        refine mw_aload_n 0 C dX7_kindHere_42 rfl rfl ?_
        refine mw_get (k := 0) (T := TX7) (v := rfv (xd (zX Z)) 8) C dX7_kindHere_43 zn27 zk27 (by decide) rfl inX7 (by decide) wd168 rfl (zfv_r rfl zg_27_0) ?_
        refine mw_ldcS 12 (by decide) rfl rfl C dX7_kindHere_46 ?_
        obtain ⟨q10, hq10, hF⟩ := bind_some hF
        refine mw_callV (c := 8) [.ref (xa (zX Z) 12)] [] C dX7_kindHere_48 (T_X8_is (zl Z) (zX Z) 12 (by decide) _ _ hq10) rfl zn8 zk8 (by decide) rfl wd508 wd372 wd373 wd2 wd374 hd_X8_is rfl (by decide) (by decide) (Nat.le_of_ble_eq_true rfl) ⟨Nat.zero_le _, Nat.zero_le _⟩ ?_
        obtain ⟨g11, hF⟩ := ck_some hF
        rcases ite_some hF with ⟨c12, hF⟩ | ⟨c12, hF⟩
        · refine mw_if_eq_t (tgt := 56) C dX7_kindHere_51 (by decide) g11 c12 ?_
          refine mw_aload_n 0 C dX7_kindHere_56 rfl rfl ?_
          refine mw_get (k := 0) (T := TX7) (v := rfv (xd (zX Z)) 8) C dX7_kindHere_57 zn27 zk27 (by decide) rfl inX7 (by decide) wd168 rfl (zfv_r rfl zg_27_0) ?_
          refine mw_ldcS 13 (by decide) rfl rfl C dX7_kindHere_60 ?_
          obtain ⟨q13, hq13, hF⟩ := bind_some hF
          refine mw_callV (c := 8) [.ref (xa (zX Z) 13)] [] C dX7_kindHere_62 (T_X8_is (zl Z) (zX Z) 13 (by decide) _ _ hq13) rfl zn8 zk8 (by decide) rfl wd508 wd372 wd373 wd2 wd374 hd_X8_is rfl (by decide) (by decide) (Nat.le_of_ble_eq_true rfl) ⟨Nat.zero_le _, Nat.zero_le _⟩ ?_
          obtain ⟨g14, hF⟩ := ck_some hF
          rcases ite_some hF with ⟨c15, hF⟩ | ⟨c15, hF⟩
          · refine mw_if_eq_t (tgt := 70) C dX7_kindHere_65 (by decide) g14 c15 ?_
            refine mw_aload_n 0 C dX7_kindHere_70 rfl rfl ?_
            refine mw_get (k := 0) (T := TX7) (v := rfv (xd (zX Z)) 8) C dX7_kindHere_71 zn27 zk27 (by decide) rfl inX7 (by decide) wd168 rfl (zfv_r rfl zg_27_0) ?_
            refine mw_ldcS 14 (by decide) rfl rfl C dX7_kindHere_74 ?_
            obtain ⟨q16, hq16, hF⟩ := bind_some hF
            refine mw_callV (c := 8) [.ref (xa (zX Z) 14)] [] C dX7_kindHere_76 (T_X8_is (zl Z) (zX Z) 14 (by decide) _ _ hq16) rfl zn8 zk8 (by decide) rfl wd508 wd372 wd373 wd2 wd374 hd_X8_is rfl (by decide) (by decide) (Nat.le_of_ble_eq_true rfl) ⟨Nat.zero_le _, Nat.zero_le _⟩ ?_
            obtain ⟨g17, hF⟩ := ck_some hF
            rcases ite_some hF with ⟨c18, hF⟩ | ⟨c18, hF⟩
            · refine mw_if_eq_t (tgt := 86) C dX7_kindHere_79 (by decide) g17 c18 ?_
              refine mw_iconst C dX7_kindHere_86 ?_
              cases hF
              exact mw_iret C dX7_kindHere_87 rfl rfl
            · refine mw_if_eq_f (tgt := 86) C dX7_kindHere_79 (by decide) g17 c18 ?_
              refine mw_iconst C dX7_kindHere_82 ?_
              refine mw_goto (tgt := 87) C dX7_kindHere_83 (by decide) ?_
              cases hF
              exact mw_iret C dX7_kindHere_87 rfl rfl
          · refine mw_if_eq_f (tgt := 70) C dX7_kindHere_65 (by decide) g14 c15 ?_
            refine mw_iconst C dX7_kindHere_68 ?_
            cases hF
            exact mw_iret C dX7_kindHere_69 rfl rfl
        · refine mw_if_eq_f (tgt := 56) C dX7_kindHere_51 (by decide) g11 c12 ?_
          refine mw_iconst C dX7_kindHere_54 ?_
          cases hF
          exact mw_iret C dX7_kindHere_55 rfl rfl
      · refine mw_if_eq_f (tgt := 42) C dX7_kindHere_37 (by decide) g8 c9 ?_
        refine mw_iconst C dX7_kindHere_40 ?_
        cases hF
        exact mw_iret C dX7_kindHere_41 rfl rfl
    · refine mw_if_eq_f (tgt := 28) C dX7_kindHere_23 (by decide) g5 c6 ?_
      refine mw_iconst C dX7_kindHere_26 ?_
      cases hF
      exact mw_iret C dX7_kindHere_27 rfl rfl
  · refine mw_if_eq_f (tgt := 14) C dX7_kindHere_9 (by decide) g2 c3 ?_
    refine mw_iconst C dX7_kindHere_12 ?_
    cases hF
    exact mw_iret C dX7_kindHere_13 rfl rfl
def F_X7_kindHere (h : MH) : Option (Int × MH) := F_X7_kindHere_0 h
theorem T_X7_kindHere (l : Launch) (X : XT) (h : MH) (t : (Int × MH)) (hF : F_X7_kindHere h = some t) : Ct l X yX7_kindHere cX7_kindHere 1 (some .int) 7 [rfv (xd X) 27] zN zG h (some (iv t.1)) zN zG t.2 0 0 := by
  refine Ct.head (by decide) (Nat.le_of_ble_eq_true rfl) (fun Z hX hl _ _ _ C => ?_)
  subst hX
  subst hl
  exact (T_X7_kindHere_0 C _ _ hF)
/-! BottleLine$ShiftReader.takeAmount(III)Z -/
def F_X7_takeAmount_0 (x1 : Int) (x2 : Int) (x3 : Int) (h : MH) : Option (Int × MH) :=
  (F_X8_takeNumber x2 x3 h).bind fun q1 =>
  ck (in32 q1.1) <|
  if q1.1 ≠ 0 then
    ck (0 ≤ x1 ∧ x1 < 30) <|
    nx (hup q1.2 31 x1.toNat (q1.2 8 8)) fun h5 =>
    some (1, h5)
  else
    some (0, q1.2)
set_option maxRecDepth 100000 in
theorem T_X7_takeAmount_0 {Z : ZT} (C : Cx Z cX7_takeAmount 4 RX7 4 (some .boolean)) (x1 : Int) (x2 : Int) (x3 : Int) (h : MH) (t : (Int × MH)) (hF : F_X7_takeAmount_0 x1 x2 x3 h = some t) : MW Z (Qm Z (some (iv t.1)) zN zG t.2 0 0) 4 zN zG h 0 0 0 [(0, rfv (xd (zX Z)) 27), (1, iv x1), (2, iv x2), (3, iv x3)] [] := by
  unfold F_X7_takeAmount_0 at hF
  refine mw_aload_n 0 C dX7_takeAmount_0 rfl rfl ?_
  refine mw_get (k := 0) (T := TX7) (v := rfv (xd (zX Z)) 8) C dX7_takeAmount_1 zn27 zk27 (by decide) rfl inX7 (by decide) wd168 rfl (zfv_r rfl zg_27_0) ?_
  refine mw_iload_n 2 C dX7_takeAmount_4 rfl rfl ?_
  refine mw_iload_n 3 C dX7_takeAmount_5 rfl rfl ?_
  obtain ⟨q1, hq1, hF⟩ := bind_some hF
  refine mw_callV (c := 8) [iv x2, iv x3] [] C dX7_takeAmount_6 (T_X8_takeNumber (zl Z) (zX Z) x2 x3 _ _ hq1) rfl zn8 zk8 (by decide) rfl wd527 wd452 wd453 wd2 wd454 hd_X8_takeNumber rfl (by decide) (by decide) (Nat.le_of_ble_eq_true rfl) ⟨Nat.zero_le _, Nat.zero_le _⟩ ?_
  obtain ⟨g2, hF⟩ := ck_some hF
  rcases ite_some hF with ⟨c3, hF⟩ | ⟨c3, hF⟩
  · refine mw_if_ne_t (tgt := 14) C dX7_takeAmount_9 (by decide) g2 c3 ?_
    refine mw_aload_n 0 C dX7_takeAmount_14 rfl rfl ?_
    refine mw_get (k := 1) (T := TX7) (v := rfv (xd (zX Z)) 28) C dX7_takeAmount_15 zn27 zk27 (by decide) rfl inX7 (by decide) wd169 rfl (zfv_r rfl zg_27_1) ?_
    refine mw_get (k := 3) (T := TX6) (v := rfv (xd (zX Z)) 31) C dX7_takeAmount_18 zn28 zk28 (by decide) rfl inX6 (by decide) wd164 rfl (zfv_r rfl zg_28_3) ?_
    refine mw_iload_n 1 C dX7_takeAmount_21 rfl rfl ?_
    refine mw_aload_n 0 C dX7_takeAmount_22 rfl rfl ?_
    refine mw_get (k := 0) (T := TX7) (v := rfv (xd (zX Z)) 8) C dX7_takeAmount_23 zn27 zk27 (by decide) rfl inX7 (by decide) wd168 rfl (zfv_r rfl zg_27_0) ?_
    refine mw_get (k := 8) (T := TX8) (v := iv (q1.2 8 8)) C dX7_takeAmount_26 zn8 zk8 (by decide) rfl inX8 (by decide) wd52 rfl rfl ?_
    obtain ⟨g4, hF⟩ := ck_some hF
    obtain ⟨h5, eh5, hF⟩ := nx_some hF
    refine mw_iast C dX7_takeAmount_29 zn31 zk31 (by decide) g4 (mw_h eh5 ?_)
    refine mw_iconst C dX7_takeAmount_30 ?_
    cases hF
    exact mw_zret C dX7_takeAmount_31 (Or.inr rfl) rfl rfl
  · refine mw_if_ne_f (tgt := 14) C dX7_takeAmount_9 (by decide) g2 c3 ?_
    refine mw_iconst C dX7_takeAmount_12 ?_
    cases hF
    exact mw_zret C dX7_takeAmount_13 (Or.inl rfl) rfl rfl
def F_X7_takeAmount (x1 : Int) (x2 : Int) (x3 : Int) (h : MH) : Option (Int × MH) := F_X7_takeAmount_0 x1 x2 x3 h
theorem T_X7_takeAmount (l : Launch) (X : XT) (x1 : Int) (x2 : Int) (x3 : Int) (h : MH) (t : (Int × MH)) (hF : F_X7_takeAmount x1 x2 x3 h = some t) : Ct l X yX7_takeAmount cX7_takeAmount 4 (some .boolean) 4 [rfv (xd X) 27, iv x1, iv x2, iv x3] zN zG h (some (iv t.1)) zN zG t.2 0 0 := by
  refine Ct.head (by decide) (Nat.le_of_ble_eq_true rfl) (fun Z hX hl _ _ _ C => ?_)
  subst hX
  subst hl
  exact (T_X7_takeAmount_0 C x1 x2 x3 _ _ hF)
/-! BottleLine$ShiftReader.stateHere()I -/
def F_X7_stateHere_0 (h : MH) : Option (Int × MH) :=
  (F_X8_is 15 h).bind fun q1 =>
  ck (in32 q1.1) <|
  if q1.1 = 0 then
    (F_X8_is 16 q1.2).bind fun q4 =>
    ck (in32 q4.1) <|
    if q4.1 = 0 then
      (F_X8_is 17 q4.2).bind fun q7 =>
      ck (in32 q7.1) <|
      if q7.1 = 0 then
        (F_X8_is 18 q7.2).bind fun q10 =>
        ck (in32 q10.1) <|
        if q10.1 = 0 then
          some ((-1), q10.2)
        else
          some (3, q10.2)
      else
        some (2, q7.2)
    else
      some (1, q4.2)
  else
    some (0, q1.2)
set_option maxRecDepth 100000 in
theorem T_X7_stateHere_0 {Z : ZT} (C : Cx Z cX7_stateHere 1 RX7 7 (some .int)) (h : MH) (t : (Int × MH)) (hF : F_X7_stateHere_0 h = some t) : MW Z (Qm Z (some (iv t.1)) zN zG t.2 0 0) 1 zN zG h 0 0 0 [(0, rfv (xd (zX Z)) 27)] [] := by
  unfold F_X7_stateHere_0 at hF
  refine mw_aload_n 0 C dX7_stateHere_0 rfl rfl ?_
  refine mw_get (k := 0) (T := TX7) (v := rfv (xd (zX Z)) 8) C dX7_stateHere_1 zn27 zk27 (by decide) rfl inX7 (by decide) wd168 rfl (zfv_r rfl zg_27_0) ?_
  refine mw_ldcS 15 (by decide) rfl rfl C dX7_stateHere_4 ?_
  obtain ⟨q1, hq1, hF⟩ := bind_some hF
  refine mw_callV (c := 8) [.ref (xa (zX Z) 15)] [] C dX7_stateHere_6 (T_X8_is (zl Z) (zX Z) 15 (by decide) _ _ hq1) rfl zn8 zk8 (by decide) rfl wd508 wd372 wd373 wd2 wd374 hd_X8_is rfl (by decide) (by decide) (Nat.le_of_ble_eq_true rfl) ⟨Nat.zero_le _, Nat.zero_le _⟩ ?_
  obtain ⟨g2, hF⟩ := ck_some hF
  rcases ite_some hF with ⟨c3, hF⟩ | ⟨c3, hF⟩
  · refine mw_if_eq_t (tgt := 14) C dX7_stateHere_9 (by decide) g2 c3 ?_
    refine mw_aload_n 0 C dX7_stateHere_14 rfl rfl ?_
    refine mw_get (k := 0) (T := TX7) (v := rfv (xd (zX Z)) 8) C dX7_stateHere_15 zn27 zk27 (by decide) rfl inX7 (by decide) wd168 rfl (zfv_r rfl zg_27_0) ?_
    refine mw_ldcS 16 (by decide) rfl rfl C dX7_stateHere_18 ?_
    obtain ⟨q4, hq4, hF⟩ := bind_some hF
    refine mw_callV (c := 8) [.ref (xa (zX Z) 16)] [] C dX7_stateHere_20 (T_X8_is (zl Z) (zX Z) 16 (by decide) _ _ hq4) rfl zn8 zk8 (by decide) rfl wd508 wd372 wd373 wd2 wd374 hd_X8_is rfl (by decide) (by decide) (Nat.le_of_ble_eq_true rfl) ⟨Nat.zero_le _, Nat.zero_le _⟩ ?_
    obtain ⟨g5, hF⟩ := ck_some hF
    rcases ite_some hF with ⟨c6, hF⟩ | ⟨c6, hF⟩
    · refine mw_if_eq_t (tgt := 28) C dX7_stateHere_23 (by decide) g5 c6 ?_
      refine mw_aload_n 0 C dX7_stateHere_28 rfl rfl ?_
      refine mw_get (k := 0) (T := TX7) (v := rfv (xd (zX Z)) 8) C dX7_stateHere_29 zn27 zk27 (by decide) rfl inX7 (by decide) wd168 rfl (zfv_r rfl zg_27_0) ?_
      refine mw_ldcS 17 (by decide) rfl rfl C dX7_stateHere_32 ?_
      obtain ⟨q7, hq7, hF⟩ := bind_some hF
      refine mw_callV (c := 8) [.ref (xa (zX Z) 17)] [] C dX7_stateHere_34 (T_X8_is (zl Z) (zX Z) 17 (by decide) _ _ hq7) rfl zn8 zk8 (by decide) rfl wd508 wd372 wd373 wd2 wd374 hd_X8_is rfl (by decide) (by decide) (Nat.le_of_ble_eq_true rfl) ⟨Nat.zero_le _, Nat.zero_le _⟩ ?_
      obtain ⟨g8, hF⟩ := ck_some hF
      rcases ite_some hF with ⟨c9, hF⟩ | ⟨c9, hF⟩
      · refine mw_if_eq_t (tgt := 42) C dX7_stateHere_37 (by decide) g8 c9 ?_
        refine mw_aload_n 0 C dX7_stateHere_42 rfl rfl ?_
        refine mw_get (k := 0) (T := TX7) (v := rfv (xd (zX Z)) 8) C dX7_stateHere_43 zn27 zk27 (by decide) rfl inX7 (by decide) wd168 rfl (zfv_r rfl zg_27_0) ?_
        refine mw_ldcS 18 (by decide) rfl rfl C dX7_stateHere_46 ?_
        obtain ⟨q10, hq10, hF⟩ := bind_some hF
        refine mw_callV (c := 8) [.ref (xa (zX Z) 18)] [] C dX7_stateHere_48 (T_X8_is (zl Z) (zX Z) 18 (by decide) _ _ hq10) rfl zn8 zk8 (by decide) rfl wd508 wd372 wd373 wd2 wd374 hd_X8_is rfl (by decide) (by decide) (Nat.le_of_ble_eq_true rfl) ⟨Nat.zero_le _, Nat.zero_le _⟩ ?_
        obtain ⟨g11, hF⟩ := ck_some hF
        rcases ite_some hF with ⟨c12, hF⟩ | ⟨c12, hF⟩
        · refine mw_if_eq_t (tgt := 58) C dX7_stateHere_51 (by decide) g11 c12 ?_
          refine mw_iconst C dX7_stateHere_58 ?_
          cases hF
          exact mw_iret C dX7_stateHere_59 rfl rfl
        · refine mw_if_eq_f (tgt := 58) C dX7_stateHere_51 (by decide) g11 c12 ?_
          refine mw_iconst C dX7_stateHere_54 ?_
          refine mw_goto (tgt := 59) C dX7_stateHere_55 (by decide) ?_
          cases hF
          exact mw_iret C dX7_stateHere_59 rfl rfl
      · refine mw_if_eq_f (tgt := 42) C dX7_stateHere_37 (by decide) g8 c9 ?_
        refine mw_iconst C dX7_stateHere_40 ?_
        cases hF
        exact mw_iret C dX7_stateHere_41 rfl rfl
    · refine mw_if_eq_f (tgt := 28) C dX7_stateHere_23 (by decide) g5 c6 ?_
      refine mw_iconst C dX7_stateHere_26 ?_
      cases hF
      exact mw_iret C dX7_stateHere_27 rfl rfl
  · refine mw_if_eq_f (tgt := 14) C dX7_stateHere_9 (by decide) g2 c3 ?_
    refine mw_iconst C dX7_stateHere_12 ?_
    cases hF
    exact mw_iret C dX7_stateHere_13 rfl rfl
def F_X7_stateHere (h : MH) : Option (Int × MH) := F_X7_stateHere_0 h
theorem T_X7_stateHere (l : Launch) (X : XT) (h : MH) (t : (Int × MH)) (hF : F_X7_stateHere h = some t) : Ct l X yX7_stateHere cX7_stateHere 1 (some .int) 7 [rfv (xd X) 27] zN zG h (some (iv t.1)) zN zG t.2 0 0 := by
  refine Ct.head (by decide) (Nat.le_of_ble_eq_true rfl) (fun Z hX hl _ _ _ C => ?_)
  subst hX
  subst hl
  exact (T_X7_stateHere_0 C _ _ hF)
/-! BottleLine$ShiftReader.takeName(I)Z -/
def F_X7_takeName_38 (h : MH) : Option (Int × MH) :=
  (F_X8_misplaced h).bind fun q1 =>
  ck (q1.1 = 0 ∨ q1.1 = 1) <|
  some (q1.1, q1.2)
set_option maxRecDepth 100000 in
theorem T_X7_takeName_38 {Z : ZT} (C : Cx Z cX7_takeName 2 RX7 8 (some .boolean)) (h : MH) (t : (Int × MH)) (hF : F_X7_takeName_38 h = some t) : MW Z (Qm Z (some (iv t.1)) zN zG t.2 0 0) 2 zN zG h 0 0 38 [(0, rfv (xd (zX Z)) 27)] [] := by
  unfold F_X7_takeName_38 at hF
  refine mw_aload_n 0 C dX7_takeName_38 rfl rfl ?_
  refine mw_get (k := 0) (T := TX7) (v := rfv (xd (zX Z)) 8) C dX7_takeName_39 zn27 zk27 (by decide) rfl inX7 (by decide) wd168 rfl (zfv_r rfl zg_27_0) ?_
  obtain ⟨q1, hq1, hF⟩ := bind_some hF
  refine mw_callV (c := 8) [] [] C dX7_takeName_42 (T_X8_misplaced (zl Z) (zX Z) _ _ hq1) rfl zn8 zk8 (by decide) rfl wd507 wd434 wd435 wd2 wd436 hd_X8_misplaced rfl (by decide) (by decide) (Nat.le_of_ble_eq_true rfl) ⟨Nat.zero_le _, Nat.zero_le _⟩ ?_
  obtain ⟨g2, hF⟩ := ck_some hF
  cases hF
  exact mw_zret C dX7_takeName_45 g2 rfl rfl
def F_X7_takeName_0 (x1 : Int) (h : MH) : Option (Int × MH) :=
  (F_X8_isShortWord h).bind fun q1 =>
  ck (in32 q1.1) <|
  if q1.1 = 0 then
    F_X7_takeName_38 q1.2
  else
    (F_X7_kindHere q1.2).bind fun q4 =>
    ck (in32 q4.1) <|
    if q4.1 ≠ (-1) then
      F_X7_takeName_38 q4.2
    else
      (F_X8_is 8 q4.2).bind fun q7 =>
      ck (in32 q7.1) <|
      if q7.1 ≠ 0 then
        F_X7_takeName_38 q7.2
      else
        (F_X7_stateHere q7.2).bind fun q10 =>
        ck (in32 q10.1) <|
        if q10.1 = (-1) then
          ck (0 ≤ x1 ∧ x1 < 30) <|
          nx (hup q10.2 30 x1.toNat (q10.2 8 6)) fun h14 =>
          (F_X8_advance h14).bind fun q15 =>
          some (1, q15)
        else
          F_X7_takeName_38 q10.2
set_option maxRecDepth 100000 in
theorem T_X7_takeName_0 {Z : ZT} (C : Cx Z cX7_takeName 2 RX7 8 (some .boolean)) (x1 : Int) (h : MH) (t : (Int × MH)) (hF : F_X7_takeName_0 x1 h = some t) : MW Z (Qm Z (some (iv t.1)) zN zG t.2 0 0) 2 zN zG h 0 0 0 [(0, rfv (xd (zX Z)) 27), (1, iv x1)] [] := by
  unfold F_X7_takeName_0 at hF
  refine mw_aload_n 0 C dX7_takeName_0 rfl rfl ?_
  refine mw_get (k := 0) (T := TX7) (v := rfv (xd (zX Z)) 8) C dX7_takeName_1 zn27 zk27 (by decide) rfl inX7 (by decide) wd168 rfl (zfv_r rfl zg_27_0) ?_
  obtain ⟨q1, hq1, hF⟩ := bind_some hF
  refine mw_callV (c := 8) [] [] C dX7_takeName_4 (T_X8_isShortWord (zl Z) (zX Z) _ _ hq1) rfl zn8 zk8 (by decide) rfl wd531 wd430 wd431 wd2 wd432 hd_X8_isShortWord rfl (by decide) (by decide) (Nat.le_of_ble_eq_true rfl) ⟨Nat.zero_le _, Nat.zero_le _⟩ ?_
  obtain ⟨g2, hF⟩ := ck_some hF
  rcases ite_some hF with ⟨c3, hF⟩ | ⟨c3, hF⟩
  · refine mw_if_eq_t (tgt := 38) C dX7_takeName_7 (by decide) g2 c3 ?_
    refine mw_sub [0] rfl ?_
    exact T_X7_takeName_38 C _ _ hF
  · refine mw_if_eq_f (tgt := 38) C dX7_takeName_7 (by decide) g2 c3 ?_
    refine mw_aload_n 0 C dX7_takeName_10 rfl rfl ?_
    obtain ⟨q4, hq4, hF⟩ := bind_some hF
    refine mw_callV (c := 27) [] [] C dX7_takeName_11 (T_X7_kindHere (zl Z) (zX Z) _ _ hq4) rfl zn27 zk27 (by decide) rfl wd517 wd518 wd1328 wd6 wd519 hd_X7_kindHere rfl (by decide) (by decide) (Nat.le_of_ble_eq_true rfl) ⟨Nat.zero_le _, Nat.zero_le _⟩ ?_
    refine mw_iconst C dX7_takeName_14 ?_
    obtain ⟨g5, hF⟩ := ck_some hF
    rcases ite_some hF with ⟨c6, hF⟩ | ⟨c6, hF⟩
    · refine mw_icmp_ne_t (tgt := 38) C dX7_takeName_15 (by decide) g5 (by decide) c6 ?_
      refine mw_sub [0] rfl ?_
      exact T_X7_takeName_38 C _ _ hF
    · refine mw_icmp_ne_f (tgt := 38) C dX7_takeName_15 (by decide) g5 (by decide) c6 ?_
      refine mw_aload_n 0 C dX7_takeName_18 rfl rfl ?_
      refine mw_get (k := 0) (T := TX7) (v := rfv (xd (zX Z)) 8) C dX7_takeName_19 zn27 zk27 (by decide) rfl inX7 (by decide) wd168 rfl (zfv_r rfl zg_27_0) ?_
      refine mw_ldcS 8 (by decide) rfl rfl C dX7_takeName_22 ?_
      obtain ⟨q7, hq7, hF⟩ := bind_some hF
      refine mw_callV (c := 8) [.ref (xa (zX Z) 8)] [] C dX7_takeName_24 (T_X8_is (zl Z) (zX Z) 8 (by decide) _ _ hq7) rfl zn8 zk8 (by decide) rfl wd508 wd372 wd373 wd2 wd374 hd_X8_is rfl (by decide) (by decide) (Nat.le_of_ble_eq_true rfl) ⟨Nat.zero_le _, Nat.zero_le _⟩ ?_
      obtain ⟨g8, hF⟩ := ck_some hF
      rcases ite_some hF with ⟨c9, hF⟩ | ⟨c9, hF⟩
      · refine mw_if_ne_t (tgt := 38) C dX7_takeName_27 (by decide) g8 c9 ?_
        refine mw_sub [0] rfl ?_
        exact T_X7_takeName_38 C _ _ hF
      · refine mw_if_ne_f (tgt := 38) C dX7_takeName_27 (by decide) g8 c9 ?_
        refine mw_aload_n 0 C dX7_takeName_30 rfl rfl ?_
        obtain ⟨q10, hq10, hF⟩ := bind_some hF
        refine mw_callV (c := 27) [] [] C dX7_takeName_31 (T_X7_stateHere (zl Z) (zX Z) _ _ hq10) rfl zn27 zk27 (by decide) rfl wd532 wd533 wd1332 wd6 wd534 hd_X7_stateHere rfl (by decide) (by decide) (Nat.le_of_ble_eq_true rfl) ⟨Nat.zero_le _, Nat.zero_le _⟩ ?_
        refine mw_iconst C dX7_takeName_34 ?_
        obtain ⟨g11, hF⟩ := ck_some hF
        rcases ite_some hF with ⟨c12, hF⟩ | ⟨c12, hF⟩
        · refine mw_icmp_eq_t (tgt := 46) C dX7_takeName_35 (by decide) g11 (by decide) c12 ?_
          refine mw_aload_n 0 C dX7_takeName_46 rfl rfl ?_
          refine mw_get (k := 1) (T := TX7) (v := rfv (xd (zX Z)) 28) C dX7_takeName_47 zn27 zk27 (by decide) rfl inX7 (by decide) wd169 rfl (zfv_r rfl zg_27_1) ?_
          refine mw_get (k := 2) (T := TX6) (v := rfv (xd (zX Z)) 30) C dX7_takeName_50 zn28 zk28 (by decide) rfl inX6 (by decide) wd161 rfl (zfv_r rfl zg_28_2) ?_
          refine mw_iload_n 1 C dX7_takeName_53 rfl rfl ?_
          refine mw_aload_n 0 C dX7_takeName_54 rfl rfl ?_
          refine mw_get (k := 0) (T := TX7) (v := rfv (xd (zX Z)) 8) C dX7_takeName_55 zn27 zk27 (by decide) rfl inX7 (by decide) wd168 rfl (zfv_r rfl zg_27_0) ?_
          refine mw_get (k := 6) (T := TX8) (v := lvv (q10.2 8 6)) C dX7_takeName_58 zn8 zk8 (by decide) rfl inX8 (by decide) wd48 rfl rfl ?_
          obtain ⟨g13, hF⟩ := ck_some hF
          obtain ⟨h14, eh14, hF⟩ := nx_some hF
          refine mw_last C dX7_takeName_61 zn30 zk30 (by decide) g13 (mw_h eh14 ?_)
          refine mw_aload_n 0 C dX7_takeName_62 rfl rfl ?_
          refine mw_get (k := 0) (T := TX7) (v := rfv (xd (zX Z)) 8) C dX7_takeName_63 zn27 zk27 (by decide) rfl inX7 (by decide) wd168 rfl (zfv_r rfl zg_27_0) ?_
          obtain ⟨q15, hq15, hF⟩ := bind_some hF
          refine mw_callV (c := 8) [] [] C dX7_takeName_66 (T_X8_advance (zl Z) (zX Z) _ _ hq15) rfl zn8 zk8 (by decide) rfl wd512 wd359 wd360 wd2 wd361 hd_X8_advance rfl (by decide) (by decide) (Nat.le_of_ble_eq_true rfl) ⟨Nat.zero_le _, Nat.zero_le _⟩ ?_
          refine mw_iconst C dX7_takeName_69 ?_
          cases hF
          exact mw_zret C dX7_takeName_70 (Or.inr rfl) rfl rfl
        · refine mw_icmp_eq_f (tgt := 46) C dX7_takeName_35 (by decide) g11 (by decide) c12 ?_
          refine mw_sub [0] rfl ?_
          exact T_X7_takeName_38 C _ _ hF
def F_X7_takeName (x1 : Int) (h : MH) : Option (Int × MH) := F_X7_takeName_0 x1 h
theorem T_X7_takeName (l : Launch) (X : XT) (x1 : Int) (h : MH) (t : (Int × MH)) (hF : F_X7_takeName x1 h = some t) : Ct l X yX7_takeName cX7_takeName 2 (some .boolean) 8 [rfv (xd X) 27, iv x1] zN zG h (some (iv t.1)) zN zG t.2 0 0 := by
  refine Ct.head (by decide) (Nat.le_of_ble_eq_true rfl) (fun Z hX hl _ _ _ C => ?_)
  subst hX
  subst hl
  exact (T_X7_takeName_0 C x1 _ _ hF)
/-! BottleLine$ShiftReader.takeState(I)Z -/
def F_X7_takeState_0 (x1 : Int) (h : MH) : Option (Int × MH) :=
  (F_X7_stateHere h).bind fun q1 =>
  ck (in32 q1.1) <|
  if q1.1 ≠ (-1) then
    ck (0 ≤ x1 ∧ x1 < 30) <|
    nx (hup q1.2 31 x1.toNat q1.1) fun h5 =>
    (F_X8_advance h5).bind fun q6 =>
    some (1, q6)
  else
    (F_X8_misplaced q1.2).bind fun q7 =>
    ck (q7.1 = 0 ∨ q7.1 = 1) <|
    some (q7.1, q7.2)
set_option maxRecDepth 100000 in
theorem T_X7_takeState_0 {Z : ZT} (C : Cx Z cX7_takeState 3 RX7 8 (some .boolean)) (x1 : Int) (h : MH) (t : (Int × MH)) (hF : F_X7_takeState_0 x1 h = some t) : MW Z (Qm Z (some (iv t.1)) zN zG t.2 0 0) 3 zN zG h 0 0 0 [(0, rfv (xd (zX Z)) 27), (1, iv x1)] [] := by
  unfold F_X7_takeState_0 at hF
  refine mw_aload_n 0 C dX7_takeState_0 rfl rfl ?_
  obtain ⟨q1, hq1, hF⟩ := bind_some hF
  refine mw_callV (c := 27) [] [] C dX7_takeState_1 (T_X7_stateHere (zl Z) (zX Z) _ _ hq1) rfl zn27 zk27 (by decide) rfl wd532 wd533 wd1332 wd6 wd534 hd_X7_stateHere rfl (by decide) (by decide) (Nat.le_of_ble_eq_true rfl) ⟨Nat.zero_le _, Nat.zero_le _⟩ ?_
  refine mw_istore_n [(2, iv q1.1), (0, rfv (xd (zX Z)) 27), (1, iv x1)] C dX7_takeState_4 rfl (by decide) rfl ?_
  refine mw_iload_n 0 C dX7_takeState_5 rfl rfl ?_
  refine mw_iconst C dX7_takeState_6 ?_
  obtain ⟨g2, hF⟩ := ck_some hF
  rcases ite_some hF with ⟨c3, hF⟩ | ⟨c3, hF⟩
  · refine mw_icmp_ne_t (tgt := 18) C dX7_takeState_7 (by decide) g2 (by decide) c3 ?_
    refine mw_aload_n 1 C dX7_takeState_18 rfl rfl ?_
    refine mw_get (k := 1) (T := TX7) (v := rfv (xd (zX Z)) 28) C dX7_takeState_19 zn27 zk27 (by decide) rfl inX7 (by decide) wd169 rfl (zfv_r rfl zg_27_1) ?_
    refine mw_get (k := 3) (T := TX6) (v := rfv (xd (zX Z)) 31) C dX7_takeState_22 zn28 zk28 (by decide) rfl inX6 (by decide) wd164 rfl (zfv_r rfl zg_28_3) ?_
    refine mw_iload_n 2 C dX7_takeState_25 rfl rfl ?_
    refine mw_iload_n 0 C dX7_takeState_26 rfl rfl ?_
    obtain ⟨g4, hF⟩ := ck_some hF
    obtain ⟨h5, eh5, hF⟩ := nx_some hF
    refine mw_iast C dX7_takeState_27 zn31 zk31 (by decide) g4 (mw_h eh5 ?_)
    refine mw_aload_n 1 C dX7_takeState_28 rfl rfl ?_
    refine mw_get (k := 0) (T := TX7) (v := rfv (xd (zX Z)) 8) C dX7_takeState_29 zn27 zk27 (by decide) rfl inX7 (by decide) wd168 rfl (zfv_r rfl zg_27_0) ?_
    obtain ⟨q6, hq6, hF⟩ := bind_some hF
    refine mw_callV (c := 8) [] [] C dX7_takeState_32 (T_X8_advance (zl Z) (zX Z) _ _ hq6) rfl zn8 zk8 (by decide) rfl wd512 wd359 wd360 wd2 wd361 hd_X8_advance rfl (by decide) (by decide) (Nat.le_of_ble_eq_true rfl) ⟨Nat.zero_le _, Nat.zero_le _⟩ ?_
    refine mw_iconst C dX7_takeState_35 ?_
    cases hF
    exact mw_zret C dX7_takeState_36 (Or.inr rfl) rfl rfl
  · refine mw_icmp_ne_f (tgt := 18) C dX7_takeState_7 (by decide) g2 (by decide) c3 ?_
    refine mw_aload_n 1 C dX7_takeState_10 rfl rfl ?_
    refine mw_get (k := 0) (T := TX7) (v := rfv (xd (zX Z)) 8) C dX7_takeState_11 zn27 zk27 (by decide) rfl inX7 (by decide) wd168 rfl (zfv_r rfl zg_27_0) ?_
    obtain ⟨q7, hq7, hF⟩ := bind_some hF
    refine mw_callV (c := 8) [] [] C dX7_takeState_14 (T_X8_misplaced (zl Z) (zX Z) _ _ hq7) rfl zn8 zk8 (by decide) rfl wd507 wd434 wd435 wd2 wd436 hd_X8_misplaced rfl (by decide) (by decide) (Nat.le_of_ble_eq_true rfl) ⟨Nat.zero_le _, Nat.zero_le _⟩ ?_
    obtain ⟨g8, hF⟩ := ck_some hF
    cases hF
    exact mw_zret C dX7_takeState_17 g8 rfl rfl
def F_X7_takeState (x1 : Int) (h : MH) : Option (Int × MH) := F_X7_takeState_0 x1 h
theorem T_X7_takeState (l : Launch) (X : XT) (x1 : Int) (h : MH) (t : (Int × MH)) (hF : F_X7_takeState x1 h = some t) : Ct l X yX7_takeState cX7_takeState 3 (some .boolean) 8 [rfv (xd X) 27, iv x1] zN zG h (some (iv t.1)) zN zG t.2 0 0 := by
  refine Ct.head (by decide) (Nat.le_of_ble_eq_true rfl) (fun Z hX hl _ _ _ C => ?_)
  subst hX
  subst hl
  exact (T_X7_takeState_0 C x1 _ _ hF)
/-! BottleLine$ShiftReader.takeDetails(II)Z -/
def F_X7_takeDetails_130 (x2 : Int) (h : MH) : Option (Int × MH) :=
  (F_X7_takeName x2 h).bind fun q1 =>
  ck (q1.1 = 0 ∨ q1.1 = 1) <|
  some (q1.1, q1.2)
set_option maxRecDepth 100000 in
theorem T_X7_takeDetails_130 {Z : ZT} (C : Cx Z cX7_takeDetails 3 RX7 9 (some .boolean)) (x2 : Int) (h : MH) (t : (Int × MH)) (hF : F_X7_takeDetails_130 x2 h = some t) : MW Z (Qm Z (some (iv t.1)) zN zG t.2 0 0) 3 zN zG h 0 0 130 [(0, rfv (xd (zX Z)) 27), (2, iv x2)] [] := by
  unfold F_X7_takeDetails_130 at hF
  refine mw_aload_n 0 C dX7_takeDetails_130 rfl rfl ?_
  refine mw_iload_n 1 C dX7_takeDetails_131 rfl rfl ?_
  obtain ⟨q1, hq1, hF⟩ := bind_some hF
  refine mw_callV (c := 27) [iv x2] [] C dX7_takeDetails_132 (T_X7_takeName (zl Z) (zX Z) x2 _ _ hq1) rfl zn27 zk27 (by decide) rfl wd528 wd529 wd1331 wd6 wd530 hd_X7_takeName rfl (by decide) (by decide) (Nat.le_of_ble_eq_true rfl) ⟨Nat.zero_le _, Nat.zero_le _⟩ ?_
  obtain ⟨g2, hF⟩ := ck_some hF
  cases hF
  exact mw_zret C dX7_takeDetails_135 g2 rfl rfl
def F_X7_takeDetails_0 (x1 : Int) (x2 : Int) (h : MH) : Option (Int × MH) :=
  ck (in32 x1) <|
  if x1 = 0 then
    (F_X7_takeAmount x2 1 60 h).bind fun q3 =>
    ck (q3.1 = 0 ∨ q3.1 = 1) <|
    some (q3.1, q3.2)
  else
  if x1 = 1 then
    (F_X7_takeName x2 h).bind fun q6 =>
    ck (in32 q6.1) <|
    if q6.1 = 0 then
      some (0, q6.2)
    else
      (F_X7_takeAmount x2 1 99 q6.2).bind fun q9 =>
      ck (in32 q9.1) <|
      if q9.1 = 0 then
        some (0, q9.2)
      else
        some (1, q9.2)
  else
  if x1 = 2 then
    (F_X7_takeName x2 h).bind fun q13 =>
    ck (in32 q13.1) <|
    if q13.1 = 0 then
      some (0, q13.2)
    else
      (F_X7_takeAmount x2 0 99 q13.2).bind fun q16 =>
      ck (in32 q16.1) <|
      if q16.1 = 0 then
        some (0, q16.2)
      else
        some (1, q16.2)
  else
  if x1 = 3 then
    F_X7_takeDetails_130 x2 h
  else
  if x1 = 4 then
    (F_X7_takeAmount x2 1 9 h).bind fun q21 =>
    ck (q21.1 = 0 ∨ q21.1 = 1) <|
    some (q21.1, q21.2)
  else
  if x1 = 5 then
    (F_X7_takeName x2 h).bind fun q24 =>
    ck (in32 q24.1) <|
    if q24.1 = 0 then
      some (0, q24.2)
    else
      (F_X7_takeState x2 q24.2).bind fun q27 =>
      ck (in32 q27.1) <|
      if q27.1 = 0 then
        some (0, q27.2)
      else
        some (1, q27.2)
  else
  F_X7_takeDetails_130 x2 h
set_option maxRecDepth 100000 in
theorem T_X7_takeDetails_0 {Z : ZT} (C : Cx Z cX7_takeDetails 3 RX7 9 (some .boolean)) (x1 : Int) (x2 : Int) (h : MH) (t : (Int × MH)) (hF : F_X7_takeDetails_0 x1 x2 h = some t) : MW Z (Qm Z (some (iv t.1)) zN zG t.2 0 0) 3 zN zG h 0 0 0 [(0, rfv (xd (zX Z)) 27), (1, iv x1), (2, iv x2)] [] := by
  unfold F_X7_takeDetails_0 at hF
  refine mw_iload_n 1 C dX7_takeDetails_0 rfl rfl ?_
  obtain ⟨g1, hF⟩ := ck_some hF
  rcases ite_some hF with ⟨c2, hF⟩ | ⟨c2, hF⟩
  · refine mw_tabI (tgt := 40) 0 C dX7_takeDetails_1 (by decide) c2 (by decide) (by decide) rfl (by decide) ?_
    refine mw_aload_n 0 C dX7_takeDetails_40 rfl rfl ?_
    refine mw_iload_n 2 C dX7_takeDetails_41 rfl rfl ?_
    refine mw_iconst C dX7_takeDetails_42 ?_
    refine mw_bipush C dX7_takeDetails_43 bp_60 ?_
    obtain ⟨q3, hq3, hF⟩ := bind_some hF
    refine mw_callV (c := 27) [iv x2, iv 1, iv 60] [] C dX7_takeDetails_45 (T_X7_takeAmount (zl Z) (zX Z) x2 1 60 _ _ hq3) rfl zn27 zk27 (by decide) rfl wd524 wd525 wd1330 wd6 wd526 hd_X7_takeAmount rfl (by decide) (by decide) (Nat.le_of_ble_eq_true rfl) ⟨Nat.zero_le _, Nat.zero_le _⟩ ?_
    obtain ⟨g4, hF⟩ := ck_some hF
    cases hF
    exact mw_zret C dX7_takeDetails_48 g4 rfl rfl
  rcases ite_some hF with ⟨c5, hF⟩ | ⟨c5, hF⟩
  · refine mw_tabI (tgt := 49) 1 C dX7_takeDetails_1 (by decide) c5 (by decide) (by decide) rfl (by decide) ?_
    refine mw_aload_n 0 C dX7_takeDetails_49 rfl rfl ?_
    refine mw_iload_n 2 C dX7_takeDetails_50 rfl rfl ?_
    obtain ⟨q6, hq6, hF⟩ := bind_some hF
    refine mw_callV (c := 27) [iv x2] [] C dX7_takeDetails_51 (T_X7_takeName (zl Z) (zX Z) x2 _ _ hq6) rfl zn27 zk27 (by decide) rfl wd528 wd529 wd1331 wd6 wd530 hd_X7_takeName rfl (by decide) (by decide) (Nat.le_of_ble_eq_true rfl) ⟨Nat.zero_le _, Nat.zero_le _⟩ ?_
    obtain ⟨g7, hF⟩ := ck_some hF
    rcases ite_some hF with ⟨c8, hF⟩ | ⟨c8, hF⟩
    · refine mw_if_eq_t (tgt := 72) C dX7_takeDetails_54 (by decide) g7 c8 ?_
      refine mw_iconst C dX7_takeDetails_72 ?_
      cases hF
      exact mw_zret C dX7_takeDetails_73 (Or.inl rfl) rfl rfl
    · refine mw_if_eq_f (tgt := 72) C dX7_takeDetails_54 (by decide) g7 c8 ?_
      refine mw_aload_n 0 C dX7_takeDetails_57 rfl rfl ?_
      refine mw_iload_n 2 C dX7_takeDetails_58 rfl rfl ?_
      refine mw_iconst C dX7_takeDetails_59 ?_
      refine mw_bipush C dX7_takeDetails_60 bp_99 ?_
      obtain ⟨q9, hq9, hF⟩ := bind_some hF
      refine mw_callV (c := 27) [iv x2, iv 1, iv 99] [] C dX7_takeDetails_62 (T_X7_takeAmount (zl Z) (zX Z) x2 1 99 _ _ hq9) rfl zn27 zk27 (by decide) rfl wd524 wd525 wd1330 wd6 wd526 hd_X7_takeAmount rfl (by decide) (by decide) (Nat.le_of_ble_eq_true rfl) ⟨Nat.zero_le _, Nat.zero_le _⟩ ?_
      obtain ⟨g10, hF⟩ := ck_some hF
      rcases ite_some hF with ⟨c11, hF⟩ | ⟨c11, hF⟩
      · refine mw_if_eq_t (tgt := 72) C dX7_takeDetails_65 (by decide) g10 c11 ?_
        refine mw_iconst C dX7_takeDetails_72 ?_
        cases hF
        exact mw_zret C dX7_takeDetails_73 (Or.inl rfl) rfl rfl
      · refine mw_if_eq_f (tgt := 72) C dX7_takeDetails_65 (by decide) g10 c11 ?_
        refine mw_iconst C dX7_takeDetails_68 ?_
        refine mw_goto (tgt := 73) C dX7_takeDetails_69 (by decide) ?_
        cases hF
        exact mw_zret C dX7_takeDetails_73 (Or.inr rfl) rfl rfl
  rcases ite_some hF with ⟨c12, hF⟩ | ⟨c12, hF⟩
  · refine mw_tabI (tgt := 74) 2 C dX7_takeDetails_1 (by decide) c12 (by decide) (by decide) rfl (by decide) ?_
    refine mw_aload_n 0 C dX7_takeDetails_74 rfl rfl ?_
    refine mw_iload_n 2 C dX7_takeDetails_75 rfl rfl ?_
    obtain ⟨q13, hq13, hF⟩ := bind_some hF
    refine mw_callV (c := 27) [iv x2] [] C dX7_takeDetails_76 (T_X7_takeName (zl Z) (zX Z) x2 _ _ hq13) rfl zn27 zk27 (by decide) rfl wd528 wd529 wd1331 wd6 wd530 hd_X7_takeName rfl (by decide) (by decide) (Nat.le_of_ble_eq_true rfl) ⟨Nat.zero_le _, Nat.zero_le _⟩ ?_
    obtain ⟨g14, hF⟩ := ck_some hF
    rcases ite_some hF with ⟨c15, hF⟩ | ⟨c15, hF⟩
    · refine mw_if_eq_t (tgt := 97) C dX7_takeDetails_79 (by decide) g14 c15 ?_
      refine mw_iconst C dX7_takeDetails_97 ?_
      cases hF
      exact mw_zret C dX7_takeDetails_98 (Or.inl rfl) rfl rfl
    · refine mw_if_eq_f (tgt := 97) C dX7_takeDetails_79 (by decide) g14 c15 ?_
      refine mw_aload_n 0 C dX7_takeDetails_82 rfl rfl ?_
      refine mw_iload_n 2 C dX7_takeDetails_83 rfl rfl ?_
      refine mw_iconst C dX7_takeDetails_84 ?_
      refine mw_bipush C dX7_takeDetails_85 bp_99 ?_
      obtain ⟨q16, hq16, hF⟩ := bind_some hF
      refine mw_callV (c := 27) [iv x2, iv 0, iv 99] [] C dX7_takeDetails_87 (T_X7_takeAmount (zl Z) (zX Z) x2 0 99 _ _ hq16) rfl zn27 zk27 (by decide) rfl wd524 wd525 wd1330 wd6 wd526 hd_X7_takeAmount rfl (by decide) (by decide) (Nat.le_of_ble_eq_true rfl) ⟨Nat.zero_le _, Nat.zero_le _⟩ ?_
      obtain ⟨g17, hF⟩ := ck_some hF
      rcases ite_some hF with ⟨c18, hF⟩ | ⟨c18, hF⟩
      · refine mw_if_eq_t (tgt := 97) C dX7_takeDetails_90 (by decide) g17 c18 ?_
        refine mw_iconst C dX7_takeDetails_97 ?_
        cases hF
        exact mw_zret C dX7_takeDetails_98 (Or.inl rfl) rfl rfl
      · refine mw_if_eq_f (tgt := 97) C dX7_takeDetails_90 (by decide) g17 c18 ?_
        refine mw_iconst C dX7_takeDetails_93 ?_
        refine mw_goto (tgt := 98) C dX7_takeDetails_94 (by decide) ?_
        cases hF
        exact mw_zret C dX7_takeDetails_98 (Or.inr rfl) rfl rfl
  rcases ite_some hF with ⟨c19, hF⟩ | ⟨c19, hF⟩
  · refine mw_tabI (tgt := 130) 3 C dX7_takeDetails_1 (by decide) c19 (by decide) (by decide) rfl (by decide) ?_
    refine mw_sub [0, 2] rfl ?_
    exact T_X7_takeDetails_130 C x2 _ _ hF
  rcases ite_some hF with ⟨c20, hF⟩ | ⟨c20, hF⟩
  · refine mw_tabI (tgt := 99) 4 C dX7_takeDetails_1 (by decide) c20 (by decide) (by decide) rfl (by decide) ?_
    refine mw_aload_n 0 C dX7_takeDetails_99 rfl rfl ?_
    refine mw_iload_n 2 C dX7_takeDetails_100 rfl rfl ?_
    refine mw_iconst C dX7_takeDetails_101 ?_
    refine mw_bipush C dX7_takeDetails_102 bp_9 ?_
    obtain ⟨q21, hq21, hF⟩ := bind_some hF
    refine mw_callV (c := 27) [iv x2, iv 1, iv 9] [] C dX7_takeDetails_104 (T_X7_takeAmount (zl Z) (zX Z) x2 1 9 _ _ hq21) rfl zn27 zk27 (by decide) rfl wd524 wd525 wd1330 wd6 wd526 hd_X7_takeAmount rfl (by decide) (by decide) (Nat.le_of_ble_eq_true rfl) ⟨Nat.zero_le _, Nat.zero_le _⟩ ?_
    obtain ⟨g22, hF⟩ := ck_some hF
    cases hF
    exact mw_zret C dX7_takeDetails_107 g22 rfl rfl
  rcases ite_some hF with ⟨c23, hF⟩ | ⟨c23, hF⟩
  · refine mw_tabI (tgt := 108) 5 C dX7_takeDetails_1 (by decide) c23 (by decide) (by decide) rfl (by decide) ?_
    refine mw_aload_n 0 C dX7_takeDetails_108 rfl rfl ?_
    refine mw_iload_n 2 C dX7_takeDetails_109 rfl rfl ?_
    obtain ⟨q24, hq24, hF⟩ := bind_some hF
    refine mw_callV (c := 27) [iv x2] [] C dX7_takeDetails_110 (T_X7_takeName (zl Z) (zX Z) x2 _ _ hq24) rfl zn27 zk27 (by decide) rfl wd528 wd529 wd1331 wd6 wd530 hd_X7_takeName rfl (by decide) (by decide) (Nat.le_of_ble_eq_true rfl) ⟨Nat.zero_le _, Nat.zero_le _⟩ ?_
    obtain ⟨g25, hF⟩ := ck_some hF
    rcases ite_some hF with ⟨c26, hF⟩ | ⟨c26, hF⟩
    · refine mw_if_eq_t (tgt := 128) C dX7_takeDetails_113 (by decide) g25 c26 ?_
      refine mw_iconst C dX7_takeDetails_128 ?_
      cases hF
      exact mw_zret C dX7_takeDetails_129 (Or.inl rfl) rfl rfl
    · refine mw_if_eq_f (tgt := 128) C dX7_takeDetails_113 (by decide) g25 c26 ?_
      refine mw_aload_n 0 C dX7_takeDetails_116 rfl rfl ?_
      refine mw_iload_n 2 C dX7_takeDetails_117 rfl rfl ?_
      obtain ⟨q27, hq27, hF⟩ := bind_some hF
      refine mw_callV (c := 27) [iv x2] [] C dX7_takeDetails_118 (T_X7_takeState (zl Z) (zX Z) x2 _ _ hq27) rfl zn27 zk27 (by decide) rfl wd535 wd536 wd1333 wd6 wd537 hd_X7_takeState rfl (by decide) (by decide) (Nat.le_of_ble_eq_true rfl) ⟨Nat.zero_le _, Nat.zero_le _⟩ ?_
      obtain ⟨g28, hF⟩ := ck_some hF
      rcases ite_some hF with ⟨c29, hF⟩ | ⟨c29, hF⟩
      · refine mw_if_eq_t (tgt := 128) C dX7_takeDetails_121 (by decide) g28 c29 ?_
        refine mw_iconst C dX7_takeDetails_128 ?_
        cases hF
        exact mw_zret C dX7_takeDetails_129 (Or.inl rfl) rfl rfl
      · refine mw_if_eq_f (tgt := 128) C dX7_takeDetails_121 (by decide) g28 c29 ?_
        refine mw_iconst C dX7_takeDetails_124 ?_
        refine mw_goto (tgt := 129) C dX7_takeDetails_125 (by decide) ?_
        cases hF
        exact mw_zret C dX7_takeDetails_129 (Or.inr rfl) rfl rfl
  refine mw_tabO (tgt := 130) C dX7_takeDetails_1 g1 (by omega) (by decide) ?_
  refine mw_sub [0, 2] rfl ?_
  exact T_X7_takeDetails_130 C x2 _ _ hF
def F_X7_takeDetails (x1 : Int) (x2 : Int) (h : MH) : Option (Int × MH) := F_X7_takeDetails_0 x1 x2 h
theorem T_X7_takeDetails (l : Launch) (X : XT) (x1 : Int) (x2 : Int) (h : MH) (t : (Int × MH)) (hF : F_X7_takeDetails x1 x2 h = some t) : Ct l X yX7_takeDetails cX7_takeDetails 3 (some .boolean) 9 [rfv (xd X) 27, iv x1, iv x2] zN zG h (some (iv t.1)) zN zG t.2 0 0 := by
  refine Ct.head (by decide) (Nat.le_of_ble_eq_true rfl) (fun Z hX hl _ _ _ C => ?_)
  subst hX
  subst hl
  exact (T_X7_takeDetails_0 C x1 x2 _ _ hF)
/-! BottleLine$ShiftReader.takeStep()Z -/
def F_X7_takeStep_132 (x1 : Int) (x3 : Int) (h : MH) : Option (Int × MH) :=
  (F_X8_advance h).bind fun q1 =>
  (F_X7_takeDetails x1 x3 q1).bind fun q2 =>
  ck (in32 q2.1) <|
  if q2.1 = 0 then
    some (0, q2.2)
  else
    (F_X8_takeSign q2.2).bind fun q5 =>
    ck (in32 q5.1) <|
    if q5.1 = 0 then
      some (0, q5.2)
    else
      some (1, q5.2)
set_option maxRecDepth 100000 in
theorem T_X7_takeStep_132 {Z : ZT} (C : Cx Z cX7_takeStep 4 RX7 10 (some .boolean)) (x1 : Int) (x3 : Int) (h : MH) (t : (Int × MH)) (hF : F_X7_takeStep_132 x1 x3 h = some t) : MW Z (Qm Z (some (iv t.1)) zN zG t.2 0 0) 4 zN zG h 0 0 132 [(0, rfv (xd (zX Z)) 27), (1, iv x1), (3, iv x3)] [] := by
  unfold F_X7_takeStep_132 at hF
  refine mw_aload_n 0 C dX7_takeStep_132 rfl rfl ?_
  refine mw_get (k := 0) (T := TX7) (v := rfv (xd (zX Z)) 8) C dX7_takeStep_133 zn27 zk27 (by decide) rfl inX7 (by decide) wd168 rfl (zfv_r rfl zg_27_0) ?_
  obtain ⟨q1, hq1, hF⟩ := bind_some hF
  refine mw_callV (c := 8) [] [] C dX7_takeStep_136 (T_X8_advance (zl Z) (zX Z) _ _ hq1) rfl zn8 zk8 (by decide) rfl wd512 wd359 wd360 wd2 wd361 hd_X8_advance rfl (by decide) (by decide) (Nat.le_of_ble_eq_true rfl) ⟨Nat.zero_le _, Nat.zero_le _⟩ ?_
  refine mw_aload_n 0 C dX7_takeStep_139 rfl rfl ?_
  refine mw_iload_n 1 C dX7_takeStep_140 rfl rfl ?_
  refine mw_iload_n 2 C dX7_takeStep_141 rfl rfl ?_
  obtain ⟨q2, hq2, hF⟩ := bind_some hF
  refine mw_callV (c := 27) [iv x1, iv x3] [] C dX7_takeStep_142 (T_X7_takeDetails (zl Z) (zX Z) x1 x3 _ _ hq2) rfl zn27 zk27 (by decide) rfl wd521 wd522 wd1329 wd6 wd523 hd_X7_takeDetails rfl (by decide) (by decide) (Nat.le_of_ble_eq_true rfl) ⟨Nat.zero_le _, Nat.zero_le _⟩ ?_
  obtain ⟨g3, hF⟩ := ck_some hF
  rcases ite_some hF with ⟨c4, hF⟩ | ⟨c4, hF⟩
  · refine mw_if_eq_t (tgt := 162) C dX7_takeStep_145 (by decide) g3 c4 ?_
    refine mw_iconst C dX7_takeStep_162 ?_
    cases hF
    exact mw_zret C dX7_takeStep_163 (Or.inl rfl) rfl rfl
  · refine mw_if_eq_f (tgt := 162) C dX7_takeStep_145 (by decide) g3 c4 ?_
    refine mw_aload_n 0 C dX7_takeStep_148 rfl rfl ?_
    refine mw_get (k := 0) (T := TX7) (v := rfv (xd (zX Z)) 8) C dX7_takeStep_149 zn27 zk27 (by decide) rfl inX7 (by decide) wd168 rfl (zfv_r rfl zg_27_0) ?_
    obtain ⟨q5, hq5, hF⟩ := bind_some hF
    refine mw_callV (c := 8) [] [] C dX7_takeStep_152 (T_X8_takeSign (zl Z) (zX Z) _ _ hq5) rfl zn8 zk8 (by decide) rfl wd513 wd462 wd463 wd2 wd464 hd_X8_takeSign rfl (by decide) (by decide) (Nat.le_of_ble_eq_true rfl) ⟨Nat.zero_le _, Nat.zero_le _⟩ ?_
    obtain ⟨g6, hF⟩ := ck_some hF
    rcases ite_some hF with ⟨c7, hF⟩ | ⟨c7, hF⟩
    · refine mw_if_eq_t (tgt := 162) C dX7_takeStep_155 (by decide) g6 c7 ?_
      refine mw_iconst C dX7_takeStep_162 ?_
      cases hF
      exact mw_zret C dX7_takeStep_163 (Or.inl rfl) rfl rfl
    · refine mw_if_eq_f (tgt := 162) C dX7_takeStep_155 (by decide) g6 c7 ?_
      refine mw_iconst C dX7_takeStep_158 ?_
      refine mw_goto (tgt := 163) C dX7_takeStep_159 (by decide) ?_
      cases hF
      exact mw_zret C dX7_takeStep_163 (Or.inr rfl) rfl rfl
def F_X7_takeStep_55 (x1 : Int) (x2 : Int) (h : MH) : Option (Int × MH) :=
  ck (in32 (h 28 0)) <|
  if (h 28 0) < 30 then
    nx (h 28 0) fun v3 =>
    nx (hup h 28 0 ((h 28 0) + 1)) fun h4 =>
    ck (0 ≤ v3 ∧ v3 < 30) <|
    nx (hup h4 29 v3.toNat x1) fun h6 =>
    ck (in32 x2) <|
    if x2 = 0 then
      F_X7_takeStep_132 x1 v3 h6
    else
      ck (0 ≤ (h6 27 3) ∧ (h6 27 3) < 3) <|
      nx (hup h6 33 (h6 27 3).toNat v3) fun h10 =>
      nx (hup h10 27 3 ((h10 27 3) + 1)) fun h11 =>
      F_X7_takeStep_132 x1 v3 h11
  else
    (F_X8_wrong 6 h).bind fun q12 =>
    ck (q12.1 = 0 ∨ q12.1 = 1) <|
    some (q12.1, q12.2)
set_option maxRecDepth 100000 in
theorem T_X7_takeStep_55 {Z : ZT} (C : Cx Z cX7_takeStep 4 RX7 10 (some .boolean)) (x1 : Int) (x2 : Int) (h : MH) (t : (Int × MH)) (hF : F_X7_takeStep_55 x1 x2 h = some t) : MW Z (Qm Z (some (iv t.1)) zN zG t.2 0 0) 4 zN zG h 0 0 55 [(0, rfv (xd (zX Z)) 27), (1, iv x1), (2, iv x2)] [] := by
  unfold F_X7_takeStep_55 at hF
  refine mw_aload_n 0 C dX7_takeStep_55 rfl rfl ?_
  refine mw_get (k := 1) (T := TX7) (v := rfv (xd (zX Z)) 28) C dX7_takeStep_56 zn27 zk27 (by decide) rfl inX7 (by decide) wd169 rfl (zfv_r rfl zg_27_1) ?_
  refine mw_get (k := 0) (T := TX6) (v := iv (h 28 0)) C dX7_takeStep_59 zn28 zk28 (by decide) rfl inX6 (by decide) wd153 rfl rfl ?_
  refine mw_bipush C dX7_takeStep_62 bp_30 ?_
  obtain ⟨g1, hF⟩ := ck_some hF
  rcases ite_some hF with ⟨c2, hF⟩ | ⟨c2, hF⟩
  · refine mw_icmp_lt_t (tgt := 77) C dX7_takeStep_64 (by decide) g1 (by decide) c2 ?_
    refine mw_aload_n 0 C dX7_takeStep_77 rfl rfl ?_
    refine mw_get (k := 1) (T := TX7) (v := rfv (xd (zX Z)) 28) C dX7_takeStep_78 zn27 zk27 (by decide) rfl inX7 (by decide) wd169 rfl (zfv_r rfl zg_27_1) ?_
    refine mw_get (k := 0) (T := TX6) (v := iv (h 28 0)) C dX7_takeStep_81 zn28 zk28 (by decide) rfl inX6 (by decide) wd153 rfl rfl ?_
    obtain ⟨v3, ev3, hF⟩ := nx_some hF
    refine mw_ti ev3 ?_
    refine mw_istore_n [(3, iv v3), (0, rfv (xd (zX Z)) 27), (1, iv x1), (2, iv x2)] C dX7_takeStep_84 rfl (by decide) rfl ?_
    refine mw_aload_n 1 C dX7_takeStep_85 rfl rfl ?_
    refine mw_get (k := 1) (T := TX7) (v := rfv (xd (zX Z)) 28) C dX7_takeStep_86 zn27 zk27 (by decide) rfl inX7 (by decide) wd169 rfl (zfv_r rfl zg_27_1) ?_
    refine mw_dup C dX7_takeStep_89 rfl ?_
    refine mw_get (k := 0) (T := TX6) (v := iv (h 28 0)) C dX7_takeStep_90 zn28 zk28 (by decide) rfl inX6 (by decide) wd153 rfl rfl ?_
    refine mw_iconst C dX7_takeStep_93 ?_
    refine mw_iadd C dX7_takeStep_94 ?_
    obtain ⟨h4, eh4, hF⟩ := nx_some hF
    refine mw_put (k := 0) (T := TX6) (ty0 := tyX6) (x := ((h 28 0) + 1)) C dX7_takeStep_95 zn28 zk28 (by decide) rfl inX6 tyX6_ok nmX6 (by decide) wd153 rfl rfl rfl rfl rfl (by decide) (mw_h eh4 ?_)
    refine mw_aload_n 1 C dX7_takeStep_98 rfl rfl ?_
    refine mw_get (k := 1) (T := TX7) (v := rfv (xd (zX Z)) 28) C dX7_takeStep_99 zn27 zk27 (by decide) rfl inX7 (by decide) wd169 rfl (zfv_r rfl zg_27_1) ?_
    refine mw_get (k := 1) (T := TX6) (v := rfv (xd (zX Z)) 29) C dX7_takeStep_102 zn28 zk28 (by decide) rfl inX6 (by decide) wd158 rfl (zfv_r rfl zg_28_1) ?_
    refine mw_iload_n 0 C dX7_takeStep_105 rfl rfl ?_
    refine mw_iload_n 2 C dX7_takeStep_106 rfl rfl ?_
    obtain ⟨g5, hF⟩ := ck_some hF
    obtain ⟨h6, eh6, hF⟩ := nx_some hF
    refine mw_iast C dX7_takeStep_107 zn29 zk29 (by decide) g5 (mw_h eh6 ?_)
    refine mw_iload_n 3 C dX7_takeStep_108 rfl rfl ?_
    obtain ⟨g7, hF⟩ := ck_some hF
    rcases ite_some hF with ⟨c8, hF⟩ | ⟨c8, hF⟩
    · refine mw_if_eq_t (tgt := 132) C dX7_takeStep_109 (by decide) g7 c8 ?_
      refine mw_sub [1, 2, 0] rfl ?_
      exact T_X7_takeStep_132 C x1 v3 _ _ hF
    · refine mw_if_eq_f (tgt := 132) C dX7_takeStep_109 (by decide) g7 c8 ?_
      refine mw_aload_n 1 C dX7_takeStep_112 rfl rfl ?_
      refine mw_get (k := 2) (T := TX7) (v := rfv (xd (zX Z)) 33) C dX7_takeStep_113 zn27 zk27 (by decide) rfl inX7 (by decide) wd171 rfl (zfv_r rfl zg_27_2) ?_
      refine mw_aload_n 1 C dX7_takeStep_116 rfl rfl ?_
      refine mw_get (k := 3) (T := TX7) (v := iv (h6 27 3)) C dX7_takeStep_117 zn27 zk27 (by decide) rfl inX7 (by decide) wd172 rfl rfl ?_
      refine mw_iload_n 0 C dX7_takeStep_120 rfl rfl ?_
      obtain ⟨g9, hF⟩ := ck_some hF
      obtain ⟨h10, eh10, hF⟩ := nx_some hF
      refine mw_iast C dX7_takeStep_121 zn33 zk33 (by decide) g9 (mw_h eh10 ?_)
      refine mw_aload_n 1 C dX7_takeStep_122 rfl rfl ?_
      refine mw_dup C dX7_takeStep_123 rfl ?_
      refine mw_get (k := 3) (T := TX7) (v := iv (h10 27 3)) C dX7_takeStep_124 zn27 zk27 (by decide) rfl inX7 (by decide) wd172 rfl rfl ?_
      refine mw_iconst C dX7_takeStep_127 ?_
      refine mw_iadd C dX7_takeStep_128 ?_
      obtain ⟨h11, eh11, hF⟩ := nx_some hF
      refine mw_put (k := 3) (T := TX7) (ty0 := tyX7) (x := ((h10 27 3) + 1)) C dX7_takeStep_129 zn27 zk27 (by decide) rfl inX7 tyX7_ok nmX7 (by decide) wd172 rfl rfl rfl rfl rfl (by decide) (mw_h eh11 ?_)
      refine mw_sub [1, 2, 0] rfl ?_
      exact T_X7_takeStep_132 C x1 v3 _ _ hF
  · refine mw_icmp_lt_f (tgt := 77) C dX7_takeStep_64 (by decide) g1 (by decide) c2 ?_
    refine mw_aload_n 0 C dX7_takeStep_67 rfl rfl ?_
    refine mw_get (k := 0) (T := TX7) (v := rfv (xd (zX Z)) 8) C dX7_takeStep_68 zn27 zk27 (by decide) rfl inX7 (by decide) wd168 rfl (zfv_r rfl zg_27_0) ?_
    refine mw_bipush C dX7_takeStep_71 bp_6 ?_
    obtain ⟨q12, hq12, hF⟩ := bind_some hF
    refine mw_callV (c := 8) [iv 6] [] C dX7_takeStep_73 (T_X8_wrong (zl Z) (zX Z) 6 _ _ hq12) rfl zn8 zk8 (by decide) rfl wd520 wd422 wd423 wd2 wd424 hd_X8_wrong rfl (by decide) (by decide) (Nat.le_of_ble_eq_true rfl) ⟨Nat.zero_le _, Nat.zero_le _⟩ ?_
    obtain ⟨g13, hF⟩ := ck_some hF
    cases hF
    exact mw_zret C dX7_takeStep_76 g13 rfl rfl
def F_X7_takeStep_20 (x1 : Int) (s0 : Int) (h : MH) : Option (Int × MH) :=
  ck (in32 x1) <|
  if x1 ≠ (-1) then
    ck (in32 s0) <|
    if s0 = 0 then
      F_X7_takeStep_55 x1 s0 h
    else
      ck (in32 (h 27 3)) <|
      if (h 27 3) < 3 then
        F_X7_takeStep_55 x1 s0 h
      else
        (F_X8_wrong 5 h).bind fun q7 =>
        ck (q7.1 = 0 ∨ q7.1 = 1) <|
        some (q7.1, q7.2)
  else
    (F_X8_misplaced h).bind fun q9 =>
    ck (q9.1 = 0 ∨ q9.1 = 1) <|
    some (q9.1, q9.2)
set_option maxRecDepth 100000 in
theorem T_X7_takeStep_20 {Z : ZT} (C : Cx Z cX7_takeStep 4 RX7 10 (some .boolean)) (x1 : Int) (s0 : Int) (h : MH) (t : (Int × MH)) (hF : F_X7_takeStep_20 x1 s0 h = some t) : MW Z (Qm Z (some (iv t.1)) zN zG t.2 0 0) 4 zN zG h 0 0 20 [(0, rfv (xd (zX Z)) 27), (1, iv x1)] [iv s0] := by
  unfold F_X7_takeStep_20 at hF
  refine mw_istore_n [(2, iv s0), (0, rfv (xd (zX Z)) 27), (1, iv x1)] C dX7_takeStep_20 rfl (by decide) rfl ?_
  refine mw_iload_n 2 C dX7_takeStep_21 rfl rfl ?_
  refine mw_iconst C dX7_takeStep_22 ?_
  obtain ⟨g1, hF⟩ := ck_some hF
  rcases ite_some hF with ⟨c2, hF⟩ | ⟨c2, hF⟩
  · refine mw_icmp_ne_t (tgt := 34) C dX7_takeStep_23 (by decide) g1 (by decide) c2 ?_
    refine mw_iload_n 0 C dX7_takeStep_34 rfl rfl ?_
    obtain ⟨g3, hF⟩ := ck_some hF
    rcases ite_some hF with ⟨c4, hF⟩ | ⟨c4, hF⟩
    · refine mw_if_eq_t (tgt := 55) C dX7_takeStep_35 (by decide) g3 c4 ?_
      refine mw_sub [1, 2, 0] rfl ?_
      exact T_X7_takeStep_55 C x1 s0 _ _ hF
    · refine mw_if_eq_f (tgt := 55) C dX7_takeStep_35 (by decide) g3 c4 ?_
      refine mw_aload_n 1 C dX7_takeStep_38 rfl rfl ?_
      refine mw_get (k := 3) (T := TX7) (v := iv (h 27 3)) C dX7_takeStep_39 zn27 zk27 (by decide) rfl inX7 (by decide) wd172 rfl rfl ?_
      refine mw_iconst C dX7_takeStep_42 ?_
      obtain ⟨g5, hF⟩ := ck_some hF
      rcases ite_some hF with ⟨c6, hF⟩ | ⟨c6, hF⟩
      · refine mw_icmp_lt_t (tgt := 55) C dX7_takeStep_43 (by decide) g5 (by decide) c6 ?_
        refine mw_sub [1, 2, 0] rfl ?_
        exact T_X7_takeStep_55 C x1 s0 _ _ hF
      · refine mw_icmp_lt_f (tgt := 55) C dX7_takeStep_43 (by decide) g5 (by decide) c6 ?_
        refine mw_aload_n 1 C dX7_takeStep_46 rfl rfl ?_
        refine mw_get (k := 0) (T := TX7) (v := rfv (xd (zX Z)) 8) C dX7_takeStep_47 zn27 zk27 (by decide) rfl inX7 (by decide) wd168 rfl (zfv_r rfl zg_27_0) ?_
        refine mw_iconst C dX7_takeStep_50 ?_
        obtain ⟨q7, hq7, hF⟩ := bind_some hF
        refine mw_callV (c := 8) [iv 5] [] C dX7_takeStep_51 (T_X8_wrong (zl Z) (zX Z) 5 _ _ hq7) rfl zn8 zk8 (by decide) rfl wd520 wd422 wd423 wd2 wd424 hd_X8_wrong rfl (by decide) (by decide) (Nat.le_of_ble_eq_true rfl) ⟨Nat.zero_le _, Nat.zero_le _⟩ ?_
        obtain ⟨g8, hF⟩ := ck_some hF
        cases hF
        exact mw_zret C dX7_takeStep_54 g8 rfl rfl
  · refine mw_icmp_ne_f (tgt := 34) C dX7_takeStep_23 (by decide) g1 (by decide) c2 ?_
    refine mw_aload_n 1 C dX7_takeStep_26 rfl rfl ?_
    refine mw_get (k := 0) (T := TX7) (v := rfv (xd (zX Z)) 8) C dX7_takeStep_27 zn27 zk27 (by decide) rfl inX7 (by decide) wd168 rfl (zfv_r rfl zg_27_0) ?_
    obtain ⟨q9, hq9, hF⟩ := bind_some hF
    refine mw_callV (c := 8) [] [] C dX7_takeStep_30 (T_X8_misplaced (zl Z) (zX Z) _ _ hq9) rfl zn8 zk8 (by decide) rfl wd507 wd434 wd435 wd2 wd436 hd_X8_misplaced rfl (by decide) (by decide) (Nat.le_of_ble_eq_true rfl) ⟨Nat.zero_le _, Nat.zero_le _⟩ ?_
    obtain ⟨g10, hF⟩ := ck_some hF
    cases hF
    exact mw_zret C dX7_takeStep_33 g10 rfl rfl
def F_X7_takeStep_15 (x1 : Int) (h : MH) : Option (Int × MH) :=
  F_X7_takeStep_20 x1 1 h
set_option maxRecDepth 100000 in
theorem T_X7_takeStep_15 {Z : ZT} (C : Cx Z cX7_takeStep 4 RX7 10 (some .boolean)) (x1 : Int) (h : MH) (t : (Int × MH)) (hF : F_X7_takeStep_15 x1 h = some t) : MW Z (Qm Z (some (iv t.1)) zN zG t.2 0 0) 4 zN zG h 0 0 15 [(0, rfv (xd (zX Z)) 27), (1, iv x1)] [] := by
  unfold F_X7_takeStep_15 at hF
  refine mw_iconst C dX7_takeStep_15 ?_
  refine mw_goto (tgt := 20) C dX7_takeStep_16 (by decide) ?_
  exact T_X7_takeStep_20 C x1 1 _ _ hF
def F_X7_takeStep_0 (h : MH) : Option (Int × MH) :=
  (F_X7_kindHere h).bind fun q1 =>
  ck (in32 q1.1) <|
  if q1.1 = 4 then
    F_X7_takeStep_15 q1.1 q1.2
  else
    if q1.1 ≠ 5 then
      F_X7_takeStep_20 q1.1 0 q1.2
    else
      F_X7_takeStep_15 q1.1 q1.2
set_option maxRecDepth 100000 in
theorem T_X7_takeStep_0 {Z : ZT} (C : Cx Z cX7_takeStep 4 RX7 10 (some .boolean)) (h : MH) (t : (Int × MH)) (hF : F_X7_takeStep_0 h = some t) : MW Z (Qm Z (some (iv t.1)) zN zG t.2 0 0) 4 zN zG h 0 0 0 [(0, rfv (xd (zX Z)) 27)] [] := by
  unfold F_X7_takeStep_0 at hF
  refine mw_aload_n 0 C dX7_takeStep_0 rfl rfl ?_
  obtain ⟨q1, hq1, hF⟩ := bind_some hF
  refine mw_callV (c := 27) [] [] C dX7_takeStep_1 (T_X7_kindHere (zl Z) (zX Z) _ _ hq1) rfl zn27 zk27 (by decide) rfl wd517 wd518 wd1328 wd6 wd519 hd_X7_kindHere rfl (by decide) (by decide) (Nat.le_of_ble_eq_true rfl) ⟨Nat.zero_le _, Nat.zero_le _⟩ ?_
  refine mw_istore_n [(1, iv q1.1), (0, rfv (xd (zX Z)) 27)] C dX7_takeStep_4 rfl (by decide) rfl ?_
  refine mw_iload_n 0 C dX7_takeStep_5 rfl rfl ?_
  refine mw_iconst C dX7_takeStep_6 ?_
  obtain ⟨g2, hF⟩ := ck_some hF
  rcases ite_some hF with ⟨c3, hF⟩ | ⟨c3, hF⟩
  · refine mw_icmp_eq_t (tgt := 15) C dX7_takeStep_7 (by decide) g2 (by decide) c3 ?_
    refine mw_sub [1, 0] rfl ?_
    exact T_X7_takeStep_15 C q1.1 _ _ hF
  · refine mw_icmp_eq_f (tgt := 15) C dX7_takeStep_7 (by decide) g2 (by decide) c3 ?_
    refine mw_iload_n 0 C dX7_takeStep_10 rfl rfl ?_
    refine mw_iconst C dX7_takeStep_11 ?_
    rcases ite_some hF with ⟨c4, hF⟩ | ⟨c4, hF⟩
    · refine mw_icmp_ne_t (tgt := 19) C dX7_takeStep_12 (by decide) g2 (by decide) c4 ?_
      refine mw_iconst C dX7_takeStep_19 ?_
      refine mw_sub [1, 0] rfl ?_
      exact T_X7_takeStep_20 C q1.1 0 _ _ hF
    · refine mw_icmp_ne_f (tgt := 19) C dX7_takeStep_12 (by decide) g2 (by decide) c4 ?_
      refine mw_sub [1, 0] rfl ?_
      exact T_X7_takeStep_15 C q1.1 _ _ hF
def F_X7_takeStep (h : MH) : Option (Int × MH) := F_X7_takeStep_0 h
theorem T_X7_takeStep (l : Launch) (X : XT) (h : MH) (t : (Int × MH)) (hF : F_X7_takeStep h = some t) : Ct l X yX7_takeStep cX7_takeStep 4 (some .boolean) 10 [rfv (xd X) 27] zN zG h (some (iv t.1)) zN zG t.2 0 0 := by
  refine Ct.head (by decide) (Nat.le_of_ble_eq_true rfl) (fun Z hX hl _ _ _ C => ?_)
  subst hX
  subst hl
  exact (T_X7_takeStep_0 C _ _ hF)
/-! BottleLine$ShiftReader.takesAll(I)Z -/
def F_X7_takesAll_94 (k23 : Int → MH → Option (Int × MH)) (x2 : Int) (h : MH) : Option (Int × MH) :=
  k23 (x2 + 1) h
set_option maxRecDepth 100000 in
theorem T_X7_takesAll_94 {Z : ZT} (C : Cx Z cX7_takesAll 3 RX7 11 (some .boolean)) (k23 : Int → MH → Option (Int × MH)) (hk23 : ∀ (x2 : Int) (h : MH) (t : (Int × MH)), k23 x2 h = some t → MW Z (Qm Z (some (iv t.1)) zN zG t.2 0 0) 3 zN zG h 0 0 23 [(0, rfv (xd (zX Z)) 27), (2, iv x2)] []) (x2 : Int) (h : MH) (t : (Int × MH)) (hF : F_X7_takesAll_94 k23 x2 h = some t) : MW Z (Qm Z (some (iv t.1)) zN zG t.2 0 0) 3 zN zG h 0 0 94 [(0, rfv (xd (zX Z)) 27), (2, iv x2)] [] := by
  unfold F_X7_takesAll_94 at hF
  refine mw_iinc 1 [(2, iv (x2 + 1)), (0, rfv (xd (zX Z)) 27)] C dX7_takesAll_94 rfl (by decide) rfl ?_
  refine mw_goto (tgt := 23) C dX7_takesAll_97 (by decide) ?_
  refine mw_sub [1, 0] rfl ?_
  exact hk23 (x2 + 1) _ _ hF
def F_X7_takesAll_23 : Nat → Int → MH → Option (Int × MH)
  | 0, _, _ => none
  | n + 1, x2, h =>
    ck (in32 x2) <|
    if 300 < x2 then
      some (0, h)
    else
      ck (in32 (h 8 4)) <|
      if (h 8 4) ≠ 0 then
        (F_X8_is 8 h).bind fun q5 =>
        ck (in32 q5.1) <|
        if q5.1 = 0 then
          (F_X7_takeStep q5.2).bind fun q8 =>
          ck (in32 q8.1) <|
          if q8.1 ≠ 0 then
            F_X7_takesAll_94 (F_X7_takesAll_23 n) x2 q8.2
          else
            some (0, q8.2)
        else
          (F_X7_takeEnd q5.2).bind fun q11 =>
          ck (in32 q11.1) <|
          if q11.1 = 0 then
            some (0, q11.2)
          else
            F_X7_takesAll_94 (F_X7_takesAll_23 n) x2 q11.2
      else
        ck (in32 (h 27 3)) <|
        if (h 27 3) = 0 then
          some (1, h)
        else
          (F_X8_misplaced h).bind fun q16 =>
          ck (in32 q16.1) <|
          if q16.1 = 0 then
            some (0, q16.2)
          else
            some (1, q16.2)
set_option maxRecDepth 100000 in
theorem T_X7_takesAll_23 {Z : ZT} (C : Cx Z cX7_takesAll 3 RX7 11 (some .boolean)) : ∀ (n : Nat) (x2 : Int) (h : MH) (t : (Int × MH)), F_X7_takesAll_23 n x2 h = some t → MW Z (Qm Z (some (iv t.1)) zN zG t.2 0 0) 3 zN zG h 0 0 23 [(0, rfv (xd (zX Z)) 27), (2, iv x2)] [] := by
  intro n
  induction n with
  | zero =>
    intros
    rename_i hF
    exact absurd hF (by intro q; cases q)
  | succ n ih =>
    intro x2 h t hF
    rw [F_X7_takesAll_23] at hF
    refine mw_iload_n 1 C dX7_takesAll_23 rfl rfl ?_
    refine mw_sipush C dX7_takesAll_24 sp_300 ?_
    obtain ⟨g1, hF⟩ := ck_some hF
    rcases ite_some hF with ⟨c2, hF⟩ | ⟨c2, hF⟩
    · refine mw_icmp_gt_t (tgt := 100) C dX7_takesAll_27 (by decide) g1 (by decide) c2 ?_
      refine mw_iconst C dX7_takesAll_100 ?_
      cases hF
      exact mw_zret C dX7_takesAll_101 (Or.inl rfl) rfl rfl
    · refine mw_icmp_gt_f (tgt := 100) C dX7_takesAll_27 (by decide) g1 (by decide) c2 ?_
      refine mw_aload_n 0 C dX7_takesAll_30 rfl rfl ?_
      refine mw_get (k := 0) (T := TX7) (v := rfv (xd (zX Z)) 8) C dX7_takesAll_31 zn27 zk27 (by decide) rfl inX7 (by decide) wd168 rfl (zfv_r rfl zg_27_0) ?_
      refine mw_get (k := 4) (T := TX8) (v := iv (h 8 4)) C dX7_takesAll_34 zn8 zk8 (by decide) rfl inX8 (by decide) wd44 rfl rfl ?_
      obtain ⟨g3, hF⟩ := ck_some hF
      rcases ite_some hF with ⟨c4, hF⟩ | ⟨c4, hF⟩
      · refine mw_if_ne_t (tgt := 63) C dX7_takesAll_37 (by decide) g3 c4 ?_
        refine mw_aload_n 0 C dX7_takesAll_63 rfl rfl ?_
        refine mw_get (k := 0) (T := TX7) (v := rfv (xd (zX Z)) 8) C dX7_takesAll_64 zn27 zk27 (by decide) rfl inX7 (by decide) wd168 rfl (zfv_r rfl zg_27_0) ?_
        refine mw_ldcS 8 (by decide) rfl rfl C dX7_takesAll_67 ?_
        obtain ⟨q5, hq5, hF⟩ := bind_some hF
        refine mw_callV (c := 8) [.ref (xa (zX Z) 8)] [] C dX7_takesAll_69 (T_X8_is (zl Z) (zX Z) 8 (by decide) _ _ hq5) rfl zn8 zk8 (by decide) rfl wd508 wd372 wd373 wd2 wd374 hd_X8_is rfl (by decide) (by decide) (Nat.le_of_ble_eq_true rfl) ⟨Nat.zero_le _, Nat.zero_le _⟩ ?_
        obtain ⟨g6, hF⟩ := ck_some hF
        rcases ite_some hF with ⟨c7, hF⟩ | ⟨c7, hF⟩
        · refine mw_if_eq_t (tgt := 85) C dX7_takesAll_72 (by decide) g6 c7 ?_
          refine mw_aload_n 0 C dX7_takesAll_85 rfl rfl ?_
          obtain ⟨q8, hq8, hF⟩ := bind_some hF
          refine mw_callV (c := 27) [] [] C dX7_takesAll_86 (T_X7_takeStep (zl Z) (zX Z) _ _ hq8) rfl zn27 zk27 (by decide) rfl wd514 wd515 wd1327 wd6 wd516 hd_X7_takeStep rfl (by decide) (by decide) (Nat.le_of_ble_eq_true rfl) ⟨Nat.zero_le _, Nat.zero_le _⟩ ?_
          obtain ⟨g9, hF⟩ := ck_some hF
          rcases ite_some hF with ⟨c10, hF⟩ | ⟨c10, hF⟩
          · refine mw_if_ne_t (tgt := 94) C dX7_takesAll_89 (by decide) g9 c10 ?_
            exact T_X7_takesAll_94 C (F_X7_takesAll_23 n) ih x2 _ _ hF
          · refine mw_if_ne_f (tgt := 94) C dX7_takesAll_89 (by decide) g9 c10 ?_
            refine mw_iconst C dX7_takesAll_92 ?_
            cases hF
            exact mw_zret C dX7_takesAll_93 (Or.inl rfl) rfl rfl
        · refine mw_if_eq_f (tgt := 85) C dX7_takesAll_72 (by decide) g6 c7 ?_
          refine mw_aload_n 0 C dX7_takesAll_75 rfl rfl ?_
          obtain ⟨q11, hq11, hF⟩ := bind_some hF
          refine mw_callV (c := 27) [] [] C dX7_takesAll_76 (T_X7_takeEnd (zl Z) (zX Z) _ _ hq11) rfl zn27 zk27 (by decide) rfl wd509 wd510 wd1326 wd6 wd511 hd_X7_takeEnd rfl (by decide) (by decide) (Nat.le_of_ble_eq_true rfl) ⟨Nat.zero_le _, Nat.zero_le _⟩ ?_
          obtain ⟨g12, hF⟩ := ck_some hF
          rcases ite_some hF with ⟨c13, hF⟩ | ⟨c13, hF⟩
          · refine mw_if_eq_t (tgt := 92) C dX7_takesAll_79 (by decide) g12 c13 ?_
            refine mw_iconst C dX7_takesAll_92 ?_
            cases hF
            exact mw_zret C dX7_takesAll_93 (Or.inl rfl) rfl rfl
          · refine mw_if_eq_f (tgt := 92) C dX7_takesAll_79 (by decide) g12 c13 ?_
            refine mw_goto (tgt := 94) C dX7_takesAll_82 (by decide) ?_
            exact T_X7_takesAll_94 C (F_X7_takesAll_23 n) ih x2 _ _ hF
      · refine mw_if_ne_f (tgt := 63) C dX7_takesAll_37 (by decide) g3 c4 ?_
        refine mw_aload_n 0 C dX7_takesAll_40 rfl rfl ?_
        refine mw_get (k := 3) (T := TX7) (v := iv (h 27 3)) C dX7_takesAll_41 zn27 zk27 (by decide) rfl inX7 (by decide) wd172 rfl rfl ?_
        obtain ⟨g14, hF⟩ := ck_some hF
        rcases ite_some hF with ⟨c15, hF⟩ | ⟨c15, hF⟩
        · refine mw_if_eq_t (tgt := 57) C dX7_takesAll_44 (by decide) g14 c15 ?_
          refine mw_iconst C dX7_takesAll_57 ?_
          refine mw_goto (tgt := 62) C dX7_takesAll_58 (by decide) ?_
          cases hF
          exact mw_zret C dX7_takesAll_62 (Or.inr rfl) rfl rfl
        · refine mw_if_eq_f (tgt := 57) C dX7_takesAll_44 (by decide) g14 c15 ?_
          refine mw_aload_n 0 C dX7_takesAll_47 rfl rfl ?_
          refine mw_get (k := 0) (T := TX7) (v := rfv (xd (zX Z)) 8) C dX7_takesAll_48 zn27 zk27 (by decide) rfl inX7 (by decide) wd168 rfl (zfv_r rfl zg_27_0) ?_
          obtain ⟨q16, hq16, hF⟩ := bind_some hF
          refine mw_callV (c := 8) [] [] C dX7_takesAll_51 (T_X8_misplaced (zl Z) (zX Z) _ _ hq16) rfl zn8 zk8 (by decide) rfl wd507 wd434 wd435 wd2 wd436 hd_X8_misplaced rfl (by decide) (by decide) (Nat.le_of_ble_eq_true rfl) ⟨Nat.zero_le _, Nat.zero_le _⟩ ?_
          obtain ⟨g17, hF⟩ := ck_some hF
          rcases ite_some hF with ⟨c18, hF⟩ | ⟨c18, hF⟩
          · refine mw_if_eq_t (tgt := 61) C dX7_takesAll_54 (by decide) g17 c18 ?_
            refine mw_iconst C dX7_takesAll_61 ?_
            cases hF
            exact mw_zret C dX7_takesAll_62 (Or.inl rfl) rfl rfl
          · refine mw_if_eq_f (tgt := 61) C dX7_takesAll_54 (by decide) g17 c18 ?_
            refine mw_iconst C dX7_takesAll_57 ?_
            refine mw_goto (tgt := 62) C dX7_takesAll_58 (by decide) ?_
            cases hF
            exact mw_zret C dX7_takesAll_62 (Or.inr rfl) rfl rfl
def F_X7_takesAll_0 (x1 : Int) (h : MH) : Option (Int × MH) :=
  nx (hup h 28 0 0) fun h1 =>
  nx (hup h1 27 3 0) fun h2 =>
  (F_X8_open x1 h2).bind fun q3 =>
  F_X7_takesAll_23 20000 0 q3
set_option maxRecDepth 100000 in
theorem T_X7_takesAll_0 {Z : ZT} (C : Cx Z cX7_takesAll 3 RX7 11 (some .boolean)) (x1 : Int) (h : MH) (t : (Int × MH)) (hF : F_X7_takesAll_0 x1 h = some t) : MW Z (Qm Z (some (iv t.1)) zN zG t.2 0 0) 3 zN zG h 0 0 0 [(0, rfv (xd (zX Z)) 27), (1, iv x1)] [] := by
  unfold F_X7_takesAll_0 at hF
  refine mw_aload_n 0 C dX7_takesAll_0 rfl rfl ?_
  refine mw_get (k := 1) (T := TX7) (v := rfv (xd (zX Z)) 28) C dX7_takesAll_1 zn27 zk27 (by decide) rfl inX7 (by decide) wd169 rfl (zfv_r rfl zg_27_1) ?_
  refine mw_iconst C dX7_takesAll_4 ?_
  obtain ⟨h1, eh1, hF⟩ := nx_some hF
  refine mw_put (k := 0) (T := TX6) (ty0 := tyX6) (x := 0) C dX7_takesAll_5 zn28 zk28 (by decide) rfl inX6 tyX6_ok nmX6 (by decide) wd153 rfl rfl rfl rfl rfl (by decide) (mw_h eh1 ?_)
  refine mw_aload_n 0 C dX7_takesAll_8 rfl rfl ?_
  refine mw_iconst C dX7_takesAll_9 ?_
  obtain ⟨h2, eh2, hF⟩ := nx_some hF
  refine mw_put (k := 3) (T := TX7) (ty0 := tyX7) (x := 0) C dX7_takesAll_10 zn27 zk27 (by decide) rfl inX7 tyX7_ok nmX7 (by decide) wd172 rfl rfl rfl rfl rfl (by decide) (mw_h eh2 ?_)
  refine mw_aload_n 0 C dX7_takesAll_13 rfl rfl ?_
  refine mw_get (k := 0) (T := TX7) (v := rfv (xd (zX Z)) 8) C dX7_takesAll_14 zn27 zk27 (by decide) rfl inX7 (by decide) wd168 rfl (zfv_r rfl zg_27_0) ?_
  refine mw_iload_n 1 C dX7_takesAll_17 rfl rfl ?_
  obtain ⟨q3, hq3, hF⟩ := bind_some hF
  refine mw_callV (c := 8) [iv x1] [] C dX7_takesAll_18 (T_X8_open (zl Z) (zX Z) x1 _ _ hq3) rfl zn8 zk8 (by decide) rfl wd506 wd352 wd353 wd2 wd354 hd_X8_open rfl (by decide) (by decide) (Nat.le_of_ble_eq_true rfl) ⟨Nat.zero_le _, Nat.zero_le _⟩ ?_
  refine mw_iconst C dX7_takesAll_21 ?_
  refine mw_istore_n [(2, iv 0), (0, rfv (xd (zX Z)) 27), (1, iv x1)] C dX7_takesAll_22 rfl (by decide) rfl ?_
  refine mw_sub [1, 0] rfl ?_
  exact T_X7_takesAll_23 C 20000 0 _ _ hF
def F_X7_takesAll (x1 : Int) (h : MH) : Option (Int × MH) := F_X7_takesAll_0 x1 h
theorem T_X7_takesAll (l : Launch) (X : XT) (x1 : Int) (h : MH) (t : (Int × MH)) (hF : F_X7_takesAll x1 h = some t) : Ct l X yX7_takesAll cX7_takesAll 3 (some .boolean) 11 [rfv (xd X) 27, iv x1] zN zG h (some (iv t.1)) zN zG t.2 0 0 := by
  refine Ct.head (by decide) (Nat.le_of_ble_eq_true rfl) (fun Z hX hl _ _ _ C => ?_)
  subst hX
  subst hl
  exact (T_X7_takesAll_0 C x1 _ _ hF)
/-! BottleLine$Trials.madeWith(LBottleLine$Floor;III)I -/
def F_X9_madeWith_0 (x1 : Nat) (x2 : Int) (x3 : Int) (x4 : Int) (h : MH) : Option (Int × MH) :=
  (F_X1_copy 57 x1 h).bind fun q1 =>
  ck (0 ≤ x2 ∧ x2 < 6) <|
  nx (hup q1 58 x2.toNat x3) fun h3 =>
  (F_X1_wouldMake 57 x4 h3).bind fun q4 =>
  some (q4.1, q4.2)
set_option maxRecDepth 100000 in
theorem T_X9_madeWith_0 {Z : ZT} (C : Cx Z cX9_madeWith 5 RX9 5 (some .int)) (x1 : Nat) (x2 : Int) (x3 : Int) (x4 : Int) (hk_x1 : okX1 x1) (h : MH) (t : (Int × MH)) (hF : F_X9_madeWith_0 x1 x2 x3 x4 h = some t) : MW Z (Qm Z (some (iv t.1)) zN zG t.2 0 0) 5 zN zG h 0 0 0 [(0, rfv (xd (zX Z)) 56), (1, rfv (xd (zX Z)) x1), (2, iv x2), (3, iv x3), (4, iv x4)] [] := by
  unfold F_X9_madeWith_0 at hF
  refine mw_aload_n 0 C dX9_madeWith_0 rfl rfl ?_
  refine mw_get (k := 0) (T := TX9) (v := rfv (xd (zX Z)) 57) C dX9_madeWith_1 zn56 zk56 (by decide) rfl inX9 (by decide) wd181 rfl (zfv_r rfl zg_56_0) ?_
  refine mw_aload_n 1 C dX9_madeWith_4 rfl rfl ?_
  obtain ⟨q1, hq1, hF⟩ := bind_some hF
  refine mw_callV (c := 57) [rfv (xd (zX Z)) x1] [] C dX9_madeWith_5 (T_X1_copy (zl Z) (zX Z) 57 x1 ok_57 hk_x1 _ _ hq1) rfl zn57 zk57 (by decide) rfl wd653 wd489 wd490 wd5 wd491 hd_X1_copy rfl (by decide) (by decide) (Nat.le_of_ble_eq_true rfl) ⟨Nat.zero_le _, Nat.zero_le _⟩ ?_
  refine mw_aload_n 0 C dX9_madeWith_8 rfl rfl ?_
  refine mw_get (k := 0) (T := TX9) (v := rfv (xd (zX Z)) 57) C dX9_madeWith_9 zn56 zk56 (by decide) rfl inX9 (by decide) wd181 rfl (zfv_r rfl zg_56_0) ?_
  refine mw_get (k := 1) (T := TX1) (v := rfv (xd (zX Z)) 58) C dX9_madeWith_12 zn57 zk57 (by decide) rfl inX1 (by decide) wd83 rfl (zfv_r rfl zg_57_1) ?_
  refine mw_iload_n 2 C dX9_madeWith_15 rfl rfl ?_
  refine mw_iload_n 3 C dX9_madeWith_16 rfl rfl ?_
  obtain ⟨g2, hF⟩ := ck_some hF
  obtain ⟨h3, eh3, hF⟩ := nx_some hF
  refine mw_iast C dX9_madeWith_17 zn58 zk58 (by decide) g2 (mw_h eh3 ?_)
  refine mw_aload_n 0 C dX9_madeWith_18 rfl rfl ?_
  refine mw_get (k := 0) (T := TX9) (v := rfv (xd (zX Z)) 57) C dX9_madeWith_19 zn56 zk56 (by decide) rfl inX9 (by decide) wd181 rfl (zfv_r rfl zg_56_0) ?_
  refine mw_iload 4 C dX9_madeWith_22 rfl ?_
  obtain ⟨q4, hq4, hF⟩ := bind_some hF
  refine mw_callV (c := 57) [iv x4] [] C dX9_madeWith_24 (T_X1_wouldMake (zl Z) (zX Z) 57 x4 ok_57 _ _ hq4) rfl zn57 zk57 (by decide) rfl wd654 wd655 wd656 wd5 wd657 hd_X1_wouldMake rfl (by decide) (by decide) (Nat.le_of_ble_eq_true rfl) ⟨Nat.zero_le _, Nat.zero_le _⟩ ?_
  cases hF
  exact mw_iret C dX9_madeWith_27 rfl rfl
def F_X9_madeWith (x1 : Nat) (x2 : Int) (x3 : Int) (x4 : Int) (h : MH) : Option (Int × MH) := F_X9_madeWith_0 x1 x2 x3 x4 h
theorem T_X9_madeWith (l : Launch) (X : XT) (x1 : Nat) (x2 : Int) (x3 : Int) (x4 : Int) (hk_x1 : okX1 x1) (h : MH) (t : (Int × MH)) (hF : F_X9_madeWith x1 x2 x3 x4 h = some t) : Ct l X yX9_madeWith cX9_madeWith 5 (some .int) 5 [rfv (xd X) 56, rfv (xd X) x1, iv x2, iv x3, iv x4] zN zG h (some (iv t.1)) zN zG t.2 0 0 := by
  refine Ct.head (by decide) (Nat.le_of_ble_eq_true rfl) (fun Z hX hl _ _ _ C => ?_)
  subst hX
  subst hl
  exact (T_X9_madeWith_0 C x1 x2 x3 x4 hk_x1 _ _ hF)
/-! BottleLine$Trials.faster(II)I -/
def F_X9_faster_0 (x0 : Int) (x1 : Int) (h : MH) : Option (Int × MH) :=
  ck (in32 (x0 + x1)) <|
  some ((min 99 (x0 + x1)), h)
set_option maxRecDepth 100000 in
theorem T_X9_faster_0 {Z : ZT} (C : Cx Z cX9_faster 2 RX9 1 (some .int)) (x0 : Int) (x1 : Int) (h : MH) (t : (Int × MH)) (hF : F_X9_faster_0 x0 x1 h = some t) : MW Z (Qm Z (some (iv t.1)) zN zG t.2 0 0) 2 zN zG h 0 0 0 [(0, iv x0), (1, iv x1)] [] := by
  unfold F_X9_faster_0 at hF
  refine mw_bipush C dX9_faster_0 bp_99 ?_
  refine mw_iload_n 0 C dX9_faster_2 rfl rfl ?_
  refine mw_iload_n 1 C dX9_faster_3 rfl rfl ?_
  refine mw_iadd C dX9_faster_4 ?_
  obtain ⟨g1, hF⟩ := ck_some hF
  refine mw_mmin C dX9_faster_5 wd671 wd356 wd16 wd357 (by decide) (Nat.le_of_ble_eq_true rfl) ⟨Nat.zero_le _, Nat.zero_le _⟩ (by decide) g1 ?_
  cases hF
  exact mw_iret C dX9_faster_8 rfl rfl
def F_X9_faster (x0 : Int) (x1 : Int) (h : MH) : Option (Int × MH) := F_X9_faster_0 x0 x1 h
theorem T_X9_faster (l : Launch) (X : XT) (x0 : Int) (x1 : Int) (h : MH) (t : (Int × MH)) (hF : F_X9_faster x0 x1 h = some t) : Ct l X yX9_faster cX9_faster 2 (some .int) 1 [iv x0, iv x1] zN zG h (some (iv t.1)) zN zG t.2 0 0 := by
  refine Ct.head (by decide) (Nat.le_of_ble_eq_true rfl) (fun Z hX hl _ _ _ C => ?_)
  subst hX
  subst hl
  exact (T_X9_faster_0 C x0 x1 _ _ hF)
/-! BottleLine$Trials.findHolder(LBottleLine$Floor;II)I -/
def F_X9_findHolder_69 (k24 : Nat → Int → Int → Int → Int → Int → Int → MH → Option (Int × MH)) (x1 : Nat) (x2 : Int) (x3 : Int) (x4 : Int) (x5 : Int) (x6 : Int) (x7 : Int) (h : MH) : Option (Int × MH) :=
  k24 x1 x2 x3 x4 x5 x6 (x7 + 1) h
set_option maxRecDepth 100000 in
theorem T_X9_findHolder_69 {Z : ZT} (C : Cx Z cX9_findHolder 9 RX9 6 (some .int)) (k24 : Nat → Int → Int → Int → Int → Int → Int → MH → Option (Int × MH)) (hk24 : ∀ (x1 : Nat) (x2 : Int) (x3 : Int) (x4 : Int) (x5 : Int) (x6 : Int) (x7 : Int) (hk_x1 : okX1 x1) (h : MH) (t : (Int × MH)), k24 x1 x2 x3 x4 x5 x6 x7 h = some t → MW Z (Qm Z (some (iv t.1)) zN zG t.2 0 0) 9 zN zG h 0 0 24 [(0, rfv (xd (zX Z)) 56), (1, rfv (xd (zX Z)) x1), (2, iv x2), (3, iv x3), (4, iv x4), (5, iv x5), (6, iv x6), (7, iv x7)] []) (x1 : Nat) (x2 : Int) (x3 : Int) (x4 : Int) (x5 : Int) (x6 : Int) (x7 : Int) (hk_x1 : okX1 x1) (h : MH) (t : (Int × MH)) (hF : F_X9_findHolder_69 k24 x1 x2 x3 x4 x5 x6 x7 h = some t) : MW Z (Qm Z (some (iv t.1)) zN zG t.2 0 0) 9 zN zG h 0 0 69 [(0, rfv (xd (zX Z)) 56), (1, rfv (xd (zX Z)) x1), (2, iv x2), (3, iv x3), (4, iv x4), (5, iv x5), (6, iv x6), (7, iv x7)] [] := by
  unfold F_X9_findHolder_69 at hF
  refine mw_iinc 7 [(7, iv (x7 + 1)), (0, rfv (xd (zX Z)) 56), (1, rfv (xd (zX Z)) x1), (2, iv x2), (3, iv x3), (4, iv x4), (5, iv x5), (6, iv x6)] C dX9_findHolder_69 rfl (by decide) rfl ?_
  refine mw_goto (tgt := 24) C dX9_findHolder_72 (by decide) ?_
  refine mw_sub [1, 2, 3, 4, 5, 6, 7, 0] rfl ?_
  exact hk24 x1 x2 x3 x4 x5 x6 (x7 + 1) hk_x1 _ _ hF
def F_X9_findHolder_24 : Nat → Nat → Int → Int → Int → Int → Int → Int → MH → Option (Int × MH)
  | 0, _, _, _, _, _, _, _, _ => none
  | n + 1, x1, x2, x3, x4, x5, x6, x7, h =>
    ck (in32 x7) <|
    ck (in32 (h x1 0)) <|
    if (h x1 0) ≤ x7 then
      nx (hup h 56 1 1) fun h4 =>
      nx (hup h4 56 2 (x6 - x4)) fun h5 =>
      some (x5, h5)
    else
      ck (0 ≤ x7 ∧ x7 < 6) <|
      (F_X9_faster (h (x1 + 1) x7.toNat) x2 h).bind fun q7 =>
      (F_X9_madeWith x1 x7 q7.1 x3 q7.2).bind fun q8 =>
      ck (in32 q8.1) <|
      ck (in32 x6) <|
      if q8.1 ≤ x6 then
        F_X9_findHolder_69 (F_X9_findHolder_24 n) x1 x2 x3 x4 x5 x6 x7 q8.2
      else
        F_X9_findHolder_69 (F_X9_findHolder_24 n) x1 x2 x3 x4 x7 q8.1 x7 q8.2
set_option maxRecDepth 100000 in
theorem T_X9_findHolder_24 {Z : ZT} (C : Cx Z cX9_findHolder 9 RX9 6 (some .int)) : ∀ (n : Nat) (x1 : Nat) (x2 : Int) (x3 : Int) (x4 : Int) (x5 : Int) (x6 : Int) (x7 : Int) (hk_x1 : okX1 x1) (h : MH) (t : (Int × MH)), F_X9_findHolder_24 n x1 x2 x3 x4 x5 x6 x7 h = some t → MW Z (Qm Z (some (iv t.1)) zN zG t.2 0 0) 9 zN zG h 0 0 24 [(0, rfv (xd (zX Z)) 56), (1, rfv (xd (zX Z)) x1), (2, iv x2), (3, iv x3), (4, iv x4), (5, iv x5), (6, iv x6), (7, iv x7)] [] := by
  intro n
  induction n with
  | zero =>
    intros
    rename_i hF
    exact absurd hF (by intro q; cases q)
  | succ n ih =>
    intro x1 x2 x3 x4 x5 x6 x7 hk_x1 h t hF
    rw [F_X9_findHolder_24] at hF
    refine mw_iload 7 C dX9_findHolder_24 rfl ?_
    refine mw_aload_n 1 C dX9_findHolder_26 rfl rfl ?_
    refine mw_get (k := 0) (T := TX1) (v := iv (h x1 0)) C dX9_findHolder_27 (okX1_n _ hk_x1) (okX1_k _ hk_x1) (by decide) rfl inX1 (by decide) wd79 rfl rfl ?_
    obtain ⟨g1, hF⟩ := ck_some hF
    obtain ⟨g2, hF⟩ := ck_some hF
    rcases ite_some hF with ⟨c3, hF⟩ | ⟨c3, hF⟩
    · refine mw_icmp_ge_t (tgt := 75) C dX9_findHolder_30 (by decide) g1 g2 c3 ?_
      refine mw_aload_n 0 C dX9_findHolder_75 rfl rfl ?_
      refine mw_iconst C dX9_findHolder_76 ?_
      obtain ⟨h4, eh4, hF⟩ := nx_some hF
      refine mw_put (k := 1) (T := TX9) (ty0 := tyX9) (x := 1) C dX9_findHolder_77 zn56 zk56 (by decide) rfl inX9 tyX9_ok nmX9 (by decide) wd182 rfl rfl (nz_n (Or.inr rfl)) (nz_f (Or.inr rfl)) rfl (by decide) (mw_h eh4 ?_)
      refine mw_aload_n 0 C dX9_findHolder_80 rfl rfl ?_
      refine mw_iload 6 C dX9_findHolder_81 rfl ?_
      refine mw_iload 4 C dX9_findHolder_83 rfl ?_
      refine mw_isub C dX9_findHolder_85 ?_
      obtain ⟨h5, eh5, hF⟩ := nx_some hF
      refine mw_put (k := 2) (T := TX9) (ty0 := tyX9) (x := (x6 - x4)) C dX9_findHolder_86 zn56 zk56 (by decide) rfl inX9 tyX9_ok nmX9 (by decide) wd184 rfl rfl rfl rfl rfl (by decide) (mw_h eh5 ?_)
      refine mw_iload 5 C dX9_findHolder_89 rfl ?_
      cases hF
      exact mw_iret C dX9_findHolder_91 rfl rfl
    · refine mw_icmp_ge_f (tgt := 75) C dX9_findHolder_30 (by decide) g1 g2 c3 ?_
      refine mw_aload_n 0 C dX9_findHolder_33 rfl rfl ?_
      refine mw_aload_n 1 C dX9_findHolder_34 rfl rfl ?_
      refine mw_iload 7 C dX9_findHolder_35 rfl ?_
      refine mw_aload_n 1 C dX9_findHolder_37 rfl rfl ?_
      refine mw_get (k := 1) (T := TX1) (v := rfv (xd (zX Z)) (x1 + 1)) C dX9_findHolder_38 (okX1_n _ hk_x1) (okX1_k _ hk_x1) (by decide) rfl inX1 (by decide) wd83 rfl (zfv_r rfl (okX1_g1 _ hk_x1)) ?_
      refine mw_iload 7 C dX9_findHolder_41 rfl ?_
      obtain ⟨g6, hF⟩ := ck_some hF
      refine mw_iald C dX9_findHolder_43 (okX1_f1 _ hk_x1).2.1 (okX1_f1 _ hk_x1).1 (okX1_f1 _ hk_x1).2.2 g6 ?_
      refine mw_iload_n 2 C dX9_findHolder_44 rfl rfl ?_
      obtain ⟨q7, hq7, hF⟩ := bind_some hF
      refine mw_callS [iv (h (x1 + 1) x7.toNat), iv x2] [iv x7, rfv (xd (zX Z)) x1, rfv (xd (zX Z)) 56] C dX9_findHolder_45 (T_X9_faster (zl Z) (zX Z) (h (x1 + 1) x7.toNat) x2 _ _ hq7) rfl wd668 wd669 wd8 wd670 hd_X9_faster rfl (by decide) (by decide) (Nat.le_of_ble_eq_true rfl) ⟨Nat.zero_le _, Nat.zero_le _⟩ ?_
      refine mw_iload_n 3 C dX9_findHolder_48 rfl rfl ?_
      obtain ⟨q8, hq8, hF⟩ := bind_some hF
      refine mw_callV (c := 56) [rfv (xd (zX Z)) x1, iv x7, iv q7.1, iv x3] [] C dX9_findHolder_49 (T_X9_madeWith (zl Z) (zX Z) x1 x7 q7.1 x3 hk_x1 _ _ hq8) rfl zn56 zk56 (by decide) rfl wd667 wd650 wd651 wd8 wd652 hd_X9_madeWith rfl (by decide) (by decide) (Nat.le_of_ble_eq_true rfl) ⟨Nat.zero_le _, Nat.zero_le _⟩ ?_
      refine mw_istore [(8, iv q8.1), (0, rfv (xd (zX Z)) 56), (1, rfv (xd (zX Z)) x1), (2, iv x2), (3, iv x3), (4, iv x4), (5, iv x5), (6, iv x6), (7, iv x7)] C dX9_findHolder_52 (by decide) rfl ?_
      refine mw_iload 0 C dX9_findHolder_54 rfl ?_
      refine mw_iload 7 C dX9_findHolder_56 rfl ?_
      obtain ⟨g9, hF⟩ := ck_some hF
      obtain ⟨g10, hF⟩ := ck_some hF
      rcases ite_some hF with ⟨c11, hF⟩ | ⟨c11, hF⟩
      · refine mw_icmp_le_t (tgt := 69) C dX9_findHolder_58 (by decide) g9 g10 c11 ?_
        refine mw_sub [1, 2, 3, 4, 5, 6, 7, 8] rfl ?_
        exact T_X9_findHolder_69 C (F_X9_findHolder_24 n) ih x1 x2 x3 x4 x5 x6 x7 hk_x1 _ _ hF
      · refine mw_icmp_le_f (tgt := 69) C dX9_findHolder_58 (by decide) g9 g10 c11 ?_
        refine mw_iload 8 C dX9_findHolder_61 rfl ?_
        refine mw_istore [(5, iv x7), (8, iv q8.1), (0, rfv (xd (zX Z)) 56), (1, rfv (xd (zX Z)) x1), (2, iv x2), (3, iv x3), (4, iv x4), (6, iv x6), (7, iv x7)] C dX9_findHolder_63 (by decide) rfl ?_
        refine mw_iload 1 C dX9_findHolder_65 rfl ?_
        refine mw_istore [(6, iv q8.1), (5, iv x7), (8, iv q8.1), (0, rfv (xd (zX Z)) 56), (1, rfv (xd (zX Z)) x1), (2, iv x2), (3, iv x3), (4, iv x4), (7, iv x7)] C dX9_findHolder_67 (by decide) rfl ?_
        refine mw_sub [3, 4, 5, 6, 7, 1, 0, 8] rfl ?_
        exact T_X9_findHolder_69 C (F_X9_findHolder_24 n) ih x1 x2 x3 x4 x7 q8.1 x7 hk_x1 _ _ hF
def F_X9_findHolder_0 (x1 : Nat) (x2 : Int) (x3 : Int) (h : MH) : Option (Int × MH) :=
  (F_X9_madeWith x1 0 (h (x1 + 1) 0) x3 h).bind fun q1 =>
  F_X9_findHolder_24 20000 x1 x2 x3 q1.1 0 (-1) 0 q1.2
set_option maxRecDepth 100000 in
theorem T_X9_findHolder_0 {Z : ZT} (C : Cx Z cX9_findHolder 9 RX9 6 (some .int)) (x1 : Nat) (x2 : Int) (x3 : Int) (hk_x1 : okX1 x1) (h : MH) (t : (Int × MH)) (hF : F_X9_findHolder_0 x1 x2 x3 h = some t) : MW Z (Qm Z (some (iv t.1)) zN zG t.2 0 0) 9 zN zG h 0 0 0 [(0, rfv (xd (zX Z)) 56), (1, rfv (xd (zX Z)) x1), (2, iv x2), (3, iv x3)] [] := by
  unfold F_X9_findHolder_0 at hF
  refine mw_aload_n 0 C dX9_findHolder_0 rfl rfl ?_
  refine mw_aload_n 1 C dX9_findHolder_1 rfl rfl ?_
  refine mw_iconst C dX9_findHolder_2 ?_
  refine mw_aload_n 1 C dX9_findHolder_3 rfl rfl ?_
  refine mw_get (k := 1) (T := TX1) (v := rfv (xd (zX Z)) (x1 + 1)) C dX9_findHolder_4 (okX1_n _ hk_x1) (okX1_k _ hk_x1) (by decide) rfl inX1 (by decide) wd83 rfl (zfv_r rfl (okX1_g1 _ hk_x1)) ?_
  refine mw_iconst C dX9_findHolder_7 ?_
  refine mw_iald C dX9_findHolder_8 (okX1_f1 _ hk_x1).2.1 (okX1_f1 _ hk_x1).1 (okX1_f1 _ hk_x1).2.2 (by decide) ?_
  refine mw_iload_n 3 C dX9_findHolder_9 rfl rfl ?_
  obtain ⟨q1, hq1, hF⟩ := bind_some hF
  refine mw_callV (c := 56) [rfv (xd (zX Z)) x1, iv 0, iv (h (x1 + 1) 0), iv x3] [] C dX9_findHolder_10 (T_X9_madeWith (zl Z) (zX Z) x1 0 (h (x1 + 1) 0) x3 hk_x1 _ _ hq1) rfl zn56 zk56 (by decide) rfl wd667 wd650 wd651 wd8 wd652 hd_X9_madeWith rfl (by decide) (by decide) (Nat.le_of_ble_eq_true rfl) ⟨Nat.zero_le _, Nat.zero_le _⟩ ?_
  refine mw_istore [(4, iv q1.1), (0, rfv (xd (zX Z)) 56), (1, rfv (xd (zX Z)) x1), (2, iv x2), (3, iv x3)] C dX9_findHolder_13 (by decide) rfl ?_
  refine mw_iconst C dX9_findHolder_15 ?_
  refine mw_istore [(5, iv 0), (4, iv q1.1), (0, rfv (xd (zX Z)) 56), (1, rfv (xd (zX Z)) x1), (2, iv x2), (3, iv x3)] C dX9_findHolder_16 (by decide) rfl ?_
  refine mw_iconst C dX9_findHolder_18 ?_
  refine mw_istore [(6, iv (-1)), (5, iv 0), (4, iv q1.1), (0, rfv (xd (zX Z)) 56), (1, rfv (xd (zX Z)) x1), (2, iv x2), (3, iv x3)] C dX9_findHolder_19 (by decide) rfl ?_
  refine mw_iconst C dX9_findHolder_21 ?_
  refine mw_istore [(7, iv 0), (6, iv (-1)), (5, iv 0), (4, iv q1.1), (0, rfv (xd (zX Z)) 56), (1, rfv (xd (zX Z)) x1), (2, iv x2), (3, iv x3)] C dX9_findHolder_22 (by decide) rfl ?_
  refine mw_sub [4, 5, 6, 7, 3, 2, 1, 0] rfl ?_
  exact T_X9_findHolder_24 C 20000 x1 x2 x3 q1.1 0 (-1) 0 hk_x1 _ _ hF
def F_X9_findHolder (x1 : Nat) (x2 : Int) (x3 : Int) (h : MH) : Option (Int × MH) := F_X9_findHolder_0 x1 x2 x3 h
theorem T_X9_findHolder (l : Launch) (X : XT) (x1 : Nat) (x2 : Int) (x3 : Int) (hk_x1 : okX1 x1) (h : MH) (t : (Int × MH)) (hF : F_X9_findHolder x1 x2 x3 h = some t) : Ct l X yX9_findHolder cX9_findHolder 9 (some .int) 6 [rfv (xd X) 56, rfv (xd X) x1, iv x2, iv x3] zN zG h (some (iv t.1)) zN zG t.2 0 0 := by
  refine Ct.head (by decide) (Nat.le_of_ble_eq_true rfl) (fun Z hX hl _ _ _ C => ?_)
  subst hX
  subst hl
  exact (T_X9_findHolder_0 C x1 x2 x3 hk_x1 _ _ hF)
/-! BottleLine$Trials.waitsWith(LBottleLine$Floor;III)I -/
def F_X9_waitsWith_112 (k69 : Int → Int → Int → Int → MH → Option (Int × MH)) (x2 : Int) (x4 : Int) (x5 : Int) (x6 : Int) (h : MH) : Option (Int × MH) :=
  k69 x2 x4 x5 (x6 + 1) h
set_option maxRecDepth 100000 in
theorem T_X9_waitsWith_112 {Z : ZT} (C : Cx Z cX9_waitsWith 7 RX9 4 (some .int)) (k69 : Int → Int → Int → Int → MH → Option (Int × MH)) (hk69 : ∀ (x2 : Int) (x4 : Int) (x5 : Int) (x6 : Int) (h : MH) (t : (Int × MH)), k69 x2 x4 x5 x6 h = some t → MW Z (Qm Z (some (iv t.1)) zN zG t.2 0 0) 7 zN zG h 0 0 69 [(0, rfv (xd (zX Z)) 56), (2, iv x2), (4, iv x4), (5, iv x5), (6, iv x6)] []) (x2 : Int) (x4 : Int) (x5 : Int) (x6 : Int) (h : MH) (t : (Int × MH)) (hF : F_X9_waitsWith_112 k69 x2 x4 x5 x6 h = some t) : MW Z (Qm Z (some (iv t.1)) zN zG t.2 0 0) 7 zN zG h 0 0 112 [(0, rfv (xd (zX Z)) 56), (2, iv x2), (4, iv x4), (5, iv x5), (6, iv x6)] [] := by
  unfold F_X9_waitsWith_112 at hF
  refine mw_iinc 4 [(6, iv (x6 + 1)), (0, rfv (xd (zX Z)) 56), (2, iv x2), (4, iv x4), (5, iv x5)] C dX9_waitsWith_112 rfl (by decide) rfl ?_
  refine mw_goto (tgt := 69) C dX9_waitsWith_115 (by decide) ?_
  refine mw_sub [1, 2, 3, 4, 0] rfl ?_
  exact hk69 x2 x4 x5 (x6 + 1) _ _ hF
def F_X9_waitsWith_109 (k69 : Int → Int → Int → Int → MH → Option (Int × MH)) (x2 : Int) (x4 : Int) (x5 : Int) (x6 : Int) (h : MH) : Option (Int × MH) :=
  F_X9_waitsWith_112 k69 x2 x4 (x5 + 1) x6 h
set_option maxRecDepth 100000 in
theorem T_X9_waitsWith_109 {Z : ZT} (C : Cx Z cX9_waitsWith 7 RX9 4 (some .int)) (k69 : Int → Int → Int → Int → MH → Option (Int × MH)) (hk69 : ∀ (x2 : Int) (x4 : Int) (x5 : Int) (x6 : Int) (h : MH) (t : (Int × MH)), k69 x2 x4 x5 x6 h = some t → MW Z (Qm Z (some (iv t.1)) zN zG t.2 0 0) 7 zN zG h 0 0 69 [(0, rfv (xd (zX Z)) 56), (2, iv x2), (4, iv x4), (5, iv x5), (6, iv x6)] []) (x2 : Int) (x4 : Int) (x5 : Int) (x6 : Int) (h : MH) (t : (Int × MH)) (hF : F_X9_waitsWith_109 k69 x2 x4 x5 x6 h = some t) : MW Z (Qm Z (some (iv t.1)) zN zG t.2 0 0) 7 zN zG h 0 0 109 [(0, rfv (xd (zX Z)) 56), (2, iv x2), (4, iv x4), (5, iv x5), (6, iv x6)] [] := by
  unfold F_X9_waitsWith_109 at hF
  refine mw_iinc 3 [(5, iv (x5 + 1)), (0, rfv (xd (zX Z)) 56), (2, iv x2), (4, iv x4), (6, iv x6)] C dX9_waitsWith_109 rfl (by decide) rfl ?_
  refine mw_sub [1, 2, 3, 0, 4] rfl ?_
  exact T_X9_waitsWith_112 C k69 hk69 x2 x4 (x5 + 1) x6 _ _ hF
def F_X9_waitsWith_69 : Nat → Int → Int → Int → Int → MH → Option (Int × MH)
  | 0, _, _, _, _, _ => none
  | n + 1, x2, x4, x5, x6, h =>
    ck (in32 x6) <|
    ck (in32 x4) <|
    if x4 ≤ x6 then
      some (x5, h)
    else
      (F_X1_goOn 57 h).bind fun q4 =>
      ck (0 ≤ x2 ∧ x2 < 6) <|
      ck (in32 (q4 63 x2.toNat)) <|
      if (q4 63 x2.toNat) = 1 then
        F_X9_waitsWith_109 (F_X9_waitsWith_69 n) x2 x4 x5 x6 q4
      else
        if (q4 63 x2.toNat) ≠ 2 then
          F_X9_waitsWith_112 (F_X9_waitsWith_69 n) x2 x4 x5 x6 q4
        else
          F_X9_waitsWith_109 (F_X9_waitsWith_69 n) x2 x4 x5 x6 q4
set_option maxRecDepth 100000 in
theorem T_X9_waitsWith_69 {Z : ZT} (C : Cx Z cX9_waitsWith 7 RX9 4 (some .int)) : ∀ (n : Nat) (x2 : Int) (x4 : Int) (x5 : Int) (x6 : Int) (h : MH) (t : (Int × MH)), F_X9_waitsWith_69 n x2 x4 x5 x6 h = some t → MW Z (Qm Z (some (iv t.1)) zN zG t.2 0 0) 7 zN zG h 0 0 69 [(0, rfv (xd (zX Z)) 56), (2, iv x2), (4, iv x4), (5, iv x5), (6, iv x6)] [] := by
  intro n
  induction n with
  | zero =>
    intros
    rename_i hF
    exact absurd hF (by intro q; cases q)
  | succ n ih =>
    intro x2 x4 x5 x6 h t hF
    rw [F_X9_waitsWith_69] at hF
    refine mw_iload 4 C dX9_waitsWith_69 rfl ?_
    refine mw_iload 2 C dX9_waitsWith_71 rfl ?_
    obtain ⟨g1, hF⟩ := ck_some hF
    obtain ⟨g2, hF⟩ := ck_some hF
    rcases ite_some hF with ⟨c3, hF⟩ | ⟨c3, hF⟩
    · refine mw_icmp_ge_t (tgt := 118) C dX9_waitsWith_73 (by decide) g1 g2 c3 ?_
      refine mw_iload 3 C dX9_waitsWith_118 rfl ?_
      cases hF
      exact mw_iret C dX9_waitsWith_120 rfl rfl
    · refine mw_icmp_ge_f (tgt := 118) C dX9_waitsWith_73 (by decide) g1 g2 c3 ?_
      refine mw_aload_n 0 C dX9_waitsWith_76 rfl rfl ?_
      refine mw_get (k := 0) (T := TX9) (v := rfv (xd (zX Z)) 57) C dX9_waitsWith_77 zn56 zk56 (by decide) rfl inX9 (by decide) wd181 rfl (zfv_r rfl zg_56_0) ?_
      obtain ⟨q4, hq4, hF⟩ := bind_some hF
      refine mw_callV (c := 57) [] [] C dX9_waitsWith_80 (T_X1_goOn (zl Z) (zX Z) 57 ok_57 _ _ hq4) rfl zn57 zk57 (by decide) rfl wd707 wd602 wd603 wd5 wd604 hd_X1_goOn rfl (by decide) (by decide) (Nat.le_of_ble_eq_true rfl) ⟨Nat.zero_le _, Nat.zero_le _⟩ ?_
      refine mw_aload_n 0 C dX9_waitsWith_83 rfl rfl ?_
      refine mw_get (k := 0) (T := TX9) (v := rfv (xd (zX Z)) 57) C dX9_waitsWith_84 zn56 zk56 (by decide) rfl inX9 (by decide) wd181 rfl (zfv_r rfl zg_56_0) ?_
      refine mw_get (k := 9) (T := TX1) (v := rfv (xd (zX Z)) 63) C dX9_waitsWith_87 zn57 zk57 (by decide) rfl inX1 (by decide) wd106 rfl (zfv_r rfl zg_57_9) ?_
      refine mw_iload_n 1 C dX9_waitsWith_90 rfl rfl ?_
      obtain ⟨g5, hF⟩ := ck_some hF
      refine mw_iald C dX9_waitsWith_91 zn63 zk63 (by decide) g5 ?_
      refine mw_iconst C dX9_waitsWith_92 ?_
      obtain ⟨g6, hF⟩ := ck_some hF
      rcases ite_some hF with ⟨c7, hF⟩ | ⟨c7, hF⟩
      · refine mw_icmp_eq_t (tgt := 109) C dX9_waitsWith_93 (by decide) g6 (by decide) c7 ?_
        exact T_X9_waitsWith_109 C (F_X9_waitsWith_69 n) ih x2 x4 x5 x6 _ _ hF
      · refine mw_icmp_eq_f (tgt := 109) C dX9_waitsWith_93 (by decide) g6 (by decide) c7 ?_
        refine mw_aload_n 0 C dX9_waitsWith_96 rfl rfl ?_
        refine mw_get (k := 0) (T := TX9) (v := rfv (xd (zX Z)) 57) C dX9_waitsWith_97 zn56 zk56 (by decide) rfl inX9 (by decide) wd181 rfl (zfv_r rfl zg_56_0) ?_
        refine mw_get (k := 9) (T := TX1) (v := rfv (xd (zX Z)) 63) C dX9_waitsWith_100 zn57 zk57 (by decide) rfl inX1 (by decide) wd106 rfl (zfv_r rfl zg_57_9) ?_
        refine mw_iload_n 1 C dX9_waitsWith_103 rfl rfl ?_
        refine mw_iald C dX9_waitsWith_104 zn63 zk63 (by decide) g5 ?_
        refine mw_iconst C dX9_waitsWith_105 ?_
        rcases ite_some hF with ⟨c8, hF⟩ | ⟨c8, hF⟩
        · refine mw_icmp_ne_t (tgt := 112) C dX9_waitsWith_106 (by decide) g6 (by decide) c8 ?_
          exact T_X9_waitsWith_112 C (F_X9_waitsWith_69 n) ih x2 x4 x5 x6 _ _ hF
        · refine mw_icmp_ne_f (tgt := 112) C dX9_waitsWith_106 (by decide) g6 (by decide) c8 ?_
          exact T_X9_waitsWith_109 C (F_X9_waitsWith_69 n) ih x2 x4 x5 x6 _ _ hF
def F_X9_waitsWith_56 (k11 : Nat → Int → Int → Int → Int → MH → Option (Int × MH)) (x1 : Nat) (x2 : Int) (x3 : Int) (x4 : Int) (x5 : Int) (s0 : Nat) (s1 : Int) (s2 : Int) (h : MH) : Option (Int × MH) :=
  ck (0 ≤ s1 ∧ s1 < 6) <|
  nx (hup h s0 s1.toNat s2) fun h2 =>
  k11 x1 x2 x3 x4 (x5 + 1) h2
set_option maxRecDepth 100000 in
theorem T_X9_waitsWith_56 {Z : ZT} (C : Cx Z cX9_waitsWith 7 RX9 4 (some .int)) (k11 : Nat → Int → Int → Int → Int → MH → Option (Int × MH)) (hk11 : ∀ (x1 : Nat) (x2 : Int) (x3 : Int) (x4 : Int) (x5 : Int) (hk_x1 : okX1 x1) (h : MH) (t : (Int × MH)), k11 x1 x2 x3 x4 x5 h = some t → MW Z (Qm Z (some (iv t.1)) zN zG t.2 0 0) 7 zN zG h 0 0 11 [(0, rfv (xd (zX Z)) 56), (1, rfv (xd (zX Z)) x1), (2, iv x2), (3, iv x3), (4, iv x4), (5, iv x5)] []) (x1 : Nat) (x2 : Int) (x3 : Int) (x4 : Int) (x5 : Int) (s0 : Nat) (s1 : Int) (s2 : Int) (hk_x1 : okX1 x1) (hk_s0 : zK s0 = (21, 6) ∧ s0 < zN ∧ 6 < 2147483648) (h : MH) (t : (Int × MH)) (hF : F_X9_waitsWith_56 k11 x1 x2 x3 x4 x5 s0 s1 s2 h = some t) : MW Z (Qm Z (some (iv t.1)) zN zG t.2 0 0) 7 zN zG h 0 0 56 [(0, rfv (xd (zX Z)) 56), (1, rfv (xd (zX Z)) x1), (2, iv x2), (3, iv x3), (4, iv x4), (5, iv x5)] [iv s2, iv s1, rfv (xd (zX Z)) s0] := by
  unfold F_X9_waitsWith_56 at hF
  obtain ⟨g1, hF⟩ := ck_some hF
  obtain ⟨h2, eh2, hF⟩ := nx_some hF
  refine mw_iast C dX9_waitsWith_56 hk_s0.2.1 hk_s0.1 hk_s0.2.2 g1 (mw_h eh2 ?_)
  refine mw_iinc 5 [(5, iv (x5 + 1)), (0, rfv (xd (zX Z)) 56), (1, rfv (xd (zX Z)) x1), (2, iv x2), (3, iv x3), (4, iv x4)] C dX9_waitsWith_57 rfl (by decide) rfl ?_
  refine mw_goto (tgt := 11) C dX9_waitsWith_60 (by decide) ?_
  refine mw_sub [1, 2, 3, 4, 5, 0] rfl ?_
  exact hk11 x1 x2 x3 x4 (x5 + 1) hk_x1 _ _ hF
def F_X9_waitsWith_11 : Nat → Nat → Int → Int → Int → Int → MH → Option (Int × MH)
  | 0, _, _, _, _, _, _ => none
  | n + 1, x1, x2, x3, x4, x5, h =>
    ck (in32 x5) <|
    ck (in32 (h x1 0)) <|
    if (h x1 0) ≤ x5 then
      F_X9_waitsWith_69 20000 x2 x4 0 0 h
    else
      ck (in32 x2) <|
      if x5 ≠ x2 then
        ck (0 ≤ x5 ∧ x5 < 6) <|
        (F_X9_faster (h (x1 + 1) x5.toNat) x3 h).bind fun q7 =>
        F_X9_waitsWith_56 (F_X9_waitsWith_11 n) x1 x2 x3 x4 x5 58 x5 q7.1 q7.2
      else
        ck (0 ≤ x5 ∧ x5 < 6) <|
        F_X9_waitsWith_56 (F_X9_waitsWith_11 n) x1 x2 x3 x4 x5 58 x5 (h (x1 + 1) x5.toNat) h
set_option maxRecDepth 100000 in
theorem T_X9_waitsWith_11 {Z : ZT} (C : Cx Z cX9_waitsWith 7 RX9 4 (some .int)) : ∀ (n : Nat) (x1 : Nat) (x2 : Int) (x3 : Int) (x4 : Int) (x5 : Int) (hk_x1 : okX1 x1) (h : MH) (t : (Int × MH)), F_X9_waitsWith_11 n x1 x2 x3 x4 x5 h = some t → MW Z (Qm Z (some (iv t.1)) zN zG t.2 0 0) 7 zN zG h 0 0 11 [(0, rfv (xd (zX Z)) 56), (1, rfv (xd (zX Z)) x1), (2, iv x2), (3, iv x3), (4, iv x4), (5, iv x5)] [] := by
  intro n
  induction n with
  | zero =>
    intros
    rename_i hF
    exact absurd hF (by intro q; cases q)
  | succ n ih =>
    intro x1 x2 x3 x4 x5 hk_x1 h t hF
    rw [F_X9_waitsWith_11] at hF
    refine mw_iload 5 C dX9_waitsWith_11 rfl ?_
    refine mw_aload_n 1 C dX9_waitsWith_13 rfl rfl ?_
    refine mw_get (k := 0) (T := TX1) (v := iv (h x1 0)) C dX9_waitsWith_14 (okX1_n _ hk_x1) (okX1_k _ hk_x1) (by decide) rfl inX1 (by decide) wd79 rfl rfl ?_
    obtain ⟨g1, hF⟩ := ck_some hF
    obtain ⟨g2, hF⟩ := ck_some hF
    rcases ite_some hF with ⟨c3, hF⟩ | ⟨c3, hF⟩
    · refine mw_icmp_ge_t (tgt := 63) C dX9_waitsWith_17 (by decide) g1 g2 c3 ?_
      refine mw_iconst C dX9_waitsWith_63 ?_
      refine mw_istore [(5, iv 0), (0, rfv (xd (zX Z)) 56), (1, rfv (xd (zX Z)) x1), (2, iv x2), (3, iv x3), (4, iv x4)] C dX9_waitsWith_64 (by decide) rfl ?_
      refine mw_iconst C dX9_waitsWith_66 ?_
      refine mw_istore [(6, iv 0), (5, iv 0), (0, rfv (xd (zX Z)) 56), (1, rfv (xd (zX Z)) x1), (2, iv x2), (3, iv x3), (4, iv x4)] C dX9_waitsWith_67 (by decide) rfl ?_
      refine mw_sub [2, 4, 6, 1, 0] rfl ?_
      exact T_X9_waitsWith_69 C 20000 x2 x4 0 0 _ _ hF
    · refine mw_icmp_ge_f (tgt := 63) C dX9_waitsWith_17 (by decide) g1 g2 c3 ?_
      refine mw_aload_n 0 C dX9_waitsWith_20 rfl rfl ?_
      refine mw_get (k := 0) (T := TX9) (v := rfv (xd (zX Z)) 57) C dX9_waitsWith_21 zn56 zk56 (by decide) rfl inX9 (by decide) wd181 rfl (zfv_r rfl zg_56_0) ?_
      refine mw_get (k := 1) (T := TX1) (v := rfv (xd (zX Z)) 58) C dX9_waitsWith_24 zn57 zk57 (by decide) rfl inX1 (by decide) wd83 rfl (zfv_r rfl zg_57_1) ?_
      refine mw_iload 5 C dX9_waitsWith_27 rfl ?_
      refine mw_iload 5 C dX9_waitsWith_29 rfl ?_
      refine mw_iload_n 2 C dX9_waitsWith_31 rfl rfl ?_
      obtain ⟨g4, hF⟩ := ck_some hF
      rcases ite_some hF with ⟨c5, hF⟩ | ⟨c5, hF⟩
      · refine mw_icmp_ne_t (tgt := 45) C dX9_waitsWith_32 (by decide) g1 g4 c5 ?_
        refine mw_aload_n 1 C dX9_waitsWith_45 rfl rfl ?_
        refine mw_get (k := 1) (T := TX1) (v := rfv (xd (zX Z)) (x1 + 1)) C dX9_waitsWith_46 (okX1_n _ hk_x1) (okX1_k _ hk_x1) (by decide) rfl inX1 (by decide) wd83 rfl (zfv_r rfl (okX1_g1 _ hk_x1)) ?_
        refine mw_iload 5 C dX9_waitsWith_49 rfl ?_
        obtain ⟨g6, hF⟩ := ck_some hF
        refine mw_iald C dX9_waitsWith_51 (okX1_f1 _ hk_x1).2.1 (okX1_f1 _ hk_x1).1 (okX1_f1 _ hk_x1).2.2 g6 ?_
        refine mw_iload_n 3 C dX9_waitsWith_52 rfl rfl ?_
        obtain ⟨q7, hq7, hF⟩ := bind_some hF
        refine mw_callS [iv (h (x1 + 1) x5.toNat), iv x3] [iv x5, rfv (xd (zX Z)) 58] C dX9_waitsWith_53 (T_X9_faster (zl Z) (zX Z) (h (x1 + 1) x5.toNat) x3 _ _ hq7) rfl wd668 wd669 wd8 wd670 hd_X9_faster rfl (by decide) (by decide) (Nat.le_of_ble_eq_true rfl) ⟨Nat.zero_le _, Nat.zero_le _⟩ ?_
        exact T_X9_waitsWith_56 C (F_X9_waitsWith_11 n) ih x1 x2 x3 x4 x5 58 x5 q7.1 hk_x1 (⟨zk58, zn58, by decide⟩) _ _ hF
      · refine mw_icmp_ne_f (tgt := 45) C dX9_waitsWith_32 (by decide) g1 g4 c5 ?_
        refine mw_aload_n 1 C dX9_waitsWith_35 rfl rfl ?_
        refine mw_get (k := 1) (T := TX1) (v := rfv (xd (zX Z)) (x1 + 1)) C dX9_waitsWith_36 (okX1_n _ hk_x1) (okX1_k _ hk_x1) (by decide) rfl inX1 (by decide) wd83 rfl (zfv_r rfl (okX1_g1 _ hk_x1)) ?_
        refine mw_iload 5 C dX9_waitsWith_39 rfl ?_
        obtain ⟨g8, hF⟩ := ck_some hF
        refine mw_iald C dX9_waitsWith_41 (okX1_f1 _ hk_x1).2.1 (okX1_f1 _ hk_x1).1 (okX1_f1 _ hk_x1).2.2 g8 ?_
        refine mw_goto (tgt := 56) C dX9_waitsWith_42 (by decide) ?_
        exact T_X9_waitsWith_56 C (F_X9_waitsWith_11 n) ih x1 x2 x3 x4 x5 58 x5 (h (x1 + 1) x5.toNat) hk_x1 (⟨zk58, zn58, by decide⟩) _ _ hF
def F_X9_waitsWith_0 (x1 : Nat) (x2 : Int) (x3 : Int) (x4 : Int) (h : MH) : Option (Int × MH) :=
  (F_X1_copy 57 x1 h).bind fun q1 =>
  F_X9_waitsWith_11 20000 x1 x2 x3 x4 0 q1
set_option maxRecDepth 100000 in
theorem T_X9_waitsWith_0 {Z : ZT} (C : Cx Z cX9_waitsWith 7 RX9 4 (some .int)) (x1 : Nat) (x2 : Int) (x3 : Int) (x4 : Int) (hk_x1 : okX1 x1) (h : MH) (t : (Int × MH)) (hF : F_X9_waitsWith_0 x1 x2 x3 x4 h = some t) : MW Z (Qm Z (some (iv t.1)) zN zG t.2 0 0) 7 zN zG h 0 0 0 [(0, rfv (xd (zX Z)) 56), (1, rfv (xd (zX Z)) x1), (2, iv x2), (3, iv x3), (4, iv x4)] [] := by
  unfold F_X9_waitsWith_0 at hF
  refine mw_aload_n 0 C dX9_waitsWith_0 rfl rfl ?_
  refine mw_get (k := 0) (T := TX9) (v := rfv (xd (zX Z)) 57) C dX9_waitsWith_1 zn56 zk56 (by decide) rfl inX9 (by decide) wd181 rfl (zfv_r rfl zg_56_0) ?_
  refine mw_aload_n 1 C dX9_waitsWith_4 rfl rfl ?_
  obtain ⟨q1, hq1, hF⟩ := bind_some hF
  refine mw_callV (c := 57) [rfv (xd (zX Z)) x1] [] C dX9_waitsWith_5 (T_X1_copy (zl Z) (zX Z) 57 x1 ok_57 hk_x1 _ _ hq1) rfl zn57 zk57 (by decide) rfl wd653 wd489 wd490 wd5 wd491 hd_X1_copy rfl (by decide) (by decide) (Nat.le_of_ble_eq_true rfl) ⟨Nat.zero_le _, Nat.zero_le _⟩ ?_
  refine mw_iconst C dX9_waitsWith_8 ?_
  refine mw_istore [(5, iv 0), (0, rfv (xd (zX Z)) 56), (1, rfv (xd (zX Z)) x1), (2, iv x2), (3, iv x3), (4, iv x4)] C dX9_waitsWith_9 (by decide) rfl ?_
  refine mw_sub [1, 2, 3, 4, 5, 0] rfl ?_
  exact T_X9_waitsWith_11 C 20000 x1 x2 x3 x4 0 hk_x1 _ _ hF
def F_X9_waitsWith (x1 : Nat) (x2 : Int) (x3 : Int) (x4 : Int) (h : MH) : Option (Int × MH) := F_X9_waitsWith_0 x1 x2 x3 x4 h
theorem T_X9_waitsWith (l : Launch) (X : XT) (x1 : Nat) (x2 : Int) (x3 : Int) (x4 : Int) (hk_x1 : okX1 x1) (h : MH) (t : (Int × MH)) (hF : F_X9_waitsWith x1 x2 x3 x4 h = some t) : Ct l X yX9_waitsWith cX9_waitsWith 7 (some .int) 4 [rfv (xd X) 56, rfv (xd X) x1, iv x2, iv x3, iv x4] zN zG h (some (iv t.1)) zN zG t.2 0 0 := by
  refine Ct.head (by decide) (Nat.le_of_ble_eq_true rfl) (fun Z hX hl _ _ _ C => ?_)
  subst hX
  subst hl
  exact (T_X9_waitsWith_0 C x1 x2 x3 x4 hk_x1 _ _ hF)
/-! BottleLine$Trials.trySharing(II)V -/
def F_X9_trySharing_2 : Nat → Int → Int → Int → MH → Option MH
  | 0, _, _, _, _ => none
  | n + 1, x1, x2, x3, h =>
    ck (in32 x3) <|
    ck (in32 (h 56 3)) <|
    if (h 56 3) ≤ x3 then
      (F_X1_start 57 (h 57 5) h).bind fun q4 =>
      (F_X1_wouldMake 57 x2 q4).bind fun q5 =>
      ck (in32 q5.1) <|
      ck (in32 (q5.2 56 6)) <|
      if q5.1 ≤ (q5.2 56 6) then
        some q5.2
      else
        nx (hup q5.2 56 6 q5.1) fun h9 =>
        ck (((0 : Int) ≤ 0 ∧ (0 : Int) ≤ 0 ∧ (0 : Int) ≤ (h9 56 3)) ∧ 0 + (h9 56 3) ≤ 5 ∧ 0 + (h9 56 3) ≤ 5) <|
        nx (hcp h9 69 0 68 0 (h9 56 3).toNat) fun h11 =>
        some h11
    else
      ck (0 ≤ x3 ∧ x3 < 5) <|
      ck (0 ≤ x3 ∧ x3 < 6) <|
      nx (hup h 61 x3.toNat ((h 69 x3.toNat) * x1)) fun h14 =>
      F_X9_trySharing_2 n x1 x2 (x3 + 1) h14
set_option maxRecDepth 100000 in
theorem T_X9_trySharing_2 {Z : ZT} (C : Cx Z cX9_trySharing 4 RX9 5 none) : ∀ (n : Nat) (x1 : Int) (x2 : Int) (x3 : Int) (h : MH) (t : MH), F_X9_trySharing_2 n x1 x2 x3 h = some t → MW Z (Qm Z none zN zG t 0 0) 4 zN zG h 0 0 2 [(0, rfv (xd (zX Z)) 56), (1, iv x1), (2, iv x2), (3, iv x3)] [] := by
  intro n
  induction n with
  | zero =>
    intros
    rename_i hF
    exact absurd hF (by intro q; cases q)
  | succ n ih =>
    intro x1 x2 x3 h t hF
    rw [F_X9_trySharing_2] at hF
    refine mw_iload_n 3 C dX9_trySharing_2 rfl rfl ?_
    refine mw_aload_n 0 C dX9_trySharing_3 rfl rfl ?_
    refine mw_get (k := 3) (T := TX9) (v := iv (h 56 3)) C dX9_trySharing_4 zn56 zk56 (by decide) rfl inX9 (by decide) wd186 rfl rfl ?_
    obtain ⟨g1, hF⟩ := ck_some hF
    obtain ⟨g2, hF⟩ := ck_some hF
    rcases ite_some hF with ⟨c3, hF⟩ | ⟨c3, hF⟩
    · refine mw_icmp_ge_t (tgt := 33) C dX9_trySharing_7 (by decide) g1 g2 c3 ?_
      refine mw_aload_n 0 C dX9_trySharing_33 rfl rfl ?_
      refine mw_get (k := 0) (T := TX9) (v := rfv (xd (zX Z)) 57) C dX9_trySharing_34 zn56 zk56 (by decide) rfl inX9 (by decide) wd181 rfl (zfv_r rfl zg_56_0) ?_
      refine mw_aload_n 0 C dX9_trySharing_37 rfl rfl ?_
      refine mw_get (k := 0) (T := TX9) (v := rfv (xd (zX Z)) 57) C dX9_trySharing_38 zn56 zk56 (by decide) rfl inX9 (by decide) wd181 rfl (zfv_r rfl zg_56_0) ?_
      refine mw_get (k := 5) (T := TX1) (v := iv (h 57 5)) C dX9_trySharing_41 zn57 zk57 (by decide) rfl inX1 (by decide) wd98 rfl rfl ?_
      obtain ⟨q4, hq4, hF⟩ := bind_some hF
      refine mw_callV (c := 57) [iv (h 57 5)] [] C dX9_trySharing_44 (T_X1_start (zl Z) (zX Z) 57 (h 57 5) ok_57 _ _ hq4) rfl zn57 zk57 (by decide) rfl wd693 wd346 wd347 wd5 wd348 hd_X1_start rfl (by decide) (by decide) (Nat.le_of_ble_eq_true rfl) ⟨Nat.zero_le _, Nat.zero_le _⟩ ?_
      refine mw_aload_n 0 C dX9_trySharing_47 rfl rfl ?_
      refine mw_get (k := 0) (T := TX9) (v := rfv (xd (zX Z)) 57) C dX9_trySharing_48 zn56 zk56 (by decide) rfl inX9 (by decide) wd181 rfl (zfv_r rfl zg_56_0) ?_
      refine mw_iload_n 2 C dX9_trySharing_51 rfl rfl ?_
      obtain ⟨q5, hq5, hF⟩ := bind_some hF
      refine mw_callV (c := 57) [iv x2] [] C dX9_trySharing_52 (T_X1_wouldMake (zl Z) (zX Z) 57 x2 ok_57 _ _ hq5) rfl zn57 zk57 (by decide) rfl wd654 wd655 wd656 wd5 wd657 hd_X1_wouldMake rfl (by decide) (by decide) (Nat.le_of_ble_eq_true rfl) ⟨Nat.zero_le _, Nat.zero_le _⟩ ?_
      refine mw_istore_n [(3, iv q5.1), (0, rfv (xd (zX Z)) 56), (1, iv x1), (2, iv x2)] C dX9_trySharing_55 rfl (by decide) rfl ?_
      refine mw_iload_n 0 C dX9_trySharing_56 rfl rfl ?_
      refine mw_aload_n 1 C dX9_trySharing_57 rfl rfl ?_
      refine mw_get (k := 6) (T := TX9) (v := iv (q5.2 56 6)) C dX9_trySharing_58 zn56 zk56 (by decide) rfl inX9 (by decide) wd191 rfl rfl ?_
      obtain ⟨g6, hF⟩ := ck_some hF
      obtain ⟨g7, hF⟩ := ck_some hF
      rcases ite_some hF with ⟨c8, hF⟩ | ⟨c8, hF⟩
      · refine mw_icmp_le_t (tgt := 86) C dX9_trySharing_61 (by decide) g6 g7 c8 ?_
        cases hF
        exact mw_vret C dX9_trySharing_86 rfl rfl
      · refine mw_icmp_le_f (tgt := 86) C dX9_trySharing_61 (by decide) g6 g7 c8 ?_
        refine mw_aload_n 1 C dX9_trySharing_64 rfl rfl ?_
        refine mw_iload_n 0 C dX9_trySharing_65 rfl rfl ?_
        obtain ⟨h9, eh9, hF⟩ := nx_some hF
        refine mw_put (k := 6) (T := TX9) (ty0 := tyX9) (x := q5.1) C dX9_trySharing_66 zn56 zk56 (by decide) rfl inX9 tyX9_ok nmX9 (by decide) wd191 rfl rfl rfl rfl rfl (by decide) (mw_h eh9 ?_)
        refine mw_aload_n 1 C dX9_trySharing_69 rfl rfl ?_
        refine mw_get (k := 5) (T := TX9) (v := rfv (xd (zX Z)) 69) C dX9_trySharing_70 zn56 zk56 (by decide) rfl inX9 (by decide) wd190 rfl (zfv_r rfl zg_56_5) ?_
        refine mw_iconst C dX9_trySharing_73 ?_
        refine mw_aload_n 1 C dX9_trySharing_74 rfl rfl ?_
        refine mw_get (k := 4) (T := TX9) (v := rfv (xd (zX Z)) 68) C dX9_trySharing_75 zn56 zk56 (by decide) rfl inX9 (by decide) wd188 rfl (zfv_r rfl zg_56_4) ?_
        refine mw_iconst C dX9_trySharing_78 ?_
        refine mw_aload_n 1 C dX9_trySharing_79 rfl rfl ?_
        refine mw_get (k := 3) (T := TX9) (v := iv (h9 56 3)) C dX9_trySharing_80 zn56 zk56 (by decide) rfl inX9 (by decide) wd186 rfl rfl ?_
        obtain ⟨g10, hF⟩ := ck_some hF
        obtain ⟨h11, eh11, hF⟩ := nx_some hF
        refine mw_copyI C dX9_trySharing_83 wd694 wd323 wd15 wd324 (by decide) (Nat.le_of_ble_eq_true rfl) zn69 zn68 zk69 zk68 (by decide) (by decide) g10 (mw_h eh11 ?_)
        cases hF
        exact mw_vret C dX9_trySharing_86 rfl rfl
    · refine mw_icmp_ge_f (tgt := 33) C dX9_trySharing_7 (by decide) g1 g2 c3 ?_
      refine mw_aload_n 0 C dX9_trySharing_10 rfl rfl ?_
      refine mw_get (k := 0) (T := TX9) (v := rfv (xd (zX Z)) 57) C dX9_trySharing_11 zn56 zk56 (by decide) rfl inX9 (by decide) wd181 rfl (zfv_r rfl zg_56_0) ?_
      refine mw_get (k := 4) (T := TX1) (v := rfv (xd (zX Z)) 61) C dX9_trySharing_14 zn57 zk57 (by decide) rfl inX1 (by decide) wd95 rfl (zfv_r rfl zg_57_4) ?_
      refine mw_iload_n 3 C dX9_trySharing_17 rfl rfl ?_
      refine mw_aload_n 0 C dX9_trySharing_18 rfl rfl ?_
      refine mw_get (k := 5) (T := TX9) (v := rfv (xd (zX Z)) 69) C dX9_trySharing_19 zn56 zk56 (by decide) rfl inX9 (by decide) wd190 rfl (zfv_r rfl zg_56_5) ?_
      refine mw_iload_n 3 C dX9_trySharing_22 rfl rfl ?_
      obtain ⟨g12, hF⟩ := ck_some hF
      refine mw_iald C dX9_trySharing_23 zn69 zk69 (by decide) g12 ?_
      refine mw_iload_n 1 C dX9_trySharing_24 rfl rfl ?_
      refine mw_imul C dX9_trySharing_25 ?_
      obtain ⟨g13, hF⟩ := ck_some hF
      obtain ⟨h14, eh14, hF⟩ := nx_some hF
      refine mw_iast C dX9_trySharing_26 zn61 zk61 (by decide) g13 (mw_h eh14 ?_)
      refine mw_iinc 3 [(3, iv (x3 + 1)), (0, rfv (xd (zX Z)) 56), (1, iv x1), (2, iv x2)] C dX9_trySharing_27 rfl (by decide) rfl ?_
      refine mw_goto (tgt := 2) C dX9_trySharing_30 (by decide) ?_
      refine mw_sub [1, 2, 3, 0] rfl ?_
      exact ih x1 x2 (x3 + 1) _ _ hF
def F_X9_trySharing_0 (x1 : Int) (x2 : Int) (h : MH) : Option MH :=
  F_X9_trySharing_2 20000 x1 x2 0 h
set_option maxRecDepth 100000 in
theorem T_X9_trySharing_0 {Z : ZT} (C : Cx Z cX9_trySharing 4 RX9 5 none) (x1 : Int) (x2 : Int) (h : MH) (t : MH) (hF : F_X9_trySharing_0 x1 x2 h = some t) : MW Z (Qm Z none zN zG t 0 0) 4 zN zG h 0 0 0 [(0, rfv (xd (zX Z)) 56), (1, iv x1), (2, iv x2)] [] := by
  unfold F_X9_trySharing_0 at hF
  refine mw_iconst C dX9_trySharing_0 ?_
  refine mw_istore_n [(3, iv 0), (0, rfv (xd (zX Z)) 56), (1, iv x1), (2, iv x2)] C dX9_trySharing_1 rfl (by decide) rfl ?_
  refine mw_sub [1, 2, 3, 0] rfl ?_
  exact T_X9_trySharing_2 C 20000 x1 x2 0 _ _ hF
def F_X9_trySharing (x1 : Int) (x2 : Int) (h : MH) : Option MH := F_X9_trySharing_0 x1 x2 h
theorem T_X9_trySharing (l : Launch) (X : XT) (x1 : Int) (x2 : Int) (h : MH) (t : MH) (hF : F_X9_trySharing x1 x2 h = some t) : Ct l X yX9_trySharing cX9_trySharing 4 none 5 [rfv (xd X) 56, iv x1, iv x2] zN zG h none zN zG t 0 0 := by
  refine Ct.head (by decide) (Nat.le_of_ble_eq_true rfl) (fun Z hX hl _ _ _ C => ?_)
  subst hX
  subst hl
  exact (T_X9_trySharing_0 C x1 x2 _ _ hF)
/-! BottleLine$Trials.shareFrom(IIII)V -/
def F_X9_shareFrom_28 (rec : Int → Int → Int → Int → MH → Option MH) : Nat → Int → Int → Int → Int → Int → MH → Option MH
  | 0, _, _, _, _, _, _ => none
  | n + 1, x1, x2, x3, x4, x5, h =>
    ck (in32 x5) <|
    ck (in32 x2) <|
    if x2 < x5 then
      some h
    else
      ck (0 ≤ x1 ∧ x1 < 5) <|
      nx (hup h 69 x1.toNat x5) fun h5 =>
      (rec (x1 + 1) (x2 - x5) x3 x4 h5).bind fun q6 =>
      F_X9_shareFrom_28 rec n x1 x2 x3 x4 (x5 + 1) q6
set_option maxRecDepth 100000 in
theorem T_X9_shareFrom_28 {Z : ZT} {nd : Nat} (C : Cx Z cX9_shareFrom 6 RX9 (6 + nd + 1) none) (rec : Int → Int → Int → Int → MH → Option MH) (hrec : ∀ (x1 : Int) (x2 : Int) (x3 : Int) (x4 : Int) (h : MH) (t : MH), rec x1 x2 x3 x4 h = some t → Ct (zl Z) (zX Z) yX9_shareFrom cX9_shareFrom 6 none (6 + nd) [rfv (xd (zX Z)) 56, iv x1, iv x2, iv x3, iv x4] zN zG h none zN zG t 0 0) : ∀ (n : Nat) (x1 : Int) (x2 : Int) (x3 : Int) (x4 : Int) (x5 : Int) (h : MH) (t : MH), F_X9_shareFrom_28 rec n x1 x2 x3 x4 x5 h = some t → MW Z (Qm Z none zN zG t 0 0) 6 zN zG h 0 0 28 [(0, rfv (xd (zX Z)) 56), (1, iv x1), (2, iv x2), (3, iv x3), (4, iv x4), (5, iv x5)] [] := by
  intro n
  induction n with
  | zero =>
    intros
    rename_i hF
    exact absurd hF (by intro q; cases q)
  | succ n ih =>
    intro x1 x2 x3 x4 x5 h t hF
    rw [F_X9_shareFrom_28] at hF
    refine mw_iload 5 C dX9_shareFrom_28 rfl ?_
    refine mw_iload_n 2 C dX9_shareFrom_30 rfl rfl ?_
    obtain ⟨g1, hF⟩ := ck_some hF
    obtain ⟨g2, hF⟩ := ck_some hF
    rcases ite_some hF with ⟨c3, hF⟩ | ⟨c3, hF⟩
    · refine mw_icmp_gt_t (tgt := 62) C dX9_shareFrom_31 (by decide) g1 g2 c3 ?_
      cases hF
      exact mw_vret C dX9_shareFrom_62 rfl rfl
    · refine mw_icmp_gt_f (tgt := 62) C dX9_shareFrom_31 (by decide) g1 g2 c3 ?_
      refine mw_aload_n 0 C dX9_shareFrom_34 rfl rfl ?_
      refine mw_get (k := 5) (T := TX9) (v := rfv (xd (zX Z)) 69) C dX9_shareFrom_35 zn56 zk56 (by decide) rfl inX9 (by decide) wd190 rfl (zfv_r rfl zg_56_5) ?_
      refine mw_iload_n 1 C dX9_shareFrom_38 rfl rfl ?_
      refine mw_iload 5 C dX9_shareFrom_39 rfl ?_
      obtain ⟨g4, hF⟩ := ck_some hF
      obtain ⟨h5, eh5, hF⟩ := nx_some hF
      refine mw_iast C dX9_shareFrom_41 zn69 zk69 (by decide) g4 (mw_h eh5 ?_)
      refine mw_aload_n 0 C dX9_shareFrom_42 rfl rfl ?_
      refine mw_iload_n 1 C dX9_shareFrom_43 rfl rfl ?_
      refine mw_iconst C dX9_shareFrom_44 ?_
      refine mw_iadd C dX9_shareFrom_45 ?_
      refine mw_iload_n 2 C dX9_shareFrom_46 rfl rfl ?_
      refine mw_iload 5 C dX9_shareFrom_47 rfl ?_
      refine mw_isub C dX9_shareFrom_49 ?_
      refine mw_iload_n 3 C dX9_shareFrom_50 rfl rfl ?_
      refine mw_iload 4 C dX9_shareFrom_51 rfl ?_
      obtain ⟨q6, hq6, hF⟩ := bind_some hF
      refine mw_callV (c := 56) [iv (x1 + 1), iv (x2 - x5), iv x3, iv x4] [] C dX9_shareFrom_53 (hrec (x1 + 1) (x2 - x5) x3 x4 _ _ hq6) rfl zn56 zk56 (by decide) rfl wd687 wd688 wd1343 wd8 wd689 hd_X9_shareFrom rfl (by omega) (by decide) (Nat.le_of_ble_eq_true rfl) ⟨Nat.zero_le _, Nat.zero_le _⟩ ?_
      refine mw_iinc 5 [(5, iv (x5 + 1)), (0, rfv (xd (zX Z)) 56), (1, iv x1), (2, iv x2), (3, iv x3), (4, iv x4)] C dX9_shareFrom_56 rfl (by decide) rfl ?_
      refine mw_goto (tgt := 28) C dX9_shareFrom_59 (by decide) ?_
      refine mw_sub [1, 2, 3, 4, 5, 0] rfl ?_
      exact ih x1 x2 x3 x4 (x5 + 1) _ _ hF
def F_X9_shareFrom_0 (rec : Int → Int → Int → Int → MH → Option MH) (x1 : Int) (x2 : Int) (x3 : Int) (x4 : Int) (h : MH) : Option MH :=
  ck (in32 x1) <|
  ck (in32 ((h 56 3) - 1)) <|
  if x1 < ((h 56 3) - 1) then
    F_X9_shareFrom_28 rec 20000 x1 x2 x3 x4 0 h
  else
    ck (0 ≤ x1 ∧ x1 < 5) <|
    nx (hup h 69 x1.toNat x2) fun h5 =>
    (F_X9_trySharing x3 x4 h5).bind fun q6 =>
    some q6
set_option maxRecDepth 100000 in
theorem T_X9_shareFrom_0 {Z : ZT} {nd : Nat} (C : Cx Z cX9_shareFrom 6 RX9 (6 + nd + 1) none) (rec : Int → Int → Int → Int → MH → Option MH) (hrec : ∀ (x1 : Int) (x2 : Int) (x3 : Int) (x4 : Int) (h : MH) (t : MH), rec x1 x2 x3 x4 h = some t → Ct (zl Z) (zX Z) yX9_shareFrom cX9_shareFrom 6 none (6 + nd) [rfv (xd (zX Z)) 56, iv x1, iv x2, iv x3, iv x4] zN zG h none zN zG t 0 0) (x1 : Int) (x2 : Int) (x3 : Int) (x4 : Int) (h : MH) (t : MH) (hF : F_X9_shareFrom_0 rec x1 x2 x3 x4 h = some t) : MW Z (Qm Z none zN zG t 0 0) 6 zN zG h 0 0 0 [(0, rfv (xd (zX Z)) 56), (1, iv x1), (2, iv x2), (3, iv x3), (4, iv x4)] [] := by
  unfold F_X9_shareFrom_0 at hF
  refine mw_iload_n 1 C dX9_shareFrom_0 rfl rfl ?_
  refine mw_aload_n 0 C dX9_shareFrom_1 rfl rfl ?_
  refine mw_get (k := 3) (T := TX9) (v := iv (h 56 3)) C dX9_shareFrom_2 zn56 zk56 (by decide) rfl inX9 (by decide) wd186 rfl rfl ?_
  refine mw_iconst C dX9_shareFrom_5 ?_
  refine mw_isub C dX9_shareFrom_6 ?_
  obtain ⟨g1, hF⟩ := ck_some hF
  obtain ⟨g2, hF⟩ := ck_some hF
  rcases ite_some hF with ⟨c3, hF⟩ | ⟨c3, hF⟩
  · refine mw_icmp_lt_t (tgt := 25) C dX9_shareFrom_7 (by decide) g1 g2 c3 ?_
    refine mw_iconst C dX9_shareFrom_25 ?_
    refine mw_istore [(5, iv 0), (0, rfv (xd (zX Z)) 56), (1, iv x1), (2, iv x2), (3, iv x3), (4, iv x4)] C dX9_shareFrom_26 (by decide) rfl ?_
    refine mw_sub [1, 2, 3, 4, 5, 0] rfl ?_
    exact T_X9_shareFrom_28 C rec hrec 20000 x1 x2 x3 x4 0 _ _ hF
  · refine mw_icmp_lt_f (tgt := 25) C dX9_shareFrom_7 (by decide) g1 g2 c3 ?_
    refine mw_aload_n 0 C dX9_shareFrom_10 rfl rfl ?_
    refine mw_get (k := 5) (T := TX9) (v := rfv (xd (zX Z)) 69) C dX9_shareFrom_11 zn56 zk56 (by decide) rfl inX9 (by decide) wd190 rfl (zfv_r rfl zg_56_5) ?_
    refine mw_iload_n 1 C dX9_shareFrom_14 rfl rfl ?_
    refine mw_iload_n 2 C dX9_shareFrom_15 rfl rfl ?_
    obtain ⟨g4, hF⟩ := ck_some hF
    obtain ⟨h5, eh5, hF⟩ := nx_some hF
    refine mw_iast C dX9_shareFrom_16 zn69 zk69 (by decide) g4 (mw_h eh5 ?_)
    refine mw_aload_n 0 C dX9_shareFrom_17 rfl rfl ?_
    refine mw_iload_n 3 C dX9_shareFrom_18 rfl rfl ?_
    refine mw_iload 4 C dX9_shareFrom_19 rfl ?_
    obtain ⟨q6, hq6, hF⟩ := bind_some hF
    refine mw_callV (c := 56) [iv x3, iv x4] [] C dX9_shareFrom_21 (T_X9_trySharing (zl Z) (zX Z) x3 x4 _ _ hq6) rfl zn56 zk56 (by decide) rfl wd690 wd691 wd1344 wd8 wd692 hd_X9_trySharing rfl (by omega) (by decide) (Nat.le_of_ble_eq_true rfl) ⟨Nat.zero_le _, Nat.zero_le _⟩ ?_
    cases hF
    exact mw_vret C dX9_shareFrom_24 rfl rfl
def F_X9_shareFrom : Nat → Int → Int → Int → Int → MH → Option MH
  | 0, _, _, _, _, _ => none
  | nd + 1, x1, x2, x3, x4, h => F_X9_shareFrom_0 (F_X9_shareFrom nd) x1 x2 x3 x4 h
theorem T_X9_shareFrom (l : Launch) (X : XT) : ∀ (nd : Nat) (x1 : Int) (x2 : Int) (x3 : Int) (x4 : Int) (h : MH) (t : MH), F_X9_shareFrom nd x1 x2 x3 x4 h = some t → Ct l X yX9_shareFrom cX9_shareFrom 6 none (6 + nd) [rfv (xd X) 56, iv x1, iv x2, iv x3, iv x4] zN zG h none zN zG t 0 0 := by
  intro nd
  induction nd with
  | zero =>
    intros
    rename_i hF
    exact absurd hF (by intro q; cases q)
  | succ nd ih =>
    intro x1 x2 x3 x4 h t hF
    rw [F_X9_shareFrom] at hF
    refine Ct.head (by decide) (Nat.le_of_ble_eq_true rfl) (fun Z hX hl _ _ _ C => ?_)
    subst hX
    subst hl
    exact (T_X9_shareFrom_0 C _ ih x1 x2 x3 x4 _ _ hF)
/-! BottleLine$Trials.shareOut(LBottleLine$Floor;III)I -/
def F_X9_shareOut_0 (x1 : Nat) (x2 : Int) (x3 : Int) (x4 : Int) (h : MH) : Option (Int × MH) :=
  (F_X1_copy 57 x1 h).bind fun q1 =>
  (F_X1_tables x1 q1).bind fun q2 =>
  nx (hup q2.2 56 3 q2.1) fun h3 =>
  nx (hup h3 56 6 (-1)) fun h4 =>
  (F_X9_shareFrom 10 0 x2 x3 x4 h4).bind fun q5 =>
  some ((q5 56 6), q5)
set_option maxRecDepth 100000 in
theorem T_X9_shareOut_0 {Z : ZT} (C : Cx Z cX9_shareOut 5 RX9 19 (some .int)) (x1 : Nat) (x2 : Int) (x3 : Int) (x4 : Int) (hk_x1 : okX1 x1) (h : MH) (t : (Int × MH)) (hF : F_X9_shareOut_0 x1 x2 x3 x4 h = some t) : MW Z (Qm Z (some (iv t.1)) zN zG t.2 0 0) 5 zN zG h 0 0 0 [(0, rfv (xd (zX Z)) 56), (1, rfv (xd (zX Z)) x1), (2, iv x2), (3, iv x3), (4, iv x4)] [] := by
  unfold F_X9_shareOut_0 at hF
  refine mw_aload_n 0 C dX9_shareOut_0 rfl rfl ?_
  refine mw_get (k := 0) (T := TX9) (v := rfv (xd (zX Z)) 57) C dX9_shareOut_1 zn56 zk56 (by decide) rfl inX9 (by decide) wd181 rfl (zfv_r rfl zg_56_0) ?_
  refine mw_aload_n 1 C dX9_shareOut_4 rfl rfl ?_
  obtain ⟨q1, hq1, hF⟩ := bind_some hF
  refine mw_callV (c := 57) [rfv (xd (zX Z)) x1] [] C dX9_shareOut_5 (T_X1_copy (zl Z) (zX Z) 57 x1 ok_57 hk_x1 _ _ hq1) rfl zn57 zk57 (by decide) rfl wd653 wd489 wd490 wd5 wd491 hd_X1_copy rfl (by decide) (by decide) (Nat.le_of_ble_eq_true rfl) ⟨Nat.zero_le _, Nat.zero_le _⟩ ?_
  refine mw_aload_n 0 C dX9_shareOut_8 rfl rfl ?_
  refine mw_aload_n 1 C dX9_shareOut_9 rfl rfl ?_
  obtain ⟨q2, hq2, hF⟩ := bind_some hF
  refine mw_callV (c := x1) [] [rfv (xd (zX Z)) 56] C dX9_shareOut_10 (T_X1_tables (zl Z) (zX Z) x1 hk_x1 _ _ hq2) rfl (okX1_n _ hk_x1) (okX1_k _ hk_x1) (by decide) rfl wd686 wd567 wd568 wd5 wd569 hd_X1_tables rfl (by decide) (by decide) (Nat.le_of_ble_eq_true rfl) ⟨Nat.zero_le _, Nat.zero_le _⟩ ?_
  obtain ⟨h3, eh3, hF⟩ := nx_some hF
  refine mw_put (k := 3) (T := TX9) (ty0 := tyX9) (x := q2.1) C dX9_shareOut_13 zn56 zk56 (by decide) rfl inX9 tyX9_ok nmX9 (by decide) wd186 rfl rfl rfl rfl rfl (by decide) (mw_h eh3 ?_)
  refine mw_aload_n 0 C dX9_shareOut_16 rfl rfl ?_
  refine mw_iconst C dX9_shareOut_17 ?_
  obtain ⟨h4, eh4, hF⟩ := nx_some hF
  refine mw_put (k := 6) (T := TX9) (ty0 := tyX9) (x := (-1)) C dX9_shareOut_18 zn56 zk56 (by decide) rfl inX9 tyX9_ok nmX9 (by decide) wd191 rfl rfl rfl rfl rfl (by decide) (mw_h eh4 ?_)
  refine mw_aload_n 0 C dX9_shareOut_21 rfl rfl ?_
  refine mw_iconst C dX9_shareOut_22 ?_
  refine mw_iload_n 2 C dX9_shareOut_23 rfl rfl ?_
  refine mw_iload_n 3 C dX9_shareOut_24 rfl rfl ?_
  refine mw_iload 4 C dX9_shareOut_25 rfl ?_
  obtain ⟨q5, hq5, hF⟩ := bind_some hF
  refine mw_callV (c := 56) [iv 0, iv x2, iv x3, iv x4] [] C dX9_shareOut_27 (T_X9_shareFrom (zl Z) (zX Z) 10 0 x2 x3 x4 _ _ hq5) rfl zn56 zk56 (by decide) rfl wd687 wd688 wd1343 wd8 wd689 hd_X9_shareFrom rfl (by decide) (by decide) (Nat.le_of_ble_eq_true rfl) ⟨Nat.zero_le _, Nat.zero_le _⟩ ?_
  refine mw_aload_n 0 C dX9_shareOut_30 rfl rfl ?_
  refine mw_get (k := 6) (T := TX9) (v := iv (q5 56 6)) C dX9_shareOut_31 zn56 zk56 (by decide) rfl inX9 (by decide) wd191 rfl rfl ?_
  cases hF
  exact mw_iret C dX9_shareOut_34 rfl rfl
def F_X9_shareOut (x1 : Nat) (x2 : Int) (x3 : Int) (x4 : Int) (h : MH) : Option (Int × MH) := F_X9_shareOut_0 x1 x2 x3 x4 h
theorem T_X9_shareOut (l : Launch) (X : XT) (x1 : Nat) (x2 : Int) (x3 : Int) (x4 : Int) (hk_x1 : okX1 x1) (h : MH) (t : (Int × MH)) (hF : F_X9_shareOut x1 x2 x3 x4 h = some t) : Ct l X yX9_shareOut cX9_shareOut 5 (some .int) 19 [rfv (xd X) 56, rfv (xd X) x1, iv x2, iv x3, iv x4] zN zG h (some (iv t.1)) zN zG t.2 0 0 := by
  refine Ct.head (by decide) (Nat.le_of_ble_eq_true rfl) (fun Z hX hl _ _ _ C => ?_)
  subst hX
  subst hl
  exact (T_X9_shareOut_0 C x1 x2 x3 x4 hk_x1 _ _ hF)
/-! BottleLine$Washing.goOnFrom(LBottleLine$Plan;III)V -/
def F_X10_goOnFrom_10 (rec : Nat → Int → Int → Int → MH → Option MH) (x4 : Int) (h : MH) : Option MH :=
  nx (hup h 75 3 x4) fun h1 =>
  ck (((0 : Int) ≤ 0 ∧ (0 : Int) ≤ 0 ∧ (0 : Int) ≤ (h1 75 2)) ∧ 0 + (h1 75 2) ≤ 7 ∧ 0 + (h1 75 2) ≤ 7) <|
  nx (hcp h1 76 0 77 0 (h1 75 2).toNat) fun h3 =>
  some h3
set_option maxRecDepth 100000 in
theorem T_X10_goOnFrom_10 {Z : ZT} {nd : Nat} (C : Cx Z cX10_goOnFrom 7 RX10 (3 + nd + 1) none) (rec : Nat → Int → Int → Int → MH → Option MH) (hrec : ∀ (x1 : Nat) (x2 : Int) (x3 : Int) (x4 : Int) (hk_x1 : okX5 x1) (h : MH) (t : MH), rec x1 x2 x3 x4 h = some t → Ct (zl Z) (zX Z) yX10_goOnFrom cX10_goOnFrom 7 none (3 + nd) [rfv (xd (zX Z)) 75, rfv (xd (zX Z)) x1, iv x2, iv x3, iv x4] zN zG h none zN zG t 0 0) (x4 : Int) (h : MH) (t : MH) (hF : F_X10_goOnFrom_10 rec x4 h = some t) : MW Z (Qm Z none zN zG t 0 0) 7 zN zG h 0 0 10 [(0, rfv (xd (zX Z)) 75), (4, iv x4)] [] := by
  unfold F_X10_goOnFrom_10 at hF
  refine mw_aload_n 0 C dX10_goOnFrom_10 rfl rfl ?_
  refine mw_iload 1 C dX10_goOnFrom_11 rfl ?_
  obtain ⟨h1, eh1, hF⟩ := nx_some hF
  refine mw_put (k := 3) (T := TX10) (ty0 := tyX10) (x := x4) C dX10_goOnFrom_13 zn75 zk75 (by decide) rfl inX10 tyX10_ok nmX10 (by decide) wd235 rfl rfl rfl rfl rfl (by decide) (mw_h eh1 ?_)
  refine mw_aload_n 0 C dX10_goOnFrom_16 rfl rfl ?_
  refine mw_get (k := 0) (T := TX10) (v := rfv (xd (zX Z)) 76) C dX10_goOnFrom_17 zn75 zk75 (by decide) rfl inX10 (by decide) wd230 rfl (zfv_r rfl zg_75_0) ?_
  refine mw_iconst C dX10_goOnFrom_20 ?_
  refine mw_aload_n 0 C dX10_goOnFrom_21 rfl rfl ?_
  refine mw_get (k := 1) (T := TX10) (v := rfv (xd (zX Z)) 77) C dX10_goOnFrom_22 zn75 zk75 (by decide) rfl inX10 (by decide) wd231 rfl (zfv_r rfl zg_75_1) ?_
  refine mw_iconst C dX10_goOnFrom_25 ?_
  refine mw_aload_n 0 C dX10_goOnFrom_26 rfl rfl ?_
  refine mw_get (k := 2) (T := TX10) (v := iv (h1 75 2)) C dX10_goOnFrom_27 zn75 zk75 (by decide) rfl inX10 (by decide) wd233 rfl rfl ?_
  obtain ⟨g2, hF⟩ := ck_some hF
  obtain ⟨h3, eh3, hF⟩ := nx_some hF
  refine mw_copyI C dX10_goOnFrom_30 wd832 wd323 wd15 wd324 (by omega) (Nat.le_of_ble_eq_true rfl) zn76 zn77 zk76 zk77 (by decide) (by decide) g2 (mw_h eh3 ?_)
  cases hF
  exact mw_vret C dX10_goOnFrom_33 rfl rfl
def F_X10_goOnFrom_110 (rec : Nat → Int → Int → Int → MH → Option MH) (k37 : Nat → Int → Int → Int → Int → MH → Option MH) (x1 : Nat) (x2 : Int) (x3 : Int) (x4 : Int) (x5 : Int) (h : MH) : Option MH :=
  k37 x1 x2 x3 x4 (x5 + 1) h
set_option maxRecDepth 100000 in
theorem T_X10_goOnFrom_110 {Z : ZT} {nd : Nat} (C : Cx Z cX10_goOnFrom 7 RX10 (3 + nd + 1) none) (rec : Nat → Int → Int → Int → MH → Option MH) (hrec : ∀ (x1 : Nat) (x2 : Int) (x3 : Int) (x4 : Int) (hk_x1 : okX5 x1) (h : MH) (t : MH), rec x1 x2 x3 x4 h = some t → Ct (zl Z) (zX Z) yX10_goOnFrom cX10_goOnFrom 7 none (3 + nd) [rfv (xd (zX Z)) 75, rfv (xd (zX Z)) x1, iv x2, iv x3, iv x4] zN zG h none zN zG t 0 0) (k37 : Nat → Int → Int → Int → Int → MH → Option MH) (hk37 : ∀ (x1 : Nat) (x2 : Int) (x3 : Int) (x4 : Int) (x5 : Int) (hk_x1 : okX5 x1) (h : MH) (t : MH), k37 x1 x2 x3 x4 x5 h = some t → MW Z (Qm Z none zN zG t 0 0) 7 zN zG h 0 0 37 [(0, rfv (xd (zX Z)) 75), (1, rfv (xd (zX Z)) x1), (2, iv x2), (3, iv x3), (4, iv x4), (5, iv x5)] []) (x1 : Nat) (x2 : Int) (x3 : Int) (x4 : Int) (x5 : Int) (hk_x1 : okX5 x1) (h : MH) (t : MH) (hF : F_X10_goOnFrom_110 rec k37 x1 x2 x3 x4 x5 h = some t) : MW Z (Qm Z none zN zG t 0 0) 7 zN zG h 0 0 110 [(0, rfv (xd (zX Z)) 75), (1, rfv (xd (zX Z)) x1), (2, iv x2), (3, iv x3), (4, iv x4), (5, iv x5)] [] := by
  unfold F_X10_goOnFrom_110 at hF
  refine mw_iinc 5 [(5, iv (x5 + 1)), (0, rfv (xd (zX Z)) 75), (1, rfv (xd (zX Z)) x1), (2, iv x2), (3, iv x3), (4, iv x4)] C dX10_goOnFrom_110 rfl (by decide) rfl ?_
  refine mw_goto (tgt := 37) C dX10_goOnFrom_113 (by decide) ?_
  refine mw_sub [1, 2, 3, 4, 5, 0] rfl ?_
  exact hk37 x1 x2 x3 x4 (x5 + 1) hk_x1 _ _ hF
def F_X10_goOnFrom_37 (rec : Nat → Int → Int → Int → MH → Option MH) : Nat → Nat → Int → Int → Int → Int → MH → Option MH
  | 0, _, _, _, _, _, _ => none
  | n + 1, x1, x2, x3, x4, x5, h =>
    ck (in32 x5) <|
    ck (in32 (h x1 4)) <|
    if (h x1 4) ≤ x5 then
      some h
    else
      ck (0 ≤ (x2 - 1) ∧ (x2 - 1) < 7) <|
      (F_X5_washMinutes x1 (h 76 (x2 - 1).toNat) x5 h).bind fun q5 =>
      nx (x4 + q5.1) fun v6 =>
      ck (in32 (land32 (shr32 x3 x5) 1)) <|
      if (land32 (shr32 x3 x5) 1) ≠ 1 then
        F_X10_goOnFrom_110 rec (F_X10_goOnFrom_37 rec n) x1 x2 x3 x4 x5 q5.2
      else
        ck (in32 v6) <|
        ck (in32 (q5.2 75 3)) <|
        if (q5.2 75 3) ≤ v6 then
          F_X10_goOnFrom_110 rec (F_X10_goOnFrom_37 rec n) x1 x2 x3 x4 x5 q5.2
        else
          ck (0 ≤ x2 ∧ x2 < 7) <|
          nx (hup q5.2 76 x2.toNat x5) fun h13 =>
          (rec x1 (x2 + 1) (land32 x3 (lxor32 (shl32 1 x5) (-1))) v6 h13).bind fun q14 =>
          F_X10_goOnFrom_110 rec (F_X10_goOnFrom_37 rec n) x1 x2 x3 x4 x5 q14
set_option maxRecDepth 100000 in
theorem T_X10_goOnFrom_37 {Z : ZT} {nd : Nat} (C : Cx Z cX10_goOnFrom 7 RX10 (3 + nd + 1) none) (rec : Nat → Int → Int → Int → MH → Option MH) (hrec : ∀ (x1 : Nat) (x2 : Int) (x3 : Int) (x4 : Int) (hk_x1 : okX5 x1) (h : MH) (t : MH), rec x1 x2 x3 x4 h = some t → Ct (zl Z) (zX Z) yX10_goOnFrom cX10_goOnFrom 7 none (3 + nd) [rfv (xd (zX Z)) 75, rfv (xd (zX Z)) x1, iv x2, iv x3, iv x4] zN zG h none zN zG t 0 0) : ∀ (n : Nat) (x1 : Nat) (x2 : Int) (x3 : Int) (x4 : Int) (x5 : Int) (hk_x1 : okX5 x1) (h : MH) (t : MH), F_X10_goOnFrom_37 rec n x1 x2 x3 x4 x5 h = some t → MW Z (Qm Z none zN zG t 0 0) 7 zN zG h 0 0 37 [(0, rfv (xd (zX Z)) 75), (1, rfv (xd (zX Z)) x1), (2, iv x2), (3, iv x3), (4, iv x4), (5, iv x5)] [] := by
  intro n
  induction n with
  | zero =>
    intros
    rename_i hF
    exact absurd hF (by intro q; cases q)
  | succ n ih =>
    intro x1 x2 x3 x4 x5 hk_x1 h t hF
    rw [F_X10_goOnFrom_37] at hF
    refine mw_iload 5 C dX10_goOnFrom_37 rfl ?_
    refine mw_aload_n 1 C dX10_goOnFrom_39 rfl rfl ?_
    refine mw_get (k := 4) (T := TX5) (v := iv (h x1 4)) C dX10_goOnFrom_40 (okX5_n _ hk_x1) (okX5_k _ hk_x1) (by decide) rfl inX5 (by decide) wd131 rfl rfl ?_
    obtain ⟨g1, hF⟩ := ck_some hF
    obtain ⟨g2, hF⟩ := ck_some hF
    rcases ite_some hF with ⟨c3, hF⟩ | ⟨c3, hF⟩
    · refine mw_icmp_ge_t (tgt := 116) C dX10_goOnFrom_43 (by decide) g1 g2 c3 ?_
      cases hF
      exact mw_vret C dX10_goOnFrom_116 rfl rfl
    · refine mw_icmp_ge_f (tgt := 116) C dX10_goOnFrom_43 (by decide) g1 g2 c3 ?_
      refine mw_iload 4 C dX10_goOnFrom_46 rfl ?_
      refine mw_aload_n 1 C dX10_goOnFrom_48 rfl rfl ?_
      refine mw_aload_n 0 C dX10_goOnFrom_49 rfl rfl ?_
      refine mw_get (k := 0) (T := TX10) (v := rfv (xd (zX Z)) 76) C dX10_goOnFrom_50 zn75 zk75 (by decide) rfl inX10 (by decide) wd230 rfl (zfv_r rfl zg_75_0) ?_
      refine mw_iload_n 2 C dX10_goOnFrom_53 rfl rfl ?_
      refine mw_iconst C dX10_goOnFrom_54 ?_
      refine mw_isub C dX10_goOnFrom_55 ?_
      obtain ⟨g4, hF⟩ := ck_some hF
      refine mw_iald C dX10_goOnFrom_56 zn76 zk76 (by decide) g4 ?_
      refine mw_iload 5 C dX10_goOnFrom_57 rfl ?_
      obtain ⟨q5, hq5, hF⟩ := bind_some hF
      refine mw_callV (c := x1) [iv (h 76 (x2 - 1).toNat), iv x5] [iv x4] C dX10_goOnFrom_59 (T_X5_washMinutes (zl Z) (zX Z) x1 (h 76 (x2 - 1).toNat) x5 hk_x1 _ _ hq5) rfl (okX5_n _ hk_x1) (okX5_k _ hk_x1) (by decide) rfl wd833 wd581 wd582 wd4 wd583 hd_X5_washMinutes rfl (by omega) (by decide) (Nat.le_of_ble_eq_true rfl) ⟨Nat.zero_le _, Nat.zero_le _⟩ ?_
      refine mw_iadd C dX10_goOnFrom_62 ?_
      obtain ⟨v6, ev6, hF⟩ := nx_some hF
      refine mw_ti ev6 ?_
      refine mw_istore [(6, iv v6), (0, rfv (xd (zX Z)) 75), (1, rfv (xd (zX Z)) x1), (2, iv x2), (3, iv x3), (4, iv x4), (5, iv x5)] C dX10_goOnFrom_63 (by decide) rfl ?_
      refine mw_iload_n 4 C dX10_goOnFrom_65 rfl rfl ?_
      refine mw_iload 6 C dX10_goOnFrom_66 rfl ?_
      refine mw_ishr C dX10_goOnFrom_68 ?_
      refine mw_iconst C dX10_goOnFrom_69 ?_
      refine mw_iand C dX10_goOnFrom_70 ?_
      refine mw_iconst C dX10_goOnFrom_71 ?_
      obtain ⟨g7, hF⟩ := ck_some hF
      rcases ite_some hF with ⟨c8, hF⟩ | ⟨c8, hF⟩
      · refine mw_icmp_ne_t (tgt := 110) C dX10_goOnFrom_72 (by decide) g7 (by decide) c8 ?_
        refine mw_sub [1, 2, 3, 4, 5, 6] rfl ?_
        exact T_X10_goOnFrom_110 C rec hrec (F_X10_goOnFrom_37 rec n) ih x1 x2 x3 x4 x5 hk_x1 _ _ hF
      · refine mw_icmp_ne_f (tgt := 110) C dX10_goOnFrom_72 (by decide) g7 (by decide) c8 ?_
        refine mw_iload 0 C dX10_goOnFrom_75 rfl ?_
        refine mw_aload_n 1 C dX10_goOnFrom_77 rfl rfl ?_
        refine mw_get (k := 3) (T := TX10) (v := iv (q5.2 75 3)) C dX10_goOnFrom_78 zn75 zk75 (by decide) rfl inX10 (by decide) wd235 rfl rfl ?_
        obtain ⟨g9, hF⟩ := ck_some hF
        obtain ⟨g10, hF⟩ := ck_some hF
        rcases ite_some hF with ⟨c11, hF⟩ | ⟨c11, hF⟩
        · refine mw_icmp_ge_t (tgt := 110) C dX10_goOnFrom_81 (by decide) g9 g10 c11 ?_
          refine mw_sub [1, 2, 3, 4, 5, 6] rfl ?_
          exact T_X10_goOnFrom_110 C rec hrec (F_X10_goOnFrom_37 rec n) ih x1 x2 x3 x4 x5 hk_x1 _ _ hF
        · refine mw_icmp_ge_f (tgt := 110) C dX10_goOnFrom_81 (by decide) g9 g10 c11 ?_
          refine mw_aload_n 1 C dX10_goOnFrom_84 rfl rfl ?_
          refine mw_get (k := 0) (T := TX10) (v := rfv (xd (zX Z)) 76) C dX10_goOnFrom_85 zn75 zk75 (by decide) rfl inX10 (by decide) wd230 rfl (zfv_r rfl zg_75_0) ?_
          refine mw_iload_n 3 C dX10_goOnFrom_88 rfl rfl ?_
          refine mw_iload 6 C dX10_goOnFrom_89 rfl ?_
          obtain ⟨g12, hF⟩ := ck_some hF
          obtain ⟨h13, eh13, hF⟩ := nx_some hF
          refine mw_iast C dX10_goOnFrom_91 zn76 zk76 (by decide) g12 (mw_h eh13 ?_)
          refine mw_aload_n 1 C dX10_goOnFrom_92 rfl rfl ?_
          refine mw_aload_n 2 C dX10_goOnFrom_93 rfl rfl ?_
          refine mw_iload_n 3 C dX10_goOnFrom_94 rfl rfl ?_
          refine mw_iconst C dX10_goOnFrom_95 ?_
          refine mw_iadd C dX10_goOnFrom_96 ?_
          refine mw_iload_n 4 C dX10_goOnFrom_97 rfl rfl ?_
          refine mw_iconst C dX10_goOnFrom_98 ?_
          refine mw_iload 6 C dX10_goOnFrom_99 rfl ?_
          refine mw_ishl C dX10_goOnFrom_101 ?_
          refine mw_iconst C dX10_goOnFrom_102 ?_
          refine mw_ixor C dX10_goOnFrom_103 ?_
          refine mw_iand C dX10_goOnFrom_104 ?_
          refine mw_iload 0 C dX10_goOnFrom_105 rfl ?_
          obtain ⟨q14, hq14, hF⟩ := bind_some hF
          refine mw_callV (c := 75) [rfv (xd (zX Z)) x1, iv (x2 + 1), iv (land32 x3 (lxor32 (shl32 1 x5) (-1))), iv v6] [] C dX10_goOnFrom_107 (hrec x1 (x2 + 1) (land32 x3 (lxor32 (shl32 1 x5) (-1))) v6 hk_x1 _ _ hq14) rfl zn75 zk75 (by decide) rfl wd829 wd830 wd1355 wd11 wd831 hd_X10_goOnFrom rfl (by omega) (by decide) (Nat.le_of_ble_eq_true rfl) ⟨Nat.zero_le _, Nat.zero_le _⟩ ?_
          refine mw_sub [1, 2, 3, 4, 5, 6] rfl ?_
          exact T_X10_goOnFrom_110 C rec hrec (F_X10_goOnFrom_37 rec n) ih x1 x2 x3 x4 x5 hk_x1 _ _ hF
def F_X10_goOnFrom_0 (rec : Nat → Int → Int → Int → MH → Option MH) (x1 : Nat) (x2 : Int) (x3 : Int) (x4 : Int) (h : MH) : Option MH :=
  ck (in32 x3) <|
  if x3 = 0 then
    F_X10_goOnFrom_10 rec x4 h
  else
    ck (in32 x2) <|
    if x2 < 7 then
      F_X10_goOnFrom_37 rec 20000 x1 x2 x3 x4 0 h
    else
      F_X10_goOnFrom_10 rec x4 h
set_option maxRecDepth 100000 in
theorem T_X10_goOnFrom_0 {Z : ZT} {nd : Nat} (C : Cx Z cX10_goOnFrom 7 RX10 (3 + nd + 1) none) (rec : Nat → Int → Int → Int → MH → Option MH) (hrec : ∀ (x1 : Nat) (x2 : Int) (x3 : Int) (x4 : Int) (hk_x1 : okX5 x1) (h : MH) (t : MH), rec x1 x2 x3 x4 h = some t → Ct (zl Z) (zX Z) yX10_goOnFrom cX10_goOnFrom 7 none (3 + nd) [rfv (xd (zX Z)) 75, rfv (xd (zX Z)) x1, iv x2, iv x3, iv x4] zN zG h none zN zG t 0 0) (x1 : Nat) (x2 : Int) (x3 : Int) (x4 : Int) (hk_x1 : okX5 x1) (h : MH) (t : MH) (hF : F_X10_goOnFrom_0 rec x1 x2 x3 x4 h = some t) : MW Z (Qm Z none zN zG t 0 0) 7 zN zG h 0 0 0 [(0, rfv (xd (zX Z)) 75), (1, rfv (xd (zX Z)) x1), (2, iv x2), (3, iv x3), (4, iv x4)] [] := by
  unfold F_X10_goOnFrom_0 at hF
  refine mw_iload_n 3 C dX10_goOnFrom_0 rfl rfl ?_
  obtain ⟨g1, hF⟩ := ck_some hF
  rcases ite_some hF with ⟨c2, hF⟩ | ⟨c2, hF⟩
  · refine mw_if_eq_t (tgt := 10) C dX10_goOnFrom_1 (by decide) g1 c2 ?_
    refine mw_sub [0, 4] rfl ?_
    exact T_X10_goOnFrom_10 C rec hrec x4 _ _ hF
  · refine mw_if_eq_f (tgt := 10) C dX10_goOnFrom_1 (by decide) g1 c2 ?_
    refine mw_iload_n 2 C dX10_goOnFrom_4 rfl rfl ?_
    refine mw_bipush C dX10_goOnFrom_5 bp_7 ?_
    obtain ⟨g3, hF⟩ := ck_some hF
    rcases ite_some hF with ⟨c4, hF⟩ | ⟨c4, hF⟩
    · refine mw_icmp_lt_t (tgt := 34) C dX10_goOnFrom_7 (by decide) g3 (by decide) c4 ?_
      refine mw_iconst C dX10_goOnFrom_34 ?_
      refine mw_istore [(5, iv 0), (0, rfv (xd (zX Z)) 75), (1, rfv (xd (zX Z)) x1), (2, iv x2), (3, iv x3), (4, iv x4)] C dX10_goOnFrom_35 (by decide) rfl ?_
      refine mw_sub [1, 2, 3, 4, 5, 0] rfl ?_
      exact T_X10_goOnFrom_37 C rec hrec 20000 x1 x2 x3 x4 0 hk_x1 _ _ hF
    · refine mw_icmp_lt_f (tgt := 34) C dX10_goOnFrom_7 (by decide) g3 (by decide) c4 ?_
      refine mw_sub [0, 4] rfl ?_
      exact T_X10_goOnFrom_10 C rec hrec x4 _ _ hF
def F_X10_goOnFrom : Nat → Nat → Int → Int → Int → MH → Option MH
  | 0, _, _, _, _, _ => none
  | nd + 1, x1, x2, x3, x4, h => F_X10_goOnFrom_0 (F_X10_goOnFrom nd) x1 x2 x3 x4 h
theorem T_X10_goOnFrom (l : Launch) (X : XT) : ∀ (nd : Nat) (x1 : Nat) (x2 : Int) (x3 : Int) (x4 : Int) (hk_x1 : okX5 x1) (h : MH) (t : MH), F_X10_goOnFrom nd x1 x2 x3 x4 h = some t → Ct l X yX10_goOnFrom cX10_goOnFrom 7 none (3 + nd) [rfv (xd X) 75, rfv (xd X) x1, iv x2, iv x3, iv x4] zN zG h none zN zG t 0 0 := by
  intro nd
  induction nd with
  | zero =>
    intros
    rename_i hF
    exact absurd hF (by intro q; cases q)
  | succ nd ih =>
    intro x1 x2 x3 x4 hk_x1 h t hF
    rw [F_X10_goOnFrom] at hF
    refine Ct.head (by decide) (Nat.le_of_ble_eq_true rfl) (fun Z hX hl _ _ _ C => ?_)
    subst hX
    subst hl
    exact (T_X10_goOnFrom_0 C _ ih x1 x2 x3 x4 hk_x1 _ _ hF)
/-! BottleLine$Washing.findOrder(LBottleLine$Plan;II)I -/
def F_X10_findOrder_0 (x1 : Nat) (x2 : Int) (x3 : Int) (h : MH) : Option (Int × MH) :=
  (F_J6_bitCount_0f7a4 x2 h).bind fun q1 =>
  nx (hup q1.2 75 2 q1.1) fun h2 =>
  nx (hup h2 75 3 1000000) fun h3 =>
  nx (hup h3 76 0 x3) fun h4 =>
  (F_X10_goOnFrom 10 x1 1 (land32 x2 (lxor32 (shl32 1 x3) (-1))) 0 h4).bind fun q5 =>
  some ((q5 75 3), q5)
set_option maxRecDepth 100000 in
theorem T_X10_findOrder_0 {Z : ZT} (C : Cx Z cX10_findOrder 4 RX10 16 (some .int)) (x1 : Nat) (x2 : Int) (x3 : Int) (hk_x1 : okX5 x1) (h : MH) (t : (Int × MH)) (hF : F_X10_findOrder_0 x1 x2 x3 h = some t) : MW Z (Qm Z (some (iv t.1)) zN zG t.2 0 0) 4 zN zG h 0 0 0 [(0, rfv (xd (zX Z)) 75), (1, rfv (xd (zX Z)) x1), (2, iv x2), (3, iv x3)] [] := by
  unfold F_X10_findOrder_0 at hF
  refine mw_aload_n 0 C dX10_findOrder_0 rfl rfl ?_
  refine mw_iload_n 2 C dX10_findOrder_1 rfl rfl ?_
  obtain ⟨q1, hq1, hF⟩ := bind_some hF
  refine mw_callS [iv x2] [rfv (xd (zX Z)) 75] C dX10_findOrder_2 (T_J6_bitCount_0f7a4 (zl Z) (zX Z) x2 _ _ hq1) rfl wd822 wd823 wd22 wd824 hd_J6_bitCount_0f7a4 rfl (by decide) (by decide) (Nat.le_of_ble_eq_true rfl) ⟨Nat.zero_le _, Nat.zero_le _⟩ ?_
  obtain ⟨h2, eh2, hF⟩ := nx_some hF
  refine mw_put (k := 2) (T := TX10) (ty0 := tyX10) (x := q1.1) C dX10_findOrder_5 zn75 zk75 (by decide) rfl inX10 tyX10_ok nmX10 (by decide) wd233 rfl rfl rfl rfl rfl (by decide) (mw_h eh2 ?_)
  refine mw_aload_n 0 C dX10_findOrder_8 rfl rfl ?_
  refine mw_ldc (a := 1000000) C dX10_findOrder_9 wd828 rfl ?_
  obtain ⟨h3, eh3, hF⟩ := nx_some hF
  refine mw_put (k := 3) (T := TX10) (ty0 := tyX10) (x := 1000000) C dX10_findOrder_11 zn75 zk75 (by decide) rfl inX10 tyX10_ok nmX10 (by decide) wd235 rfl rfl rfl rfl rfl (by decide) (mw_h eh3 ?_)
  refine mw_aload_n 0 C dX10_findOrder_14 rfl rfl ?_
  refine mw_get (k := 0) (T := TX10) (v := rfv (xd (zX Z)) 76) C dX10_findOrder_15 zn75 zk75 (by decide) rfl inX10 (by decide) wd230 rfl (zfv_r rfl zg_75_0) ?_
  refine mw_iconst C dX10_findOrder_18 ?_
  refine mw_iload_n 3 C dX10_findOrder_19 rfl rfl ?_
  obtain ⟨h4, eh4, hF⟩ := nx_some hF
  refine mw_iast C dX10_findOrder_20 zn76 zk76 (by decide) (by decide) (mw_h eh4 ?_)
  refine mw_aload_n 0 C dX10_findOrder_21 rfl rfl ?_
  refine mw_aload_n 1 C dX10_findOrder_22 rfl rfl ?_
  refine mw_iconst C dX10_findOrder_23 ?_
  refine mw_iload_n 2 C dX10_findOrder_24 rfl rfl ?_
  refine mw_iconst C dX10_findOrder_25 ?_
  refine mw_iload_n 3 C dX10_findOrder_26 rfl rfl ?_
  refine mw_ishl C dX10_findOrder_27 ?_
  refine mw_iconst C dX10_findOrder_28 ?_
  refine mw_ixor C dX10_findOrder_29 ?_
  refine mw_iand C dX10_findOrder_30 ?_
  refine mw_iconst C dX10_findOrder_31 ?_
  obtain ⟨q5, hq5, hF⟩ := bind_some hF
  refine mw_callV (c := 75) [rfv (xd (zX Z)) x1, iv 1, iv (land32 x2 (lxor32 (shl32 1 x3) (-1))), iv 0] [] C dX10_findOrder_32 (T_X10_goOnFrom (zl Z) (zX Z) 10 x1 1 (land32 x2 (lxor32 (shl32 1 x3) (-1))) 0 hk_x1 _ _ hq5) rfl zn75 zk75 (by decide) rfl wd829 wd830 wd1355 wd11 wd831 hd_X10_goOnFrom rfl (by decide) (by decide) (Nat.le_of_ble_eq_true rfl) ⟨Nat.zero_le _, Nat.zero_le _⟩ ?_
  refine mw_aload_n 0 C dX10_findOrder_35 rfl rfl ?_
  refine mw_get (k := 3) (T := TX10) (v := iv (q5 75 3)) C dX10_findOrder_36 zn75 zk75 (by decide) rfl inX10 (by decide) wd235 rfl rfl ?_
  cases hF
  exact mw_iret C dX10_findOrder_39 rfl rfl
def F_X10_findOrder (x1 : Nat) (x2 : Int) (x3 : Int) (h : MH) : Option (Int × MH) := F_X10_findOrder_0 x1 x2 x3 h
theorem T_X10_findOrder (l : Launch) (X : XT) (x1 : Nat) (x2 : Int) (x3 : Int) (hk_x1 : okX5 x1) (h : MH) (t : (Int × MH)) (hF : F_X10_findOrder x1 x2 x3 h = some t) : Ct l X yX10_findOrder cX10_findOrder 4 (some .int) 16 [rfv (xd X) 75, rfv (xd X) x1, iv x2, iv x3] zN zG h (some (iv t.1)) zN zG t.2 0 0 := by
  refine Ct.head (by decide) (Nat.le_of_ble_eq_true rfl) (fun Z hX hl _ _ _ C => ?_)
  subst hX
  subst hl
  exact (T_X10_findOrder_0 C x1 x2 x3 hk_x1 _ _ hF)
