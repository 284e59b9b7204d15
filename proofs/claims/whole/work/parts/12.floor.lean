/-! BottleLine$Floor.made()I -/
def F_X1_made_0 (x0 : Nat) (h : MH) : Option (Int × MH) :=
  ck (in32 (h x0 0)) <|
  if (h x0 0) ≠ 0 then
    ck (0 ≤ ((h x0 0) - 1) ∧ ((h x0 0) - 1) < 6) <|
    some ((h (x0 + 7) ((h x0 0) - 1).toNat), h)
  else
    some (0, h)
set_option maxRecDepth 100000 in
theorem T_X1_made_0 {Z : ZT} (C : Cx Z cX1_made 1 RX1 1 (some .int)) (x0 : Nat) (hk_x0 : okX1 x0) (h : MH) (t : (Int × MH)) (hF : F_X1_made_0 x0 h = some t) : MW Z (Qm Z (some (iv t.1)) zN zG t.2 0 0) 1 zN zG h 0 0 0 [(0, rfv (xd (zX Z)) x0)] [] := by
  unfold F_X1_made_0 at hF
  refine mw_aload_n 0 C dX1_made_0 rfl rfl ?_
  refine mw_get (k := 0) (T := TX1) (v := iv (h x0 0)) C dX1_made_1 (okX1_n _ hk_x0) (okX1_k _ hk_x0) (by decide) rfl inX1 (by decide) wd76 rfl rfl ?_
  obtain ⟨g1, hF⟩ := ck_some hF
  rcases ite_some hF with ⟨c2, hF⟩ | ⟨c2, hF⟩
  · refine mw_if_ne_t (tgt := 11) C dX1_made_4 (by decide) g1 c2 ?_
    refine mw_aload_n 0 C dX1_made_11 rfl rfl ?_
    refine mw_get (k := 10) (T := TX1) (v := rfv (xd (zX Z)) (x0 + 7)) C dX1_made_12 (okX1_n _ hk_x0) (okX1_k _ hk_x0) (by decide) rfl inX1 (by decide) wd109 rfl (zfv_r rfl (okX1_g10 _ hk_x0)) ?_
    refine mw_aload_n 0 C dX1_made_15 rfl rfl ?_
    refine mw_get (k := 0) (T := TX1) (v := iv (h x0 0)) C dX1_made_16 (okX1_n _ hk_x0) (okX1_k _ hk_x0) (by decide) rfl inX1 (by decide) wd76 rfl rfl ?_
    refine mw_iconst C dX1_made_19 ?_
    refine mw_isub C dX1_made_20 ?_
    obtain ⟨g3, hF⟩ := ck_some hF
    refine mw_iald C dX1_made_21 (okX1_f10 _ hk_x0).2.1 (okX1_f10 _ hk_x0).1 (okX1_f10 _ hk_x0).2.2 g3 ?_
    cases hF
    exact mw_iret C dX1_made_22 rfl rfl
  · refine mw_if_ne_f (tgt := 11) C dX1_made_4 (by decide) g1 c2 ?_
    refine mw_iconst C dX1_made_7 ?_
    refine mw_goto (tgt := 22) C dX1_made_8 (by decide) ?_
    cases hF
    exact mw_iret C dX1_made_22 rfl rfl
def F_X1_made (x0 : Nat) (h : MH) : Option (Int × MH) := F_X1_made_0 x0 h
theorem T_X1_made (l : Launch) (X : XT) (x0 : Nat) (hk_x0 : okX1 x0) (h : MH) (t : (Int × MH)) (hF : F_X1_made x0 h = some t) : Ct l X yX1_made cX1_made 1 (some .int) 1 [rfv (xd X) x0] zN zG h (some (iv t.1)) zN zG t.2 0 0 := by
  refine Ct.head (by decide) (Nat.le_of_ble_eq_true rfl) (fun Z hX hl _ _ _ C => ?_)
  subst hX
  subst hl
  exact (T_X1_made_0 C x0 hk_x0 _ _ hF)
/-! BottleLine$Floor.draw()I -/
def F_X1_draw_0 (x0 : Nat) (h : MH) : Option (Int × MH) :=
  ck (in32 (((h x0 6) * 3373) + 12289)) <|
  nx (hup h x0 6 (Int.tmod (((h x0 6) * 3373) + 12289) 65536)) fun h2 =>
  ck (in32 (h2 x0 6)) <|
  ck (in32 (Int.tdiv (h2 x0 6) 8)) <|
  some ((Int.tmod (Int.tdiv (h2 x0 6) 8) 64), h2)
set_option maxRecDepth 100000 in
theorem T_X1_draw_0 {Z : ZT} (C : Cx Z cX1_draw 1 RX1 1 (some .int)) (x0 : Nat) (hk_x0 : okX1 x0) (h : MH) (t : (Int × MH)) (hF : F_X1_draw_0 x0 h = some t) : MW Z (Qm Z (some (iv t.1)) zN zG t.2 0 0) 1 zN zG h 0 0 0 [(0, rfv (xd (zX Z)) x0)] [] := by
  unfold F_X1_draw_0 at hF
  refine mw_aload_n 0 C dX1_draw_0 rfl rfl ?_
  refine mw_aload_n 0 C dX1_draw_1 rfl rfl ?_
  refine mw_get (k := 6) (T := TX1) (v := iv (h x0 6)) C dX1_draw_2 (okX1_n _ hk_x0) (okX1_k _ hk_x0) (by decide) rfl inX1 (by decide) wd99 rfl rfl ?_
  refine mw_sipush C dX1_draw_5 sp_3373 ?_
  refine mw_imul C dX1_draw_8 ?_
  refine mw_sipush C dX1_draw_9 sp_12289 ?_
  refine mw_iadd C dX1_draw_12 ?_
  refine mw_ldc (a := 65536) C dX1_draw_13 wd611 rfl ?_
  obtain ⟨g1, hF⟩ := ck_some hF
  refine mw_irem C dX1_draw_15 g1 (by decide) (by decide) ?_
  obtain ⟨h2, eh2, hF⟩ := nx_some hF
  refine mw_put (k := 6) (T := TX1) (ty0 := tyX1) (x := (Int.tmod (((h x0 6) * 3373) + 12289) 65536)) C dX1_draw_16 (okX1_n _ hk_x0) (okX1_k _ hk_x0) (by decide) rfl inX1 tyX1_ok nmX1 (by decide) wd99 rfl rfl rfl rfl rfl (by decide) (mw_h eh2 ?_)
  refine mw_aload_n 0 C dX1_draw_19 rfl rfl ?_
  refine mw_get (k := 6) (T := TX1) (v := iv (h2 x0 6)) C dX1_draw_20 (okX1_n _ hk_x0) (okX1_k _ hk_x0) (by decide) rfl inX1 (by decide) wd99 rfl rfl ?_
  refine mw_bipush C dX1_draw_23 bp_8 ?_
  obtain ⟨g3, hF⟩ := ck_some hF
  refine mw_idiv C dX1_draw_25 g3 (by decide) (by decide) ?_
  refine mw_bipush C dX1_draw_26 bp_64 ?_
  obtain ⟨g4, hF⟩ := ck_some hF
  refine mw_irem C dX1_draw_28 g4 (by decide) (by decide) ?_
  cases hF
  exact mw_iret C dX1_draw_29 rfl rfl
def F_X1_draw (x0 : Nat) (h : MH) : Option (Int × MH) := F_X1_draw_0 x0 h
theorem T_X1_draw (l : Launch) (X : XT) (x0 : Nat) (hk_x0 : okX1 x0) (h : MH) (t : (Int × MH)) (hF : F_X1_draw x0 h = some t) : Ct l X yX1_draw cX1_draw 1 (some .int) 1 [rfv (xd X) x0] zN zG h (some (iv t.1)) zN zG t.2 0 0 := by
  refine Ct.head (by decide) (Nat.le_of_ble_eq_true rfl) (fun Z hX hl _ _ _ C => ?_)
  subst hX
  subst hl
  exact (T_X1_draw_0 C x0 hk_x0 _ _ hF)
/-! BottleLine$Floor.standsStill(I)Z -/
def F_X1_standsStill_0 (x0 : Nat) (x1 : Int) (h : MH) : Option (Int × MH) :=
  ck (0 ≤ x1 ∧ x1 < 6) <|
  ck (in32 (h (x0 + 5) x1.toNat)) <|
  if (h (x0 + 5) x1.toNat) ≤ 0 then
    ck (in32 (h (x0 + 2) x1.toNat)) <|
    if (h (x0 + 2) x1.toNat) = 0 then
      some (0, h)
    else
      (F_X1_draw x0 h).bind fun q6 =>
      ck (in32 q6.1) <|
      ck (in32 (q6.2 (x0 + 2) x1.toNat)) <|
      if q6.1 < (q6.2 (x0 + 2) x1.toNat) then
        nx (hup q6.2 (x0 + 5) x1.toNat ((q6.2 (x0 + 3) x1.toNat) - 1)) fun h10 =>
        some (1, h10)
      else
        some (0, q6.2)
  else
    nx (hup h (x0 + 5) x1.toNat ((h (x0 + 5) x1.toNat) - 1)) fun h11 =>
    some (1, h11)
set_option maxRecDepth 100000 in
theorem T_X1_standsStill_0 {Z : ZT} (C : Cx Z cX1_standsStill 2 RX1 2 (some .boolean)) (x0 : Nat) (x1 : Int) (hk_x0 : okX1 x0) (h : MH) (t : (Int × MH)) (hF : F_X1_standsStill_0 x0 x1 h = some t) : MW Z (Qm Z (some (iv t.1)) zN zG t.2 0 0) 2 zN zG h 0 0 0 [(0, rfv (xd (zX Z)) x0), (1, iv x1)] [] := by
  unfold F_X1_standsStill_0 at hF
  refine mw_aload_n 0 C dX1_standsStill_0 rfl rfl ?_
  refine mw_get (k := 8) (T := TX1) (v := rfv (xd (zX Z)) (x0 + 5)) C dX1_standsStill_1 (okX1_n _ hk_x0) (okX1_k _ hk_x0) (by decide) rfl inX1 (by decide) wd102 rfl (zfv_r rfl (okX1_g8 _ hk_x0)) ?_
  refine mw_iload_n 1 C dX1_standsStill_4 rfl rfl ?_
  obtain ⟨g1, hF⟩ := ck_some hF
  refine mw_iald C dX1_standsStill_5 (okX1_f8 _ hk_x0).2.1 (okX1_f8 _ hk_x0).1 (okX1_f8 _ hk_x0).2.2 g1 ?_
  obtain ⟨g2, hF⟩ := ck_some hF
  rcases ite_some hF with ⟨c3, hF⟩ | ⟨c3, hF⟩
  · refine mw_if_le_t (tgt := 21) C dX1_standsStill_6 (by decide) g2 c3 ?_
    refine mw_aload_n 0 C dX1_standsStill_21 rfl rfl ?_
    refine mw_get (k := 2) (T := TX1) (v := rfv (xd (zX Z)) (x0 + 2)) C dX1_standsStill_22 (okX1_n _ hk_x0) (okX1_k _ hk_x0) (by decide) rfl inX1 (by decide) wd87 rfl (zfv_r rfl (okX1_g2 _ hk_x0)) ?_
    refine mw_iload_n 1 C dX1_standsStill_25 rfl rfl ?_
    refine mw_iald C dX1_standsStill_26 (okX1_f2 _ hk_x0).2.1 (okX1_f2 _ hk_x0).1 (okX1_f2 _ hk_x0).2.2 g1 ?_
    obtain ⟨g4, hF⟩ := ck_some hF
    rcases ite_some hF with ⟨c5, hF⟩ | ⟨c5, hF⟩
    · refine mw_if_eq_t (tgt := 43) C dX1_standsStill_27 (by decide) g4 c5 ?_
      refine mw_iconst C dX1_standsStill_43 ?_
      cases hF
      exact mw_zret C dX1_standsStill_44 (Or.inl rfl) rfl rfl
    · refine mw_if_eq_f (tgt := 43) C dX1_standsStill_27 (by decide) g4 c5 ?_
      refine mw_aload_n 0 C dX1_standsStill_30 rfl rfl ?_
      obtain ⟨q6, hq6, hF⟩ := bind_some hF
      refine mw_callV (c := x0) [] [] C dX1_standsStill_31 (T_X1_draw (zl Z) (zX Z) x0 hk_x0 _ _ hq6) rfl (okX1_n _ hk_x0) (okX1_k _ hk_x0) (by decide) rfl wd608 wd609 wd1337 wd5 wd610 hd_X1_draw rfl (by decide) (by decide) (Nat.le_of_ble_eq_true rfl) ⟨Nat.zero_le _, Nat.zero_le _⟩ ?_
      refine mw_aload_n 0 C dX1_standsStill_34 rfl rfl ?_
      refine mw_get (k := 2) (T := TX1) (v := rfv (xd (zX Z)) (x0 + 2)) C dX1_standsStill_35 (okX1_n _ hk_x0) (okX1_k _ hk_x0) (by decide) rfl inX1 (by decide) wd87 rfl (zfv_r rfl (okX1_g2 _ hk_x0)) ?_
      refine mw_iload_n 1 C dX1_standsStill_38 rfl rfl ?_
      refine mw_iald C dX1_standsStill_39 (okX1_f2 _ hk_x0).2.1 (okX1_f2 _ hk_x0).1 (okX1_f2 _ hk_x0).2.2 g1 ?_
      obtain ⟨g7, hF⟩ := ck_some hF
      obtain ⟨g8, hF⟩ := ck_some hF
      rcases ite_some hF with ⟨c9, hF⟩ | ⟨c9, hF⟩
      · refine mw_icmp_lt_t (tgt := 45) C dX1_standsStill_40 (by decide) g7 g8 c9 ?_
        refine mw_aload_n 0 C dX1_standsStill_45 rfl rfl ?_
        refine mw_get (k := 8) (T := TX1) (v := rfv (xd (zX Z)) (x0 + 5)) C dX1_standsStill_46 (okX1_n _ hk_x0) (okX1_k _ hk_x0) (by decide) rfl inX1 (by decide) wd102 rfl (zfv_r rfl (okX1_g8 _ hk_x0)) ?_
        refine mw_iload_n 1 C dX1_standsStill_49 rfl rfl ?_
        refine mw_aload_n 0 C dX1_standsStill_50 rfl rfl ?_
        refine mw_get (k := 3) (T := TX1) (v := rfv (xd (zX Z)) (x0 + 3)) C dX1_standsStill_51 (okX1_n _ hk_x0) (okX1_k _ hk_x0) (by decide) rfl inX1 (by decide) wd90 rfl (zfv_r rfl (okX1_g3 _ hk_x0)) ?_
        refine mw_iload_n 1 C dX1_standsStill_54 rfl rfl ?_
        refine mw_iald C dX1_standsStill_55 (okX1_f3 _ hk_x0).2.1 (okX1_f3 _ hk_x0).1 (okX1_f3 _ hk_x0).2.2 g1 ?_
        refine mw_iconst C dX1_standsStill_56 ?_
        refine mw_isub C dX1_standsStill_57 ?_
        obtain ⟨h10, eh10, hF⟩ := nx_some hF
        refine mw_iast C dX1_standsStill_58 (okX1_f8 _ hk_x0).2.1 (okX1_f8 _ hk_x0).1 (okX1_f8 _ hk_x0).2.2 g1 (mw_h eh10 ?_)
        refine mw_iconst C dX1_standsStill_59 ?_
        cases hF
        exact mw_zret C dX1_standsStill_60 (Or.inr rfl) rfl rfl
      · refine mw_icmp_lt_f (tgt := 45) C dX1_standsStill_40 (by decide) g7 g8 c9 ?_
        refine mw_iconst C dX1_standsStill_43 ?_
        cases hF
        exact mw_zret C dX1_standsStill_44 (Or.inl rfl) rfl rfl
  · refine mw_if_le_f (tgt := 21) C dX1_standsStill_6 (by decide) g2 c3 ?_
    refine mw_aload_n 0 C dX1_standsStill_9 rfl rfl ?_
    refine mw_get (k := 8) (T := TX1) (v := rfv (xd (zX Z)) (x0 + 5)) C dX1_standsStill_10 (okX1_n _ hk_x0) (okX1_k _ hk_x0) (by decide) rfl inX1 (by decide) wd102 rfl (zfv_r rfl (okX1_g8 _ hk_x0)) ?_
    refine mw_iload_n 1 C dX1_standsStill_13 rfl rfl ?_
    refine mw_dup2 C dX1_standsStill_14 rfl rfl ?_
    refine mw_iald C dX1_standsStill_15 (okX1_f8 _ hk_x0).2.1 (okX1_f8 _ hk_x0).1 (okX1_f8 _ hk_x0).2.2 g1 ?_
    refine mw_iconst C dX1_standsStill_16 ?_
    refine mw_isub C dX1_standsStill_17 ?_
    obtain ⟨h11, eh11, hF⟩ := nx_some hF
    refine mw_iast C dX1_standsStill_18 (okX1_f8 _ hk_x0).2.1 (okX1_f8 _ hk_x0).1 (okX1_f8 _ hk_x0).2.2 g1 (mw_h eh11 ?_)
    refine mw_iconst C dX1_standsStill_19 ?_
    cases hF
    exact mw_zret C dX1_standsStill_20 (Or.inr rfl) rfl rfl
def F_X1_standsStill (x0 : Nat) (x1 : Int) (h : MH) : Option (Int × MH) := F_X1_standsStill_0 x0 x1 h
theorem T_X1_standsStill (l : Launch) (X : XT) (x0 : Nat) (x1 : Int) (hk_x0 : okX1 x0) (h : MH) (t : (Int × MH)) (hF : F_X1_standsStill x0 x1 h = some t) : Ct l X yX1_standsStill cX1_standsStill 2 (some .boolean) 2 [rfv (xd X) x0, iv x1] zN zG h (some (iv t.1)) zN zG t.2 0 0 := by
  refine Ct.head (by decide) (Nat.le_of_ble_eq_true rfl) (fun Z hX hl _ _ _ C => ?_)
  subst hX
  subst hl
  exact (T_X1_standsStill_0 C x0 x1 hk_x0 _ _ hF)
/-! BottleLine$Floor.moveBottles(I)I -/
def F_X1_moveBottles_101 (x0 : Nat) (x1 : Int) (x2 : Int) (x3 : Int) (x4 : Int) (h : MH) : Option (Int × MH) :=
  ck (0 ≤ x1 ∧ x1 < 6) <|
  nx (hup h (x0 + 7) x1.toNat ((h (x0 + 7) x1.toNat) + x4)) fun h2 =>
  ck (in32 x4) <|
  ck (in32 (h2 (x0 + 1) x1.toNat)) <|
  if x4 ≠ (h2 (x0 + 1) x1.toNat) then
    ck (in32 x2) <|
    if (h2 (x0 + 1) x1.toNat) ≤ x2 then
      some (2, h2)
    else
      ck (in32 x3) <|
      if x3 < x2 then
        some (2, h2)
      else
        some (1, h2)
  else
    some (0, h2)
set_option maxRecDepth 100000 in
theorem T_X1_moveBottles_101 {Z : ZT} (C : Cx Z cX1_moveBottles 5 RX1 1 (some .int)) (x0 : Nat) (x1 : Int) (x2 : Int) (x3 : Int) (x4 : Int) (hk_x0 : okX1 x0) (h : MH) (t : (Int × MH)) (hF : F_X1_moveBottles_101 x0 x1 x2 x3 x4 h = some t) : MW Z (Qm Z (some (iv t.1)) zN zG t.2 0 0) 5 zN zG h 0 0 101 [(0, rfv (xd (zX Z)) x0), (1, iv x1), (2, iv x2), (3, iv x3), (4, iv x4)] [] := by
  unfold F_X1_moveBottles_101 at hF
  refine mw_aload_n 0 C dX1_moveBottles_101 rfl rfl ?_
  refine mw_get (k := 10) (T := TX1) (v := rfv (xd (zX Z)) (x0 + 7)) C dX1_moveBottles_102 (okX1_n _ hk_x0) (okX1_k _ hk_x0) (by decide) rfl inX1 (by decide) wd109 rfl (zfv_r rfl (okX1_g10 _ hk_x0)) ?_
  refine mw_iload_n 1 C dX1_moveBottles_105 rfl rfl ?_
  refine mw_dup2 C dX1_moveBottles_106 rfl rfl ?_
  obtain ⟨g1, hF⟩ := ck_some hF
  refine mw_iald C dX1_moveBottles_107 (okX1_f10 _ hk_x0).2.1 (okX1_f10 _ hk_x0).1 (okX1_f10 _ hk_x0).2.2 g1 ?_
  refine mw_iload 4 C dX1_moveBottles_108 rfl ?_
  refine mw_iadd C dX1_moveBottles_110 ?_
  obtain ⟨h2, eh2, hF⟩ := nx_some hF
  refine mw_iast C dX1_moveBottles_111 (okX1_f10 _ hk_x0).2.1 (okX1_f10 _ hk_x0).1 (okX1_f10 _ hk_x0).2.2 g1 (mw_h eh2 ?_)
  refine mw_iload 4 C dX1_moveBottles_112 rfl ?_
  refine mw_aload_n 0 C dX1_moveBottles_114 rfl rfl ?_
  refine mw_get (k := 1) (T := TX1) (v := rfv (xd (zX Z)) (x0 + 1)) C dX1_moveBottles_115 (okX1_n _ hk_x0) (okX1_k _ hk_x0) (by decide) rfl inX1 (by decide) wd82 rfl (zfv_r rfl (okX1_g1 _ hk_x0)) ?_
  refine mw_iload_n 1 C dX1_moveBottles_118 rfl rfl ?_
  refine mw_iald C dX1_moveBottles_119 (okX1_f1 _ hk_x0).2.1 (okX1_f1 _ hk_x0).1 (okX1_f1 _ hk_x0).2.2 g1 ?_
  obtain ⟨g3, hF⟩ := ck_some hF
  obtain ⟨g4, hF⟩ := ck_some hF
  rcases ite_some hF with ⟨c5, hF⟩ | ⟨c5, hF⟩
  · refine mw_icmp_ne_t (tgt := 125) C dX1_moveBottles_120 (by decide) g3 g4 c5 ?_
    refine mw_iload_n 2 C dX1_moveBottles_125 rfl rfl ?_
    refine mw_aload_n 0 C dX1_moveBottles_126 rfl rfl ?_
    refine mw_get (k := 1) (T := TX1) (v := rfv (xd (zX Z)) (x0 + 1)) C dX1_moveBottles_127 (okX1_n _ hk_x0) (okX1_k _ hk_x0) (by decide) rfl inX1 (by decide) wd82 rfl (zfv_r rfl (okX1_g1 _ hk_x0)) ?_
    refine mw_iload_n 1 C dX1_moveBottles_130 rfl rfl ?_
    refine mw_iald C dX1_moveBottles_131 (okX1_f1 _ hk_x0).2.1 (okX1_f1 _ hk_x0).1 (okX1_f1 _ hk_x0).2.2 g1 ?_
    obtain ⟨g6, hF⟩ := ck_some hF
    rcases ite_some hF with ⟨c7, hF⟩ | ⟨c7, hF⟩
    · refine mw_icmp_ge_t (tgt := 144) C dX1_moveBottles_132 (by decide) g6 g4 c7 ?_
      refine mw_iconst C dX1_moveBottles_144 ?_
      cases hF
      exact mw_iret C dX1_moveBottles_145 rfl rfl
    · refine mw_icmp_ge_f (tgt := 144) C dX1_moveBottles_132 (by decide) g6 g4 c7 ?_
      refine mw_iload_n 2 C dX1_moveBottles_135 rfl rfl ?_
      refine mw_iload_n 3 C dX1_moveBottles_136 rfl rfl ?_
      obtain ⟨g8, hF⟩ := ck_some hF
      rcases ite_some hF with ⟨c9, hF⟩ | ⟨c9, hF⟩
      · refine mw_icmp_gt_t (tgt := 144) C dX1_moveBottles_137 (by decide) g6 g8 c9 ?_
        refine mw_iconst C dX1_moveBottles_144 ?_
        cases hF
        exact mw_iret C dX1_moveBottles_145 rfl rfl
      · refine mw_icmp_gt_f (tgt := 144) C dX1_moveBottles_137 (by decide) g6 g8 c9 ?_
        refine mw_iconst C dX1_moveBottles_140 ?_
        refine mw_goto (tgt := 145) C dX1_moveBottles_141 (by decide) ?_
        cases hF
        exact mw_iret C dX1_moveBottles_145 rfl rfl
  · refine mw_icmp_ne_f (tgt := 125) C dX1_moveBottles_120 (by decide) g3 g4 c5 ?_
    refine mw_iconst C dX1_moveBottles_123 ?_
    cases hF
    exact mw_iret C dX1_moveBottles_124 rfl rfl
def F_X1_moveBottles_80 (x0 : Nat) (x1 : Int) (x2 : Int) (x3 : Int) (x4 : Int) (h : MH) : Option (Int × MH) :=
  ck (in32 x1) <|
  ck (in32 ((h x0 0) - 1)) <|
  if ((h x0 0) - 1) ≤ x1 then
    F_X1_moveBottles_101 x0 x1 x2 x3 x4 h
  else
    ck (0 ≤ x1 ∧ x1 < 6) <|
    nx (hup h (x0 + 8) x1.toNat ((h (x0 + 8) x1.toNat) + x4)) fun h5 =>
    F_X1_moveBottles_101 x0 x1 x2 x3 x4 h5
set_option maxRecDepth 100000 in
theorem T_X1_moveBottles_80 {Z : ZT} (C : Cx Z cX1_moveBottles 5 RX1 1 (some .int)) (x0 : Nat) (x1 : Int) (x2 : Int) (x3 : Int) (x4 : Int) (hk_x0 : okX1 x0) (h : MH) (t : (Int × MH)) (hF : F_X1_moveBottles_80 x0 x1 x2 x3 x4 h = some t) : MW Z (Qm Z (some (iv t.1)) zN zG t.2 0 0) 5 zN zG h 0 0 80 [(0, rfv (xd (zX Z)) x0), (1, iv x1), (2, iv x2), (3, iv x3), (4, iv x4)] [] := by
  unfold F_X1_moveBottles_80 at hF
  refine mw_iload_n 1 C dX1_moveBottles_80 rfl rfl ?_
  refine mw_aload_n 0 C dX1_moveBottles_81 rfl rfl ?_
  refine mw_get (k := 0) (T := TX1) (v := iv (h x0 0)) C dX1_moveBottles_82 (okX1_n _ hk_x0) (okX1_k _ hk_x0) (by decide) rfl inX1 (by decide) wd76 rfl rfl ?_
  refine mw_iconst C dX1_moveBottles_85 ?_
  refine mw_isub C dX1_moveBottles_86 ?_
  obtain ⟨g1, hF⟩ := ck_some hF
  obtain ⟨g2, hF⟩ := ck_some hF
  rcases ite_some hF with ⟨c3, hF⟩ | ⟨c3, hF⟩
  · refine mw_icmp_ge_t (tgt := 101) C dX1_moveBottles_87 (by decide) g1 g2 c3 ?_
    exact T_X1_moveBottles_101 C x0 x1 x2 x3 x4 hk_x0 _ _ hF
  · refine mw_icmp_ge_f (tgt := 101) C dX1_moveBottles_87 (by decide) g1 g2 c3 ?_
    refine mw_aload_n 0 C dX1_moveBottles_90 rfl rfl ?_
    refine mw_get (k := 11) (T := TX1) (v := rfv (xd (zX Z)) (x0 + 8)) C dX1_moveBottles_91 (okX1_n _ hk_x0) (okX1_k _ hk_x0) (by decide) rfl inX1 (by decide) wd111 rfl (zfv_r rfl (okX1_g11 _ hk_x0)) ?_
    refine mw_iload_n 1 C dX1_moveBottles_94 rfl rfl ?_
    refine mw_dup2 C dX1_moveBottles_95 rfl rfl ?_
    obtain ⟨g4, hF⟩ := ck_some hF
    refine mw_iald C dX1_moveBottles_96 (okX1_f11 _ hk_x0).2.1 (okX1_f11 _ hk_x0).1 (okX1_f11 _ hk_x0).2.2 g4 ?_
    refine mw_iload 4 C dX1_moveBottles_97 rfl ?_
    refine mw_iadd C dX1_moveBottles_99 ?_
    obtain ⟨h5, eh5, hF⟩ := nx_some hF
    refine mw_iast C dX1_moveBottles_100 (okX1_f11 _ hk_x0).2.1 (okX1_f11 _ hk_x0).1 (okX1_f11 _ hk_x0).2.2 g4 (mw_h eh5 ?_)
    exact T_X1_moveBottles_101 C x0 x1 x2 x3 x4 hk_x0 _ _ hF
def F_X1_moveBottles_46 (x0 : Nat) (x1 : Int) (x2 : Int) (s0 : Int) (h : MH) : Option (Int × MH) :=
  ck (0 ≤ x1 ∧ x1 < 6) <|
  ck (in32 x2) <|
  ck (in32 s0) <|
  ck (in32 (h (x0 + 1) x1.toNat)) <|
  ck (in32 (min x2 s0)) <|
  nx (min (h (x0 + 1) x1.toNat) (min x2 s0)) fun v6 =>
  if x1 ≤ 0 then
    F_X1_moveBottles_80 x0 x1 x2 s0 v6 h
  else
    ck (0 ≤ (x1 - 1) ∧ (x1 - 1) < 6) <|
    nx (hup h (x0 + 8) (x1 - 1).toNat ((h (x0 + 8) (x1 - 1).toNat) - v6)) fun h9 =>
    F_X1_moveBottles_80 x0 x1 x2 s0 v6 h9
set_option maxRecDepth 100000 in
theorem T_X1_moveBottles_46 {Z : ZT} (C : Cx Z cX1_moveBottles 5 RX1 1 (some .int)) (x0 : Nat) (x1 : Int) (x2 : Int) (s0 : Int) (hk_x0 : okX1 x0) (h : MH) (t : (Int × MH)) (hF : F_X1_moveBottles_46 x0 x1 x2 s0 h = some t) : MW Z (Qm Z (some (iv t.1)) zN zG t.2 0 0) 5 zN zG h 0 0 46 [(0, rfv (xd (zX Z)) x0), (1, iv x1), (2, iv x2)] [iv s0] := by
  unfold F_X1_moveBottles_46 at hF
  refine mw_istore_n [(3, iv s0), (0, rfv (xd (zX Z)) x0), (1, iv x1), (2, iv x2)] C dX1_moveBottles_46 rfl (by decide) rfl ?_
  refine mw_aload_n 1 C dX1_moveBottles_47 rfl rfl ?_
  refine mw_get (k := 1) (T := TX1) (v := rfv (xd (zX Z)) (x0 + 1)) C dX1_moveBottles_48 (okX1_n _ hk_x0) (okX1_k _ hk_x0) (by decide) rfl inX1 (by decide) wd82 rfl (zfv_r rfl (okX1_g1 _ hk_x0)) ?_
  refine mw_iload_n 2 C dX1_moveBottles_51 rfl rfl ?_
  obtain ⟨g1, hF⟩ := ck_some hF
  refine mw_iald C dX1_moveBottles_52 (okX1_f1 _ hk_x0).2.1 (okX1_f1 _ hk_x0).1 (okX1_f1 _ hk_x0).2.2 g1 ?_
  refine mw_iload_n 3 C dX1_moveBottles_53 rfl rfl ?_
  refine mw_iload_n 0 C dX1_moveBottles_54 rfl rfl ?_
  obtain ⟨g2, hF⟩ := ck_some hF
  obtain ⟨g3, hF⟩ := ck_some hF
  refine mw_mmin C dX1_moveBottles_55 wd616 wd356 wd16 wd357 (by decide) (Nat.le_of_ble_eq_true rfl) ⟨Nat.zero_le _, Nat.zero_le _⟩ g2 g3 ?_
  obtain ⟨g4, hF⟩ := ck_some hF
  obtain ⟨g5, hF⟩ := ck_some hF
  refine mw_mmin C dX1_moveBottles_58 wd616 wd356 wd16 wd357 (by decide) (Nat.le_of_ble_eq_true rfl) ⟨Nat.zero_le _, Nat.zero_le _⟩ g4 g5 ?_
  obtain ⟨v6, ev6, hF⟩ := nx_some hF
  refine mw_ti ev6 ?_
  refine mw_istore [(4, iv v6), (3, iv s0), (0, rfv (xd (zX Z)) x0), (1, iv x1), (2, iv x2)] C dX1_moveBottles_61 (by decide) rfl ?_
  refine mw_iload_n 3 C dX1_moveBottles_63 rfl rfl ?_
  rcases ite_some hF with ⟨c7, hF⟩ | ⟨c7, hF⟩
  · refine mw_if_le_t (tgt := 80) C dX1_moveBottles_64 (by decide) (by omega) c7 ?_
    refine mw_sub [2, 3, 4, 1, 0] rfl ?_
    exact T_X1_moveBottles_80 C x0 x1 x2 s0 v6 hk_x0 _ _ hF
  · refine mw_if_le_f (tgt := 80) C dX1_moveBottles_64 (by decide) (by omega) c7 ?_
    refine mw_aload_n 2 C dX1_moveBottles_67 rfl rfl ?_
    refine mw_get (k := 11) (T := TX1) (v := rfv (xd (zX Z)) (x0 + 8)) C dX1_moveBottles_68 (okX1_n _ hk_x0) (okX1_k _ hk_x0) (by decide) rfl inX1 (by decide) wd111 rfl (zfv_r rfl (okX1_g11 _ hk_x0)) ?_
    refine mw_iload_n 3 C dX1_moveBottles_71 rfl rfl ?_
    refine mw_iconst C dX1_moveBottles_72 ?_
    refine mw_isub C dX1_moveBottles_73 ?_
    refine mw_dup2 C dX1_moveBottles_74 rfl rfl ?_
    obtain ⟨g8, hF⟩ := ck_some hF
    refine mw_iald C dX1_moveBottles_75 (okX1_f11 _ hk_x0).2.1 (okX1_f11 _ hk_x0).1 (okX1_f11 _ hk_x0).2.2 g8 ?_
    refine mw_iload 0 C dX1_moveBottles_76 rfl ?_
    refine mw_isub C dX1_moveBottles_78 ?_
    obtain ⟨h9, eh9, hF⟩ := nx_some hF
    refine mw_iast C dX1_moveBottles_79 (okX1_f11 _ hk_x0).2.1 (okX1_f11 _ hk_x0).1 (okX1_f11 _ hk_x0).2.2 g8 (mw_h eh9 ?_)
    refine mw_sub [2, 3, 4, 1, 0] rfl ?_
    exact T_X1_moveBottles_80 C x0 x1 x2 s0 v6 hk_x0 _ _ hF
def F_X1_moveBottles_17 (x0 : Nat) (x1 : Int) (s0 : Int) (h : MH) : Option (Int × MH) :=
  ck (in32 x1) <|
  ck (in32 ((h x0 0) - 1)) <|
  if x1 ≠ ((h x0 0) - 1) then
    ck (0 ≤ x1 ∧ x1 < 6) <|
    F_X1_moveBottles_46 x0 x1 s0 ((h (x0 + 4) x1.toNat) - (h (x0 + 8) x1.toNat)) h
  else
    F_X1_moveBottles_46 x0 x1 s0 1000000 h
set_option maxRecDepth 100000 in
theorem T_X1_moveBottles_17 {Z : ZT} (C : Cx Z cX1_moveBottles 5 RX1 1 (some .int)) (x0 : Nat) (x1 : Int) (s0 : Int) (hk_x0 : okX1 x0) (h : MH) (t : (Int × MH)) (hF : F_X1_moveBottles_17 x0 x1 s0 h = some t) : MW Z (Qm Z (some (iv t.1)) zN zG t.2 0 0) 5 zN zG h 0 0 17 [(0, rfv (xd (zX Z)) x0), (1, iv x1)] [iv s0] := by
  unfold F_X1_moveBottles_17 at hF
  refine mw_istore_n [(2, iv s0), (0, rfv (xd (zX Z)) x0), (1, iv x1)] C dX1_moveBottles_17 rfl (by decide) rfl ?_
  refine mw_iload_n 2 C dX1_moveBottles_18 rfl rfl ?_
  refine mw_aload_n 1 C dX1_moveBottles_19 rfl rfl ?_
  refine mw_get (k := 0) (T := TX1) (v := iv (h x0 0)) C dX1_moveBottles_20 (okX1_n _ hk_x0) (okX1_k _ hk_x0) (by decide) rfl inX1 (by decide) wd76 rfl rfl ?_
  refine mw_iconst C dX1_moveBottles_23 ?_
  refine mw_isub C dX1_moveBottles_24 ?_
  obtain ⟨g1, hF⟩ := ck_some hF
  obtain ⟨g2, hF⟩ := ck_some hF
  rcases ite_some hF with ⟨c3, hF⟩ | ⟨c3, hF⟩
  · refine mw_icmp_ne_t (tgt := 33) C dX1_moveBottles_25 (by decide) g1 g2 c3 ?_
    refine mw_aload_n 1 C dX1_moveBottles_33 rfl rfl ?_
    refine mw_get (k := 4) (T := TX1) (v := rfv (xd (zX Z)) (x0 + 4)) C dX1_moveBottles_34 (okX1_n _ hk_x0) (okX1_k _ hk_x0) (by decide) rfl inX1 (by decide) wd93 rfl (zfv_r rfl (okX1_g4 _ hk_x0)) ?_
    refine mw_iload_n 2 C dX1_moveBottles_37 rfl rfl ?_
    obtain ⟨g4, hF⟩ := ck_some hF
    refine mw_iald C dX1_moveBottles_38 (okX1_f4 _ hk_x0).2.1 (okX1_f4 _ hk_x0).1 (okX1_f4 _ hk_x0).2.2 g4 ?_
    refine mw_aload_n 1 C dX1_moveBottles_39 rfl rfl ?_
    refine mw_get (k := 11) (T := TX1) (v := rfv (xd (zX Z)) (x0 + 8)) C dX1_moveBottles_40 (okX1_n _ hk_x0) (okX1_k _ hk_x0) (by decide) rfl inX1 (by decide) wd111 rfl (zfv_r rfl (okX1_g11 _ hk_x0)) ?_
    refine mw_iload_n 2 C dX1_moveBottles_43 rfl rfl ?_
    refine mw_iald C dX1_moveBottles_44 (okX1_f11 _ hk_x0).2.1 (okX1_f11 _ hk_x0).1 (okX1_f11 _ hk_x0).2.2 g4 ?_
    refine mw_isub C dX1_moveBottles_45 ?_
    refine mw_sub [1, 2, 0] rfl ?_
    exact T_X1_moveBottles_46 C x0 x1 s0 ((h (x0 + 4) x1.toNat) - (h (x0 + 8) x1.toNat)) hk_x0 _ _ hF
  · refine mw_icmp_ne_f (tgt := 33) C dX1_moveBottles_25 (by decide) g1 g2 c3 ?_
    refine mw_ldc (a := 1000000) C dX1_moveBottles_28 wd615 rfl ?_
    refine mw_goto (tgt := 46) C dX1_moveBottles_30 (by decide) ?_
    refine mw_sub [1, 2, 0] rfl ?_
    exact T_X1_moveBottles_46 C x0 x1 s0 1000000 hk_x0 _ _ hF
def F_X1_moveBottles_0 (x0 : Nat) (x1 : Int) (h : MH) : Option (Int × MH) :=
  ck (in32 x1) <|
  if x1 ≠ 0 then
    ck (0 ≤ (x1 - 1) ∧ (x1 - 1) < 6) <|
    F_X1_moveBottles_17 x0 x1 (h (x0 + 8) (x1 - 1).toNat) h
  else
    F_X1_moveBottles_17 x0 x1 1000000 h
set_option maxRecDepth 100000 in
theorem T_X1_moveBottles_0 {Z : ZT} (C : Cx Z cX1_moveBottles 5 RX1 1 (some .int)) (x0 : Nat) (x1 : Int) (hk_x0 : okX1 x0) (h : MH) (t : (Int × MH)) (hF : F_X1_moveBottles_0 x0 x1 h = some t) : MW Z (Qm Z (some (iv t.1)) zN zG t.2 0 0) 5 zN zG h 0 0 0 [(0, rfv (xd (zX Z)) x0), (1, iv x1)] [] := by
  unfold F_X1_moveBottles_0 at hF
  refine mw_iload_n 1 C dX1_moveBottles_0 rfl rfl ?_
  obtain ⟨g1, hF⟩ := ck_some hF
  rcases ite_some hF with ⟨c2, hF⟩ | ⟨c2, hF⟩
  · refine mw_if_ne_t (tgt := 9) C dX1_moveBottles_1 (by decide) g1 c2 ?_
    refine mw_aload_n 0 C dX1_moveBottles_9 rfl rfl ?_
    refine mw_get (k := 11) (T := TX1) (v := rfv (xd (zX Z)) (x0 + 8)) C dX1_moveBottles_10 (okX1_n _ hk_x0) (okX1_k _ hk_x0) (by decide) rfl inX1 (by decide) wd111 rfl (zfv_r rfl (okX1_g11 _ hk_x0)) ?_
    refine mw_iload_n 1 C dX1_moveBottles_13 rfl rfl ?_
    refine mw_iconst C dX1_moveBottles_14 ?_
    refine mw_isub C dX1_moveBottles_15 ?_
    obtain ⟨g3, hF⟩ := ck_some hF
    refine mw_iald C dX1_moveBottles_16 (okX1_f11 _ hk_x0).2.1 (okX1_f11 _ hk_x0).1 (okX1_f11 _ hk_x0).2.2 g3 ?_
    exact T_X1_moveBottles_17 C x0 x1 (h (x0 + 8) (x1 - 1).toNat) hk_x0 _ _ hF
  · refine mw_if_ne_f (tgt := 9) C dX1_moveBottles_1 (by decide) g1 c2 ?_
    refine mw_ldc (a := 1000000) C dX1_moveBottles_4 wd615 rfl ?_
    refine mw_goto (tgt := 17) C dX1_moveBottles_6 (by decide) ?_
    exact T_X1_moveBottles_17 C x0 x1 1000000 hk_x0 _ _ hF
def F_X1_moveBottles (x0 : Nat) (x1 : Int) (h : MH) : Option (Int × MH) := F_X1_moveBottles_0 x0 x1 h
theorem T_X1_moveBottles (l : Launch) (X : XT) (x0 : Nat) (x1 : Int) (hk_x0 : okX1 x0) (h : MH) (t : (Int × MH)) (hF : F_X1_moveBottles x0 x1 h = some t) : Ct l X yX1_moveBottles cX1_moveBottles 5 (some .int) 1 [rfv (xd X) x0, iv x1] zN zG h (some (iv t.1)) zN zG t.2 0 0 := by
  refine Ct.head (by decide) (Nat.le_of_ble_eq_true rfl) (fun Z hX hl _ _ _ C => ?_)
  subst hX
  subst hl
  exact (T_X1_moveBottles_0 C x0 x1 hk_x0 _ _ hF)
/-! BottleLine$Floor.goOn()V -/
def F_X1_goOn_67 (k42 : Nat → Int → MH → Option MH) (x0 : Nat) (x1 : Int) (h : MH) : Option MH :=
  k42 x0 (x1 + (-1)) h
set_option maxRecDepth 100000 in
theorem T_X1_goOn_67 {Z : ZT} (C : Cx Z cX1_goOn 2 RX1 3 none) (k42 : Nat → Int → MH → Option MH) (hk42 : ∀ (x0 : Nat) (x1 : Int) (hk_x0 : okX1 x0) (h : MH) (t : MH), k42 x0 x1 h = some t → MW Z (Qm Z none zN zG t 0 0) 2 zN zG h 0 0 42 [(0, rfv (xd (zX Z)) x0), (1, iv x1)] []) (x0 : Nat) (x1 : Int) (hk_x0 : okX1 x0) (h : MH) (t : MH) (hF : F_X1_goOn_67 k42 x0 x1 h = some t) : MW Z (Qm Z none zN zG t 0 0) 2 zN zG h 0 0 67 [(0, rfv (xd (zX Z)) x0), (1, iv x1)] [] := by
  unfold F_X1_goOn_67 at hF
  refine mw_iinc 1 [(1, iv (x1 + (-1))), (0, rfv (xd (zX Z)) x0)] C dX1_goOn_67 rfl (by decide) rfl ?_
  refine mw_goto (tgt := 42) C dX1_goOn_70 (by decide) ?_
  refine mw_sub [1, 0] rfl ?_
  exact hk42 x0 (x1 + (-1)) hk_x0 _ _ hF
def F_X1_goOn_42 : Nat → Nat → Int → MH → Option MH
  | 0, _, _, _ => none
  | n + 1, x0, x1, h =>
    ck (in32 x1) <|
    if x1 < 0 then
      nx (hup h x0 7 ((h x0 7) + 1)) fun h3 =>
      some h3
    else
      ck (0 ≤ x1 ∧ x1 < 6) <|
      ck (in32 (h (x0 + 6) x1.toNat)) <|
      if (h (x0 + 6) x1.toNat) = 3 then
        F_X1_goOn_67 (F_X1_goOn_42 n) x0 x1 h
      else
        (F_X1_moveBottles x0 x1 h).bind fun q7 =>
        nx (hup q7.2 (x0 + 6) x1.toNat q7.1) fun h8 =>
        F_X1_goOn_67 (F_X1_goOn_42 n) x0 x1 h8
set_option maxRecDepth 100000 in
theorem T_X1_goOn_42 {Z : ZT} (C : Cx Z cX1_goOn 2 RX1 3 none) : ∀ (n : Nat) (x0 : Nat) (x1 : Int) (hk_x0 : okX1 x0) (h : MH) (t : MH), F_X1_goOn_42 n x0 x1 h = some t → MW Z (Qm Z none zN zG t 0 0) 2 zN zG h 0 0 42 [(0, rfv (xd (zX Z)) x0), (1, iv x1)] [] := by
  intro n
  induction n with
  | zero =>
    intros
    rename_i hF
    exact absurd hF (by intro q; cases q)
  | succ n ih =>
    intro x0 x1 hk_x0 h t hF
    rw [F_X1_goOn_42] at hF
    refine mw_iload_n 1 C dX1_goOn_42 rfl rfl ?_
    obtain ⟨g1, hF⟩ := ck_some hF
    rcases ite_some hF with ⟨c2, hF⟩ | ⟨c2, hF⟩
    · refine mw_if_lt_t (tgt := 73) C dX1_goOn_43 (by decide) g1 c2 ?_
      refine mw_aload_n 0 C dX1_goOn_73 rfl rfl ?_
      refine mw_dup C dX1_goOn_74 rfl ?_
      refine mw_get (k := 7) (T := TX1) (v := iv (h x0 7)) C dX1_goOn_75 (okX1_n _ hk_x0) (okX1_k _ hk_x0) (by decide) rfl inX1 (by decide) wd100 rfl rfl ?_
      refine mw_iconst C dX1_goOn_78 ?_
      refine mw_iadd C dX1_goOn_79 ?_
      obtain ⟨h3, eh3, hF⟩ := nx_some hF
      refine mw_put (k := 7) (T := TX1) (ty0 := tyX1) (x := ((h x0 7) + 1)) C dX1_goOn_80 (okX1_n _ hk_x0) (okX1_k _ hk_x0) (by decide) rfl inX1 tyX1_ok nmX1 (by decide) wd100 rfl rfl rfl rfl rfl (by decide) (mw_h eh3 ?_)
      cases hF
      exact mw_vret C dX1_goOn_83 rfl rfl
    · refine mw_if_lt_f (tgt := 73) C dX1_goOn_43 (by decide) g1 c2 ?_
      refine mw_aload_n 0 C dX1_goOn_46 rfl rfl ?_
      refine mw_get (k := 9) (T := TX1) (v := rfv (xd (zX Z)) (x0 + 6)) C dX1_goOn_47 (okX1_n _ hk_x0) (okX1_k _ hk_x0) (by decide) rfl inX1 (by decide) wd105 rfl (zfv_r rfl (okX1_g9 _ hk_x0)) ?_
      refine mw_iload_n 1 C dX1_goOn_50 rfl rfl ?_
      obtain ⟨g4, hF⟩ := ck_some hF
      refine mw_iald C dX1_goOn_51 (okX1_f9 _ hk_x0).2.1 (okX1_f9 _ hk_x0).1 (okX1_f9 _ hk_x0).2.2 g4 ?_
      refine mw_iconst C dX1_goOn_52 ?_
      obtain ⟨g5, hF⟩ := ck_some hF
      rcases ite_some hF with ⟨c6, hF⟩ | ⟨c6, hF⟩
      · refine mw_icmp_eq_t (tgt := 67) C dX1_goOn_53 (by decide) g5 (by decide) c6 ?_
        exact T_X1_goOn_67 C (F_X1_goOn_42 n) ih x0 x1 hk_x0 _ _ hF
      · refine mw_icmp_eq_f (tgt := 67) C dX1_goOn_53 (by decide) g5 (by decide) c6 ?_
        refine mw_aload_n 0 C dX1_goOn_56 rfl rfl ?_
        refine mw_get (k := 9) (T := TX1) (v := rfv (xd (zX Z)) (x0 + 6)) C dX1_goOn_57 (okX1_n _ hk_x0) (okX1_k _ hk_x0) (by decide) rfl inX1 (by decide) wd105 rfl (zfv_r rfl (okX1_g9 _ hk_x0)) ?_
        refine mw_iload_n 1 C dX1_goOn_60 rfl rfl ?_
        refine mw_aload_n 0 C dX1_goOn_61 rfl rfl ?_
        refine mw_iload_n 1 C dX1_goOn_62 rfl rfl ?_
        obtain ⟨q7, hq7, hF⟩ := bind_some hF
        refine mw_callV (c := x0) [iv x1] [iv x1, rfv (xd (zX Z)) (x0 + 6)] C dX1_goOn_63 (T_X1_moveBottles (zl Z) (zX Z) x0 x1 hk_x0 _ _ hq7) rfl (okX1_n _ hk_x0) (okX1_k _ hk_x0) (by decide) rfl wd612 wd613 wd1338 wd5 wd614 hd_X1_moveBottles rfl (by decide) (by decide) (Nat.le_of_ble_eq_true rfl) ⟨Nat.zero_le _, Nat.zero_le _⟩ ?_
        obtain ⟨h8, eh8, hF⟩ := nx_some hF
        refine mw_iast C dX1_goOn_66 (okX1_f9 _ hk_x0).2.1 (okX1_f9 _ hk_x0).1 (okX1_f9 _ hk_x0).2.2 g4 (mw_h eh8 ?_)
        exact T_X1_goOn_67 C (F_X1_goOn_42 n) ih x0 x1 hk_x0 _ _ hF
def F_X1_goOn_28 (k2 : Nat → Int → MH → Option MH) (x0 : Nat) (x1 : Int) (s0 : Nat) (s1 : Int) (s2 : Int) (h : MH) : Option MH :=
  ck (0 ≤ s1 ∧ s1 < 6) <|
  nx (hup h s0 s1.toNat s2) fun h2 =>
  k2 x0 (x1 + 1) h2
set_option maxRecDepth 100000 in
theorem T_X1_goOn_28 {Z : ZT} (C : Cx Z cX1_goOn 2 RX1 3 none) (k2 : Nat → Int → MH → Option MH) (hk2 : ∀ (x0 : Nat) (x1 : Int) (hk_x0 : okX1 x0) (h : MH) (t : MH), k2 x0 x1 h = some t → MW Z (Qm Z none zN zG t 0 0) 2 zN zG h 0 0 2 [(0, rfv (xd (zX Z)) x0), (1, iv x1)] []) (x0 : Nat) (x1 : Int) (s0 : Nat) (s1 : Int) (s2 : Int) (hk_x0 : okX1 x0) (hk_s0 : zK s0 = (21, 6) ∧ s0 < zN ∧ 6 < 2147483648) (h : MH) (t : MH) (hF : F_X1_goOn_28 k2 x0 x1 s0 s1 s2 h = some t) : MW Z (Qm Z none zN zG t 0 0) 2 zN zG h 0 0 28 [(0, rfv (xd (zX Z)) x0), (1, iv x1)] [iv s2, iv s1, rfv (xd (zX Z)) s0] := by
  unfold F_X1_goOn_28 at hF
  obtain ⟨g1, hF⟩ := ck_some hF
  obtain ⟨h2, eh2, hF⟩ := nx_some hF
  refine mw_iast C dX1_goOn_28 hk_s0.2.1 hk_s0.1 hk_s0.2.2 g1 (mw_h eh2 ?_)
  refine mw_iinc 1 [(1, iv (x1 + 1)), (0, rfv (xd (zX Z)) x0)] C dX1_goOn_29 rfl (by decide) rfl ?_
  refine mw_goto (tgt := 2) C dX1_goOn_32 (by decide) ?_
  refine mw_sub [1, 0] rfl ?_
  exact hk2 x0 (x1 + 1) hk_x0 _ _ hF
def F_X1_goOn_2 : Nat → Nat → Int → MH → Option MH
  | 0, _, _, _ => none
  | n + 1, x0, x1, h =>
    ck (in32 x1) <|
    ck (in32 (h x0 0)) <|
    if (h x0 0) ≤ x1 then
      nx ((h x0 0) - 1) fun v4 =>
      F_X1_goOn_42 20000 x0 v4 h
    else
      (F_X1_standsStill x0 x1 h).bind fun q5 =>
      ck (in32 q5.1) <|
      if q5.1 = 0 then
        F_X1_goOn_28 (F_X1_goOn_2 n) x0 x1 (x0 + 6) x1 0 q5.2
      else
        F_X1_goOn_28 (F_X1_goOn_2 n) x0 x1 (x0 + 6) x1 3 q5.2
set_option maxRecDepth 100000 in
theorem T_X1_goOn_2 {Z : ZT} (C : Cx Z cX1_goOn 2 RX1 3 none) : ∀ (n : Nat) (x0 : Nat) (x1 : Int) (hk_x0 : okX1 x0) (h : MH) (t : MH), F_X1_goOn_2 n x0 x1 h = some t → MW Z (Qm Z none zN zG t 0 0) 2 zN zG h 0 0 2 [(0, rfv (xd (zX Z)) x0), (1, iv x1)] [] := by
  intro n
  induction n with
  | zero =>
    intros
    rename_i hF
    exact absurd hF (by intro q; cases q)
  | succ n ih =>
    intro x0 x1 hk_x0 h t hF
    rw [F_X1_goOn_2] at hF
    refine mw_iload_n 1 C dX1_goOn_2 rfl rfl ?_
    refine mw_aload_n 0 C dX1_goOn_3 rfl rfl ?_
    refine mw_get (k := 0) (T := TX1) (v := iv (h x0 0)) C dX1_goOn_4 (okX1_n _ hk_x0) (okX1_k _ hk_x0) (by decide) rfl inX1 (by decide) wd76 rfl rfl ?_
    obtain ⟨g1, hF⟩ := ck_some hF
    obtain ⟨g2, hF⟩ := ck_some hF
    rcases ite_some hF with ⟨c3, hF⟩ | ⟨c3, hF⟩
    · refine mw_icmp_ge_t (tgt := 35) C dX1_goOn_7 (by decide) g1 g2 c3 ?_
      refine mw_aload_n 0 C dX1_goOn_35 rfl rfl ?_
      refine mw_get (k := 0) (T := TX1) (v := iv (h x0 0)) C dX1_goOn_36 (okX1_n _ hk_x0) (okX1_k _ hk_x0) (by decide) rfl inX1 (by decide) wd76 rfl rfl ?_
      refine mw_iconst C dX1_goOn_39 ?_
      refine mw_isub C dX1_goOn_40 ?_
      obtain ⟨v4, ev4, hF⟩ := nx_some hF
      refine mw_ti ev4 ?_
      refine mw_istore_n [(1, iv v4), (0, rfv (xd (zX Z)) x0)] C dX1_goOn_41 rfl (by decide) rfl ?_
      refine mw_sub [1, 0] rfl ?_
      exact T_X1_goOn_42 C 20000 x0 v4 hk_x0 _ _ hF
    · refine mw_icmp_ge_f (tgt := 35) C dX1_goOn_7 (by decide) g1 g2 c3 ?_
      refine mw_aload_n 0 C dX1_goOn_10 rfl rfl ?_
      refine mw_get (k := 9) (T := TX1) (v := rfv (xd (zX Z)) (x0 + 6)) C dX1_goOn_11 (okX1_n _ hk_x0) (okX1_k _ hk_x0) (by decide) rfl inX1 (by decide) wd105 rfl (zfv_r rfl (okX1_g9 _ hk_x0)) ?_
      refine mw_iload_n 1 C dX1_goOn_14 rfl rfl ?_
      refine mw_aload_n 0 C dX1_goOn_15 rfl rfl ?_
      refine mw_iload_n 1 C dX1_goOn_16 rfl rfl ?_
      obtain ⟨q5, hq5, hF⟩ := bind_some hF
      refine mw_callV (c := x0) [iv x1] [iv x1, rfv (xd (zX Z)) (x0 + 6)] C dX1_goOn_17 (T_X1_standsStill (zl Z) (zX Z) x0 x1 hk_x0 _ _ hq5) rfl (okX1_n _ hk_x0) (okX1_k _ hk_x0) (by decide) rfl wd605 wd606 wd1336 wd5 wd607 hd_X1_standsStill rfl (by decide) (by decide) (Nat.le_of_ble_eq_true rfl) ⟨Nat.zero_le _, Nat.zero_le _⟩ ?_
      obtain ⟨g6, hF⟩ := ck_some hF
      rcases ite_some hF with ⟨c7, hF⟩ | ⟨c7, hF⟩
      · refine mw_if_eq_t (tgt := 27) C dX1_goOn_20 (by decide) g6 c7 ?_
        refine mw_iconst C dX1_goOn_27 ?_
        exact T_X1_goOn_28 C (F_X1_goOn_2 n) ih x0 x1 (x0 + 6) x1 0 hk_x0 (okX1_f9 _ hk_x0) _ _ hF
      · refine mw_if_eq_f (tgt := 27) C dX1_goOn_20 (by decide) g6 c7 ?_
        refine mw_iconst C dX1_goOn_23 ?_
        refine mw_goto (tgt := 28) C dX1_goOn_24 (by decide) ?_
        exact T_X1_goOn_28 C (F_X1_goOn_2 n) ih x0 x1 (x0 + 6) x1 3 hk_x0 (okX1_f9 _ hk_x0) _ _ hF
def F_X1_goOn_0 (x0 : Nat) (h : MH) : Option MH :=
  F_X1_goOn_2 20000 x0 0 h
set_option maxRecDepth 100000 in
theorem T_X1_goOn_0 {Z : ZT} (C : Cx Z cX1_goOn 2 RX1 3 none) (x0 : Nat) (hk_x0 : okX1 x0) (h : MH) (t : MH) (hF : F_X1_goOn_0 x0 h = some t) : MW Z (Qm Z none zN zG t 0 0) 2 zN zG h 0 0 0 [(0, rfv (xd (zX Z)) x0)] [] := by
  unfold F_X1_goOn_0 at hF
  refine mw_iconst C dX1_goOn_0 ?_
  refine mw_istore_n [(1, iv 0), (0, rfv (xd (zX Z)) x0)] C dX1_goOn_1 rfl (by decide) rfl ?_
  refine mw_sub [1, 0] rfl ?_
  exact T_X1_goOn_2 C 20000 x0 0 hk_x0 _ _ hF
def F_X1_goOn (x0 : Nat) (h : MH) : Option MH := F_X1_goOn_0 x0 h
theorem T_X1_goOn (l : Launch) (X : XT) (x0 : Nat) (hk_x0 : okX1 x0) (h : MH) (t : MH) (hF : F_X1_goOn x0 h = some t) : Ct l X yX1_goOn cX1_goOn 2 none 3 [rfv (xd X) x0] zN zG h none zN zG t 0 0 := by
  refine Ct.head (by decide) (Nat.le_of_ble_eq_true rfl) (fun Z hX hl _ _ _ C => ?_)
  subst hX
  subst hl
  exact (T_X1_goOn_0 C x0 hk_x0 _ _ hF)
/-! BottleLine$Floor.starverOf(I)I -/
def F_X1_starverOf_4 : Nat → Nat → Int → MH → Option (Int × MH)
  | 0, _, _, _ => none
  | n + 1, x0, x2, h =>
    ck (in32 x2) <|
    if x2 ≤ 0 then
      some (0, h)
    else
      ck (0 ≤ x2 ∧ x2 < 6) <|
      ck (in32 (h (x0 + 6) x2.toNat)) <|
      if (h (x0 + 6) x2.toNat) = 1 then
        F_X1_starverOf_4 n x0 (x2 + (-1)) h
      else
        some (x2, h)
set_option maxRecDepth 100000 in
theorem T_X1_starverOf_4 {Z : ZT} (C : Cx Z cX1_starverOf 3 RX1 1 (some .int)) : ∀ (n : Nat) (x0 : Nat) (x2 : Int) (hk_x0 : okX1 x0) (h : MH) (t : (Int × MH)), F_X1_starverOf_4 n x0 x2 h = some t → MW Z (Qm Z (some (iv t.1)) zN zG t.2 0 0) 3 zN zG h 0 0 4 [(0, rfv (xd (zX Z)) x0), (2, iv x2)] [] := by
  intro n
  induction n with
  | zero =>
    intros
    rename_i hF
    exact absurd hF (by intro q; cases q)
  | succ n ih =>
    intro x0 x2 hk_x0 h t hF
    rw [F_X1_starverOf_4] at hF
    refine mw_iload_n 1 C dX1_starverOf_4 rfl rfl ?_
    obtain ⟨g1, hF⟩ := ck_some hF
    rcases ite_some hF with ⟨c2, hF⟩ | ⟨c2, hF⟩
    · refine mw_if_le_t (tgt := 26) C dX1_starverOf_5 (by decide) g1 c2 ?_
      refine mw_iconst C dX1_starverOf_26 ?_
      cases hF
      exact mw_iret C dX1_starverOf_27 rfl rfl
    · refine mw_if_le_f (tgt := 26) C dX1_starverOf_5 (by decide) g1 c2 ?_
      refine mw_aload_n 0 C dX1_starverOf_8 rfl rfl ?_
      refine mw_get (k := 9) (T := TX1) (v := rfv (xd (zX Z)) (x0 + 6)) C dX1_starverOf_9 (okX1_n _ hk_x0) (okX1_k _ hk_x0) (by decide) rfl inX1 (by decide) wd105 rfl (zfv_r rfl (okX1_g9 _ hk_x0)) ?_
      refine mw_iload_n 1 C dX1_starverOf_12 rfl rfl ?_
      obtain ⟨g3, hF⟩ := ck_some hF
      refine mw_iald C dX1_starverOf_13 (okX1_f9 _ hk_x0).2.1 (okX1_f9 _ hk_x0).1 (okX1_f9 _ hk_x0).2.2 g3 ?_
      refine mw_iconst C dX1_starverOf_14 ?_
      obtain ⟨g4, hF⟩ := ck_some hF
      rcases ite_some hF with ⟨c5, hF⟩ | ⟨c5, hF⟩
      · refine mw_icmp_eq_t (tgt := 20) C dX1_starverOf_15 (by decide) g4 (by decide) c5 ?_
        refine mw_iinc 1 [(2, iv (x2 + (-1))), (0, rfv (xd (zX Z)) x0)] C dX1_starverOf_20 rfl (by decide) rfl ?_
        refine mw_goto (tgt := 4) C dX1_starverOf_23 (by decide) ?_
        refine mw_sub [1, 0] rfl ?_
        exact ih x0 (x2 + (-1)) hk_x0 _ _ hF
      · refine mw_icmp_eq_f (tgt := 20) C dX1_starverOf_15 (by decide) g4 (by decide) c5 ?_
        refine mw_iload_n 1 C dX1_starverOf_18 rfl rfl ?_
        cases hF
        exact mw_iret C dX1_starverOf_19 rfl rfl
def F_X1_starverOf_0 (x0 : Nat) (x1 : Int) (h : MH) : Option (Int × MH) :=
  nx (x1 - 1) fun v1 =>
  F_X1_starverOf_4 20000 x0 v1 h
set_option maxRecDepth 100000 in
theorem T_X1_starverOf_0 {Z : ZT} (C : Cx Z cX1_starverOf 3 RX1 1 (some .int)) (x0 : Nat) (x1 : Int) (hk_x0 : okX1 x0) (h : MH) (t : (Int × MH)) (hF : F_X1_starverOf_0 x0 x1 h = some t) : MW Z (Qm Z (some (iv t.1)) zN zG t.2 0 0) 3 zN zG h 0 0 0 [(0, rfv (xd (zX Z)) x0), (1, iv x1)] [] := by
  unfold F_X1_starverOf_0 at hF
  refine mw_iload_n 1 C dX1_starverOf_0 rfl rfl ?_
  refine mw_iconst C dX1_starverOf_1 ?_
  refine mw_isub C dX1_starverOf_2 ?_
  obtain ⟨v1, ev1, hF⟩ := nx_some hF
  refine mw_ti ev1 ?_
  refine mw_istore_n [(2, iv v1), (0, rfv (xd (zX Z)) x0), (1, iv x1)] C dX1_starverOf_3 rfl (by decide) rfl ?_
  refine mw_sub [1, 0] rfl ?_
  exact T_X1_starverOf_4 C 20000 x0 v1 hk_x0 _ _ hF
def F_X1_starverOf (x0 : Nat) (x1 : Int) (h : MH) : Option (Int × MH) := F_X1_starverOf_0 x0 x1 h
theorem T_X1_starverOf (l : Launch) (X : XT) (x0 : Nat) (x1 : Int) (hk_x0 : okX1 x0) (h : MH) (t : (Int × MH)) (hF : F_X1_starverOf x0 x1 h = some t) : Ct l X yX1_starverOf cX1_starverOf 3 (some .int) 1 [rfv (xd X) x0, iv x1] zN zG h (some (iv t.1)) zN zG t.2 0 0 := by
  refine Ct.head (by decide) (Nat.le_of_ble_eq_true rfl) (fun Z hX hl _ _ _ C => ?_)
  subst hX
  subst hl
  exact (T_X1_starverOf_0 C x0 x1 hk_x0 _ _ hF)
/-! BottleLine$Floor.blockerOf(I)I -/
def F_X1_blockerOf_4 : Nat → Nat → Int → MH → Option (Int × MH)
  | 0, _, _, _ => none
  | n + 1, x0, x2, h =>
    ck (in32 x2) <|
    ck (in32 ((h x0 0) - 1)) <|
    if ((h x0 0) - 1) ≤ x2 then
      some (((h x0 0) - 1), h)
    else
      ck (0 ≤ x2 ∧ x2 < 6) <|
      ck (in32 (h (x0 + 6) x2.toNat)) <|
      if (h (x0 + 6) x2.toNat) = 2 then
        F_X1_blockerOf_4 n x0 (x2 + 1) h
      else
        some (x2, h)
set_option maxRecDepth 100000 in
theorem T_X1_blockerOf_4 {Z : ZT} (C : Cx Z cX1_blockerOf 3 RX1 1 (some .int)) : ∀ (n : Nat) (x0 : Nat) (x2 : Int) (hk_x0 : okX1 x0) (h : MH) (t : (Int × MH)), F_X1_blockerOf_4 n x0 x2 h = some t → MW Z (Qm Z (some (iv t.1)) zN zG t.2 0 0) 3 zN zG h 0 0 4 [(0, rfv (xd (zX Z)) x0), (2, iv x2)] [] := by
  intro n
  induction n with
  | zero =>
    intros
    rename_i hF
    exact absurd hF (by intro q; cases q)
  | succ n ih =>
    intro x0 x2 hk_x0 h t hF
    rw [F_X1_blockerOf_4] at hF
    refine mw_iload_n 1 C dX1_blockerOf_4 rfl rfl ?_
    refine mw_aload_n 0 C dX1_blockerOf_5 rfl rfl ?_
    refine mw_get (k := 0) (T := TX1) (v := iv (h x0 0)) C dX1_blockerOf_6 (okX1_n _ hk_x0) (okX1_k _ hk_x0) (by decide) rfl inX1 (by decide) wd76 rfl rfl ?_
    refine mw_iconst C dX1_blockerOf_9 ?_
    refine mw_isub C dX1_blockerOf_10 ?_
    obtain ⟨g1, hF⟩ := ck_some hF
    obtain ⟨g2, hF⟩ := ck_some hF
    rcases ite_some hF with ⟨c3, hF⟩ | ⟨c3, hF⟩
    · refine mw_icmp_ge_t (tgt := 32) C dX1_blockerOf_11 (by decide) g1 g2 c3 ?_
      refine mw_aload_n 0 C dX1_blockerOf_32 rfl rfl ?_
      refine mw_get (k := 0) (T := TX1) (v := iv (h x0 0)) C dX1_blockerOf_33 (okX1_n _ hk_x0) (okX1_k _ hk_x0) (by decide) rfl inX1 (by decide) wd76 rfl rfl ?_
      refine mw_iconst C dX1_blockerOf_36 ?_
      refine mw_isub C dX1_blockerOf_37 ?_
      cases hF
      exact mw_iret C dX1_blockerOf_38 rfl rfl
    · refine mw_icmp_ge_f (tgt := 32) C dX1_blockerOf_11 (by decide) g1 g2 c3 ?_
      refine mw_aload_n 0 C dX1_blockerOf_14 rfl rfl ?_
      refine mw_get (k := 9) (T := TX1) (v := rfv (xd (zX Z)) (x0 + 6)) C dX1_blockerOf_15 (okX1_n _ hk_x0) (okX1_k _ hk_x0) (by decide) rfl inX1 (by decide) wd105 rfl (zfv_r rfl (okX1_g9 _ hk_x0)) ?_
      refine mw_iload_n 1 C dX1_blockerOf_18 rfl rfl ?_
      obtain ⟨g4, hF⟩ := ck_some hF
      refine mw_iald C dX1_blockerOf_19 (okX1_f9 _ hk_x0).2.1 (okX1_f9 _ hk_x0).1 (okX1_f9 _ hk_x0).2.2 g4 ?_
      refine mw_iconst C dX1_blockerOf_20 ?_
      obtain ⟨g5, hF⟩ := ck_some hF
      rcases ite_some hF with ⟨c6, hF⟩ | ⟨c6, hF⟩
      · refine mw_icmp_eq_t (tgt := 26) C dX1_blockerOf_21 (by decide) g5 (by decide) c6 ?_
        refine mw_iinc 1 [(2, iv (x2 + 1)), (0, rfv (xd (zX Z)) x0)] C dX1_blockerOf_26 rfl (by decide) rfl ?_
        refine mw_goto (tgt := 4) C dX1_blockerOf_29 (by decide) ?_
        refine mw_sub [1, 0] rfl ?_
        exact ih x0 (x2 + 1) hk_x0 _ _ hF
      · refine mw_icmp_eq_f (tgt := 26) C dX1_blockerOf_21 (by decide) g5 (by decide) c6 ?_
        refine mw_iload_n 1 C dX1_blockerOf_24 rfl rfl ?_
        cases hF
        exact mw_iret C dX1_blockerOf_25 rfl rfl
def F_X1_blockerOf_0 (x0 : Nat) (x1 : Int) (h : MH) : Option (Int × MH) :=
  nx (x1 + 1) fun v1 =>
  F_X1_blockerOf_4 20000 x0 v1 h
set_option maxRecDepth 100000 in
theorem T_X1_blockerOf_0 {Z : ZT} (C : Cx Z cX1_blockerOf 3 RX1 1 (some .int)) (x0 : Nat) (x1 : Int) (hk_x0 : okX1 x0) (h : MH) (t : (Int × MH)) (hF : F_X1_blockerOf_0 x0 x1 h = some t) : MW Z (Qm Z (some (iv t.1)) zN zG t.2 0 0) 3 zN zG h 0 0 0 [(0, rfv (xd (zX Z)) x0), (1, iv x1)] [] := by
  unfold F_X1_blockerOf_0 at hF
  refine mw_iload_n 1 C dX1_blockerOf_0 rfl rfl ?_
  refine mw_iconst C dX1_blockerOf_1 ?_
  refine mw_iadd C dX1_blockerOf_2 ?_
  obtain ⟨v1, ev1, hF⟩ := nx_some hF
  refine mw_ti ev1 ?_
  refine mw_istore_n [(2, iv v1), (0, rfv (xd (zX Z)) x0), (1, iv x1)] C dX1_blockerOf_3 rfl (by decide) rfl ?_
  refine mw_sub [1, 0] rfl ?_
  exact T_X1_blockerOf_4 C 20000 x0 v1 hk_x0 _ _ hF
def F_X1_blockerOf (x0 : Nat) (x1 : Int) (h : MH) : Option (Int × MH) := F_X1_blockerOf_0 x0 x1 h
theorem T_X1_blockerOf (l : Launch) (X : XT) (x0 : Nat) (x1 : Int) (hk_x0 : okX1 x0) (h : MH) (t : (Int × MH)) (hF : F_X1_blockerOf x0 x1 h = some t) : Ct l X yX1_blockerOf cX1_blockerOf 3 (some .int) 1 [rfv (xd X) x0, iv x1] zN zG h (some (iv t.1)) zN zG t.2 0 0 := by
  refine Ct.head (by decide) (Nat.le_of_ble_eq_true rfl) (fun Z hX hl _ _ _ C => ?_)
  subst hX
  subst hl
  exact (T_X1_blockerOf_0 C x0 x1 hk_x0 _ _ hF)
/-! BottleLine$Floor.countStates()V -/
def F_X1_countStates_90 (k2 : Nat → Int → MH → Option MH) (x0 : Nat) (x1 : Int) (h : MH) : Option MH :=
  k2 x0 (x1 + 1) h
set_option maxRecDepth 100000 in
theorem T_X1_countStates_90 {Z : ZT} (C : Cx Z cX1_countStates 2 RX1 2 none) (k2 : Nat → Int → MH → Option MH) (hk2 : ∀ (x0 : Nat) (x1 : Int) (hk_x0 : okX1 x0) (h : MH) (t : MH), k2 x0 x1 h = some t → MW Z (Qm Z none zN zG t 0 0) 2 zN zG h 0 0 2 [(0, rfv (xd (zX Z)) x0), (1, iv x1)] []) (x0 : Nat) (x1 : Int) (hk_x0 : okX1 x0) (h : MH) (t : MH) (hF : F_X1_countStates_90 k2 x0 x1 h = some t) : MW Z (Qm Z none zN zG t 0 0) 2 zN zG h 0 0 90 [(0, rfv (xd (zX Z)) x0), (1, iv x1)] [] := by
  unfold F_X1_countStates_90 at hF
  refine mw_iinc 1 [(1, iv (x1 + 1)), (0, rfv (xd (zX Z)) x0)] C dX1_countStates_90 rfl (by decide) rfl ?_
  refine mw_goto (tgt := 2) C dX1_countStates_93 (by decide) ?_
  refine mw_sub [1, 0] rfl ?_
  exact hk2 x0 (x1 + 1) hk_x0 _ _ hF
def F_X1_countStates_2 : Nat → Nat → Int → MH → Option MH
  | 0, _, _, _ => none
  | n + 1, x0, x1, h =>
    ck (in32 x1) <|
    ck (in32 (h x0 0)) <|
    if (h x0 0) ≤ x1 then
      some h
    else
      ck (0 ≤ x1 ∧ x1 < 6) <|
      ck (0 ≤ ((x1 * 4) + (h (x0 + 6) x1.toNat)) ∧ ((x1 * 4) + (h (x0 + 6) x1.toNat)) < 24) <|
      nx (hup h (x0 + 9) ((x1 * 4) + (h (x0 + 6) x1.toNat)).toNat ((h (x0 + 9) ((x1 * 4) + (h (x0 + 6) x1.toNat)).toNat) + 1)) fun h6 =>
      ck (in32 (h6 (x0 + 6) x1.toNat)) <|
      if (h6 (x0 + 6) x1.toNat) ≠ 1 then
        if (h6 (x0 + 6) x1.toNat) ≠ 2 then
          F_X1_countStates_90 (F_X1_countStates_2 n) x0 x1 h6
        else
          (F_X1_blockerOf x0 x1 h6).bind fun q10 =>
          ck (0 ≤ ((x1 * 6) + q10.1) ∧ ((x1 * 6) + q10.1) < 36) <|
          nx (hup q10.2 (x0 + 10) ((x1 * 6) + q10.1).toNat ((q10.2 (x0 + 10) ((x1 * 6) + q10.1).toNat) + 1)) fun h12 =>
          F_X1_countStates_90 (F_X1_countStates_2 n) x0 x1 h12
      else
        (F_X1_starverOf x0 x1 h6).bind fun q13 =>
        ck (0 ≤ ((x1 * 6) + q13.1) ∧ ((x1 * 6) + q13.1) < 36) <|
        nx (hup q13.2 (x0 + 10) ((x1 * 6) + q13.1).toNat ((q13.2 (x0 + 10) ((x1 * 6) + q13.1).toNat) + 1)) fun h15 =>
        F_X1_countStates_90 (F_X1_countStates_2 n) x0 x1 h15
set_option maxRecDepth 100000 in
theorem T_X1_countStates_2 {Z : ZT} (C : Cx Z cX1_countStates 2 RX1 2 none) : ∀ (n : Nat) (x0 : Nat) (x1 : Int) (hk_x0 : okX1 x0) (h : MH) (t : MH), F_X1_countStates_2 n x0 x1 h = some t → MW Z (Qm Z none zN zG t 0 0) 2 zN zG h 0 0 2 [(0, rfv (xd (zX Z)) x0), (1, iv x1)] [] := by
  intro n
  induction n with
  | zero =>
    intros
    rename_i hF
    exact absurd hF (by intro q; cases q)
  | succ n ih =>
    intro x0 x1 hk_x0 h t hF
    rw [F_X1_countStates_2] at hF
    refine mw_iload_n 1 C dX1_countStates_2 rfl rfl ?_
    refine mw_aload_n 0 C dX1_countStates_3 rfl rfl ?_
    refine mw_get (k := 0) (T := TX1) (v := iv (h x0 0)) C dX1_countStates_4 (okX1_n _ hk_x0) (okX1_k _ hk_x0) (by decide) rfl inX1 (by decide) wd76 rfl rfl ?_
    obtain ⟨g1, hF⟩ := ck_some hF
    obtain ⟨g2, hF⟩ := ck_some hF
    rcases ite_some hF with ⟨c3, hF⟩ | ⟨c3, hF⟩
    · refine mw_icmp_ge_t (tgt := 96) C dX1_countStates_7 (by decide) g1 g2 c3 ?_
      cases hF
      exact mw_vret C dX1_countStates_96 rfl rfl
    · refine mw_icmp_ge_f (tgt := 96) C dX1_countStates_7 (by decide) g1 g2 c3 ?_
      refine mw_aload_n 0 C dX1_countStates_10 rfl rfl ?_
      refine mw_get (k := 12) (T := TX1) (v := rfv (xd (zX Z)) (x0 + 9)) C dX1_countStates_11 (okX1_n _ hk_x0) (okX1_k _ hk_x0) (by decide) rfl inX1 (by decide) wd113 rfl (zfv_r rfl (okX1_g12 _ hk_x0)) ?_
      refine mw_iload_n 1 C dX1_countStates_14 rfl rfl ?_
      refine mw_iconst C dX1_countStates_15 ?_
      refine mw_imul C dX1_countStates_16 ?_
      refine mw_aload_n 0 C dX1_countStates_17 rfl rfl ?_
      refine mw_get (k := 9) (T := TX1) (v := rfv (xd (zX Z)) (x0 + 6)) C dX1_countStates_18 (okX1_n _ hk_x0) (okX1_k _ hk_x0) (by decide) rfl inX1 (by decide) wd105 rfl (zfv_r rfl (okX1_g9 _ hk_x0)) ?_
      refine mw_iload_n 1 C dX1_countStates_21 rfl rfl ?_
      obtain ⟨g4, hF⟩ := ck_some hF
      refine mw_iald C dX1_countStates_22 (okX1_f9 _ hk_x0).2.1 (okX1_f9 _ hk_x0).1 (okX1_f9 _ hk_x0).2.2 g4 ?_
      refine mw_iadd C dX1_countStates_23 ?_
      refine mw_dup2 C dX1_countStates_24 rfl rfl ?_
      obtain ⟨g5, hF⟩ := ck_some hF
      refine mw_iald C dX1_countStates_25 (okX1_f12 _ hk_x0).2.1 (okX1_f12 _ hk_x0).1 (okX1_f12 _ hk_x0).2.2 g5 ?_
      refine mw_iconst C dX1_countStates_26 ?_
      refine mw_iadd C dX1_countStates_27 ?_
      obtain ⟨h6, eh6, hF⟩ := nx_some hF
      refine mw_iast C dX1_countStates_28 (okX1_f12 _ hk_x0).2.1 (okX1_f12 _ hk_x0).1 (okX1_f12 _ hk_x0).2.2 g5 (mw_h eh6 ?_)
      refine mw_aload_n 0 C dX1_countStates_29 rfl rfl ?_
      refine mw_get (k := 9) (T := TX1) (v := rfv (xd (zX Z)) (x0 + 6)) C dX1_countStates_30 (okX1_n _ hk_x0) (okX1_k _ hk_x0) (by decide) rfl inX1 (by decide) wd105 rfl (zfv_r rfl (okX1_g9 _ hk_x0)) ?_
      refine mw_iload_n 1 C dX1_countStates_33 rfl rfl ?_
      refine mw_iald C dX1_countStates_34 (okX1_f9 _ hk_x0).2.1 (okX1_f9 _ hk_x0).1 (okX1_f9 _ hk_x0).2.2 g4 ?_
      refine mw_iconst C dX1_countStates_35 ?_
      obtain ⟨g7, hF⟩ := ck_some hF
      rcases ite_some hF with ⟨c8, hF⟩ | ⟨c8, hF⟩
      · refine mw_icmp_ne_t (tgt := 61) C dX1_countStates_36 (by decide) g7 (by decide) c8 ?_
        refine mw_aload_n 0 C dX1_countStates_61 rfl rfl ?_
        refine mw_get (k := 9) (T := TX1) (v := rfv (xd (zX Z)) (x0 + 6)) C dX1_countStates_62 (okX1_n _ hk_x0) (okX1_k _ hk_x0) (by decide) rfl inX1 (by decide) wd105 rfl (zfv_r rfl (okX1_g9 _ hk_x0)) ?_
        refine mw_iload_n 1 C dX1_countStates_65 rfl rfl ?_
        refine mw_iald C dX1_countStates_66 (okX1_f9 _ hk_x0).2.1 (okX1_f9 _ hk_x0).1 (okX1_f9 _ hk_x0).2.2 g4 ?_
        refine mw_iconst C dX1_countStates_67 ?_
        rcases ite_some hF with ⟨c9, hF⟩ | ⟨c9, hF⟩
        · refine mw_icmp_ne_t (tgt := 90) C dX1_countStates_68 (by decide) g7 (by decide) c9 ?_
          exact T_X1_countStates_90 C (F_X1_countStates_2 n) ih x0 x1 hk_x0 _ _ hF
        · refine mw_icmp_ne_f (tgt := 90) C dX1_countStates_68 (by decide) g7 (by decide) c9 ?_
          refine mw_aload_n 0 C dX1_countStates_71 rfl rfl ?_
          refine mw_get (k := 13) (T := TX1) (v := rfv (xd (zX Z)) (x0 + 10)) C dX1_countStates_72 (okX1_n _ hk_x0) (okX1_k _ hk_x0) (by decide) rfl inX1 (by decide) wd115 rfl (zfv_r rfl (okX1_g13 _ hk_x0)) ?_
          refine mw_iload_n 1 C dX1_countStates_75 rfl rfl ?_
          refine mw_bipush C dX1_countStates_76 bp_6 ?_
          refine mw_imul C dX1_countStates_78 ?_
          refine mw_aload_n 0 C dX1_countStates_79 rfl rfl ?_
          refine mw_iload_n 1 C dX1_countStates_80 rfl rfl ?_
          obtain ⟨q10, hq10, hF⟩ := bind_some hF
          refine mw_callV (c := x0) [iv x1] [iv (x1 * 6), rfv (xd (zX Z)) (x0 + 10)] C dX1_countStates_81 (T_X1_blockerOf (zl Z) (zX Z) x0 x1 hk_x0 _ _ hq10) rfl (okX1_n _ hk_x0) (okX1_k _ hk_x0) (by decide) rfl wd623 wd624 wd1341 wd5 wd625 hd_X1_blockerOf rfl (by decide) (by decide) (Nat.le_of_ble_eq_true rfl) ⟨Nat.zero_le _, Nat.zero_le _⟩ ?_
          refine mw_iadd C dX1_countStates_84 ?_
          refine mw_dup2 C dX1_countStates_85 rfl rfl ?_
          obtain ⟨g11, hF⟩ := ck_some hF
          refine mw_iald C dX1_countStates_86 (okX1_f13 _ hk_x0).2.1 (okX1_f13 _ hk_x0).1 (okX1_f13 _ hk_x0).2.2 g11 ?_
          refine mw_iconst C dX1_countStates_87 ?_
          refine mw_iadd C dX1_countStates_88 ?_
          obtain ⟨h12, eh12, hF⟩ := nx_some hF
          refine mw_iast C dX1_countStates_89 (okX1_f13 _ hk_x0).2.1 (okX1_f13 _ hk_x0).1 (okX1_f13 _ hk_x0).2.2 g11 (mw_h eh12 ?_)
          exact T_X1_countStates_90 C (F_X1_countStates_2 n) ih x0 x1 hk_x0 _ _ hF
      · refine mw_icmp_ne_f (tgt := 61) C dX1_countStates_36 (by decide) g7 (by decide) c8 ?_
        refine mw_aload_n 0 C dX1_countStates_39 rfl rfl ?_
        refine mw_get (k := 13) (T := TX1) (v := rfv (xd (zX Z)) (x0 + 10)) C dX1_countStates_40 (okX1_n _ hk_x0) (okX1_k _ hk_x0) (by decide) rfl inX1 (by decide) wd115 rfl (zfv_r rfl (okX1_g13 _ hk_x0)) ?_
        refine mw_iload_n 1 C dX1_countStates_43 rfl rfl ?_
        refine mw_bipush C dX1_countStates_44 bp_6 ?_
        refine mw_imul C dX1_countStates_46 ?_
        refine mw_aload_n 0 C dX1_countStates_47 rfl rfl ?_
        refine mw_iload_n 1 C dX1_countStates_48 rfl rfl ?_
        obtain ⟨q13, hq13, hF⟩ := bind_some hF
        refine mw_callV (c := x0) [iv x1] [iv (x1 * 6), rfv (xd (zX Z)) (x0 + 10)] C dX1_countStates_49 (T_X1_starverOf (zl Z) (zX Z) x0 x1 hk_x0 _ _ hq13) rfl (okX1_n _ hk_x0) (okX1_k _ hk_x0) (by decide) rfl wd620 wd621 wd1340 wd5 wd622 hd_X1_starverOf rfl (by decide) (by decide) (Nat.le_of_ble_eq_true rfl) ⟨Nat.zero_le _, Nat.zero_le _⟩ ?_
        refine mw_iadd C dX1_countStates_52 ?_
        refine mw_dup2 C dX1_countStates_53 rfl rfl ?_
        obtain ⟨g14, hF⟩ := ck_some hF
        refine mw_iald C dX1_countStates_54 (okX1_f13 _ hk_x0).2.1 (okX1_f13 _ hk_x0).1 (okX1_f13 _ hk_x0).2.2 g14 ?_
        refine mw_iconst C dX1_countStates_55 ?_
        refine mw_iadd C dX1_countStates_56 ?_
        obtain ⟨h15, eh15, hF⟩ := nx_some hF
        refine mw_iast C dX1_countStates_57 (okX1_f13 _ hk_x0).2.1 (okX1_f13 _ hk_x0).1 (okX1_f13 _ hk_x0).2.2 g14 (mw_h eh15 ?_)
        refine mw_goto (tgt := 90) C dX1_countStates_58 (by decide) ?_
        exact T_X1_countStates_90 C (F_X1_countStates_2 n) ih x0 x1 hk_x0 _ _ hF
def F_X1_countStates_0 (x0 : Nat) (h : MH) : Option MH :=
  F_X1_countStates_2 20000 x0 0 h
set_option maxRecDepth 100000 in
theorem T_X1_countStates_0 {Z : ZT} (C : Cx Z cX1_countStates 2 RX1 2 none) (x0 : Nat) (hk_x0 : okX1 x0) (h : MH) (t : MH) (hF : F_X1_countStates_0 x0 h = some t) : MW Z (Qm Z none zN zG t 0 0) 2 zN zG h 0 0 0 [(0, rfv (xd (zX Z)) x0)] [] := by
  unfold F_X1_countStates_0 at hF
  refine mw_iconst C dX1_countStates_0 ?_
  refine mw_istore_n [(1, iv 0), (0, rfv (xd (zX Z)) x0)] C dX1_countStates_1 rfl (by decide) rfl ?_
  refine mw_sub [1, 0] rfl ?_
  exact T_X1_countStates_2 C 20000 x0 0 hk_x0 _ _ hF
def F_X1_countStates (x0 : Nat) (h : MH) : Option MH := F_X1_countStates_0 x0 h
theorem T_X1_countStates (l : Launch) (X : XT) (x0 : Nat) (hk_x0 : okX1 x0) (h : MH) (t : MH) (hF : F_X1_countStates x0 h = some t) : Ct l X yX1_countStates cX1_countStates 2 none 2 [rfv (xd X) x0] zN zG h none zN zG t 0 0 := by
  refine Ct.head (by decide) (Nat.le_of_ble_eq_true rfl) (fun Z hX hl _ _ _ C => ?_)
  subst hX
  subst hl
  exact (T_X1_countStates_0 C x0 hk_x0 _ _ hF)
/-! BottleLine$Floor.spend(I)I -/
def F_X1_spend_7 : Nat → Nat → Int → Int → Int → MH → Option (Int × MH)
  | 0, _, _, _, _, _ => none
  | n + 1, x0, x1, x2, x3, h =>
    ck (in32 x3) <|
    ck (in32 x1) <|
    if x1 ≤ x3 then
      (F_X1_made x0 h).bind fun q4 =>
      some ((q4.1 - x2), q4.2)
    else
      (F_X1_goOn x0 h).bind fun q5 =>
      (F_X1_countStates x0 q5).bind fun q6 =>
      F_X1_spend_7 n x0 x1 x2 (x3 + 1) q6
set_option maxRecDepth 100000 in
theorem T_X1_spend_7 {Z : ZT} (C : Cx Z cX1_spend 4 RX1 4 (some .int)) : ∀ (n : Nat) (x0 : Nat) (x1 : Int) (x2 : Int) (x3 : Int) (hk_x0 : okX1 x0) (h : MH) (t : (Int × MH)), F_X1_spend_7 n x0 x1 x2 x3 h = some t → MW Z (Qm Z (some (iv t.1)) zN zG t.2 0 0) 4 zN zG h 0 0 7 [(0, rfv (xd (zX Z)) x0), (1, iv x1), (2, iv x2), (3, iv x3)] [] := by
  intro n
  induction n with
  | zero =>
    intros
    rename_i hF
    exact absurd hF (by intro q; cases q)
  | succ n ih =>
    intro x0 x1 x2 x3 hk_x0 h t hF
    rw [F_X1_spend_7] at hF
    refine mw_iload_n 3 C dX1_spend_7 rfl rfl ?_
    refine mw_iload_n 1 C dX1_spend_8 rfl rfl ?_
    obtain ⟨g1, hF⟩ := ck_some hF
    obtain ⟨g2, hF⟩ := ck_some hF
    rcases ite_some hF with ⟨c3, hF⟩ | ⟨c3, hF⟩
    · refine mw_icmp_ge_t (tgt := 26) C dX1_spend_9 (by decide) g1 g2 c3 ?_
      refine mw_aload_n 0 C dX1_spend_26 rfl rfl ?_
      obtain ⟨q4, hq4, hF⟩ := bind_some hF
      refine mw_callV (c := x0) [] [] C dX1_spend_27 (T_X1_made (zl Z) (zX Z) x0 hk_x0 _ _ hq4) rfl (okX1_n _ hk_x0) (okX1_k _ hk_x0) (by decide) rfl wd600 wd552 wd553 wd5 wd554 hd_X1_made rfl (by decide) (by decide) (Nat.le_of_ble_eq_true rfl) ⟨Nat.zero_le _, Nat.zero_le _⟩ ?_
      refine mw_iload_n 2 C dX1_spend_30 rfl rfl ?_
      refine mw_isub C dX1_spend_31 ?_
      cases hF
      exact mw_iret C dX1_spend_32 rfl rfl
    · refine mw_icmp_ge_f (tgt := 26) C dX1_spend_9 (by decide) g1 g2 c3 ?_
      refine mw_aload_n 0 C dX1_spend_12 rfl rfl ?_
      obtain ⟨q5, hq5, hF⟩ := bind_some hF
      refine mw_callV (c := x0) [] [] C dX1_spend_13 (T_X1_goOn (zl Z) (zX Z) x0 hk_x0 _ _ hq5) rfl (okX1_n _ hk_x0) (okX1_k _ hk_x0) (by decide) rfl wd601 wd602 wd603 wd5 wd604 hd_X1_goOn rfl (by decide) (by decide) (Nat.le_of_ble_eq_true rfl) ⟨Nat.zero_le _, Nat.zero_le _⟩ ?_
      refine mw_aload_n 0 C dX1_spend_16 rfl rfl ?_
      obtain ⟨q6, hq6, hF⟩ := bind_some hF
      refine mw_callV (c := x0) [] [] C dX1_spend_17 (T_X1_countStates (zl Z) (zX Z) x0 hk_x0 _ _ hq6) rfl (okX1_n _ hk_x0) (okX1_k _ hk_x0) (by decide) rfl wd617 wd618 wd1339 wd5 wd619 hd_X1_countStates rfl (by decide) (by decide) (Nat.le_of_ble_eq_true rfl) ⟨Nat.zero_le _, Nat.zero_le _⟩ ?_
      refine mw_iinc 3 [(3, iv (x3 + 1)), (0, rfv (xd (zX Z)) x0), (1, iv x1), (2, iv x2)] C dX1_spend_20 rfl (by decide) rfl ?_
      refine mw_goto (tgt := 7) C dX1_spend_23 (by decide) ?_
      refine mw_sub [1, 2, 3, 0] rfl ?_
      exact ih x0 x1 x2 (x3 + 1) hk_x0 _ _ hF
def F_X1_spend_0 (x0 : Nat) (x1 : Int) (h : MH) : Option (Int × MH) :=
  (F_X1_made x0 h).bind fun q1 =>
  F_X1_spend_7 20000 x0 x1 q1.1 0 q1.2
set_option maxRecDepth 100000 in
theorem T_X1_spend_0 {Z : ZT} (C : Cx Z cX1_spend 4 RX1 4 (some .int)) (x0 : Nat) (x1 : Int) (hk_x0 : okX1 x0) (h : MH) (t : (Int × MH)) (hF : F_X1_spend_0 x0 x1 h = some t) : MW Z (Qm Z (some (iv t.1)) zN zG t.2 0 0) 4 zN zG h 0 0 0 [(0, rfv (xd (zX Z)) x0), (1, iv x1)] [] := by
  unfold F_X1_spend_0 at hF
  refine mw_aload_n 0 C dX1_spend_0 rfl rfl ?_
  obtain ⟨q1, hq1, hF⟩ := bind_some hF
  refine mw_callV (c := x0) [] [] C dX1_spend_1 (T_X1_made (zl Z) (zX Z) x0 hk_x0 _ _ hq1) rfl (okX1_n _ hk_x0) (okX1_k _ hk_x0) (by decide) rfl wd600 wd552 wd553 wd5 wd554 hd_X1_made rfl (by decide) (by decide) (Nat.le_of_ble_eq_true rfl) ⟨Nat.zero_le _, Nat.zero_le _⟩ ?_
  refine mw_istore_n [(2, iv q1.1), (0, rfv (xd (zX Z)) x0), (1, iv x1)] C dX1_spend_4 rfl (by decide) rfl ?_
  refine mw_iconst C dX1_spend_5 ?_
  refine mw_istore_n [(3, iv 0), (2, iv q1.1), (0, rfv (xd (zX Z)) x0), (1, iv x1)] C dX1_spend_6 rfl (by decide) rfl ?_
  refine mw_sub [2, 3, 1, 0] rfl ?_
  exact T_X1_spend_7 C 20000 x0 x1 q1.1 0 hk_x0 _ _ hF
def F_X1_spend (x0 : Nat) (x1 : Int) (h : MH) : Option (Int × MH) := F_X1_spend_0 x0 x1 h
theorem T_X1_spend (l : Launch) (X : XT) (x0 : Nat) (x1 : Int) (hk_x0 : okX1 x0) (h : MH) (t : (Int × MH)) (hF : F_X1_spend x0 x1 h = some t) : Ct l X yX1_spend cX1_spend 4 (some .int) 4 [rfv (xd X) x0, iv x1] zN zG h (some (iv t.1)) zN zG t.2 0 0 := by
  refine Ct.head (by decide) (Nat.le_of_ble_eq_true rfl) (fun Z hX hl _ _ _ C => ?_)
  subst hX
  subst hl
  exact (T_X1_spend_0 C x0 x1 hk_x0 _ _ hF)
/-! java/util/Arrays.fill([II)V -/
def F_J7_fill_53178_5 : Nat → Nat → Nat → Int → Int → Int → MH → Option MH
  | 0, _, _, _, _, _, _ => none
  | n + 1, x0, len_x0, x1, x2, x3, h =>
    ck (in32 x2) <|
    ck (in32 x3) <|
    if x3 ≤ x2 then
      some h
    else
      ck (0 ≤ x2 ∧ x2 < (len_x0 : Int)) <|
      nx (hup h x0 x2.toNat x1) fun h5 =>
      F_J7_fill_53178_5 n x0 len_x0 x1 (x2 + 1) x3 h5
set_option maxRecDepth 100000 in
theorem T_J7_fill_53178_5 {Z : ZT} (C : Cx Z cJ7_fill_53178 4 RJ7 1 none) : ∀ (n : Nat) (x0 : Nat) (len_x0 : Nat) (x1 : Int) (x2 : Int) (x3 : Int) (hk_x0 : zK x0 = (21, len_x0) ∧ x0 < zN ∧ len_x0 < 2147483648) (h : MH) (t : MH), F_J7_fill_53178_5 n x0 len_x0 x1 x2 x3 h = some t → MW Z (Qm Z none zN zG t 0 0) 4 zN zG h 0 0 5 [(0, rfv (xd (zX Z)) x0), (1, iv x1), (2, iv x2), (3, iv x3)] [] := by
  intro n
  induction n with
  | zero =>
    intros
    rename_i hF
    exact absurd hF (by intro q; cases q)
  | succ n ih =>
    intro x0 len_x0 x1 x2 x3 hk_x0 h t hF
    rw [F_J7_fill_53178_5] at hF
    refine mw_iload_n 2 C dJ7_fill_53178_5 rfl rfl ?_
    refine mw_iload_n 3 C dJ7_fill_53178_6 rfl rfl ?_
    obtain ⟨g1, hF⟩ := ck_some hF
    obtain ⟨g2, hF⟩ := ck_some hF
    rcases ite_some hF with ⟨c3, hF⟩ | ⟨c3, hF⟩
    · refine mw_icmp_ge_t (tgt := 20) C dJ7_fill_53178_7 (by decide) g1 g2 c3 ?_
      cases hF
      exact mw_vret C dJ7_fill_53178_20 rfl rfl
    · refine mw_icmp_ge_f (tgt := 20) C dJ7_fill_53178_7 (by decide) g1 g2 c3 ?_
      refine mw_aload_n 0 C dJ7_fill_53178_10 rfl rfl ?_
      refine mw_iload_n 2 C dJ7_fill_53178_11 rfl rfl ?_
      refine mw_iload_n 1 C dJ7_fill_53178_12 rfl rfl ?_
      obtain ⟨g4, hF⟩ := ck_some hF
      obtain ⟨h5, eh5, hF⟩ := nx_some hF
      refine mw_iast C dJ7_fill_53178_13 hk_x0.2.1 hk_x0.1 hk_x0.2.2 g4 (mw_h eh5 ?_)
      refine mw_iinc 2 [(2, iv (x2 + 1)), (0, rfv (xd (zX Z)) x0), (1, iv x1), (3, iv x3)] C dJ7_fill_53178_14 rfl (by decide) rfl ?_
      refine mw_goto (tgt := 5) C dJ7_fill_53178_17 (by decide) ?_
      refine mw_sub [1, 2, 0, 3] rfl ?_
      exact ih x0 len_x0 x1 (x2 + 1) x3 hk_x0 _ _ hF
def F_J7_fill_53178_0 (x0 : Nat) (len_x0 : Nat) (x1 : Int) (h : MH) : Option MH :=
  nx (len_x0 : Int) fun v1 =>
  F_J7_fill_53178_5 20000 x0 len_x0 x1 0 v1 h
set_option maxRecDepth 100000 in
theorem T_J7_fill_53178_0 {Z : ZT} (C : Cx Z cJ7_fill_53178 4 RJ7 1 none) (x0 : Nat) (len_x0 : Nat) (x1 : Int) (hk_x0 : zK x0 = (21, len_x0) ∧ x0 < zN ∧ len_x0 < 2147483648) (h : MH) (t : MH) (hF : F_J7_fill_53178_0 x0 len_x0 x1 h = some t) : MW Z (Qm Z none zN zG t 0 0) 4 zN zG h 0 0 0 [(0, rfv (xd (zX Z)) x0), (1, iv x1)] [] := by
  unfold F_J7_fill_53178_0 at hF
  refine mw_iconst C dJ7_fill_53178_0 ?_
  refine mw_istore_n [(2, iv 0), (0, rfv (xd (zX Z)) x0), (1, iv x1)] C dJ7_fill_53178_1 rfl (by decide) rfl ?_
  refine mw_aload_n 1 C dJ7_fill_53178_2 rfl rfl ?_
  refine mw_alenI C dJ7_fill_53178_3 hk_x0.2.1 hk_x0.1 ?_
  obtain ⟨v1, ev1, hF⟩ := nx_some hF
  refine mw_ti ev1 ?_
  refine mw_istore_n [(3, iv v1), (2, iv 0), (0, rfv (xd (zX Z)) x0), (1, iv x1)] C dJ7_fill_53178_4 rfl (by decide) rfl ?_
  refine mw_sub [2, 3, 1, 0] rfl ?_
  exact T_J7_fill_53178_5 C 20000 x0 len_x0 x1 0 v1 hk_x0 _ _ hF
def F_J7_fill_53178 (x0 : Nat) (len_x0 : Nat) (x1 : Int) (h : MH) : Option MH := F_J7_fill_53178_0 x0 len_x0 x1 h
theorem T_J7_fill_53178 (l : Launch) (X : XT) (x0 : Nat) (len_x0 : Nat) (x1 : Int) (hk_x0 : zK x0 = (21, len_x0) ∧ x0 < zN ∧ len_x0 < 2147483648) (h : MH) (t : MH) (hF : F_J7_fill_53178 x0 len_x0 x1 h = some t) : Ct l X yJ7_fill_53178 cJ7_fill_53178 4 none 1 [rfv (xd X) x0, iv x1] zN zG h none zN zG t 0 0 := by
  refine Ct.head (by decide) (Nat.le_of_ble_eq_true rfl) (fun Z hX hl _ _ _ C => ?_)
  subst hX
  subst hl
  exact (T_J7_fill_53178_0 C x0 len_x0 x1 hk_x0 _ _ hF)
/-! BottleLine$Floor.start(I)V -/
def F_X1_start_0 (x0 : Nat) (x1 : Int) (h : MH) : Option MH :=
  nx (hup h x0 5 x1) fun h1 =>
  nx (hup h1 x0 6 x1) fun h2 =>
  nx (hup h2 x0 7 0) fun h3 =>
  (F_J7_fill_53178 (x0 + 5) 6 0 h3).bind fun q4 =>
  (F_J7_fill_53178 (x0 + 6) 6 (-1) q4).bind fun q5 =>
  (F_J7_fill_53178 (x0 + 7) 6 0 q5).bind fun q6 =>
  (F_J7_fill_53178 (x0 + 8) 6 0 q6).bind fun q7 =>
  (F_J7_fill_53178 (x0 + 9) 24 0 q7).bind fun q8 =>
  (F_J7_fill_53178 (x0 + 10) 36 0 q8).bind fun q9 =>
  some q9
set_option maxRecDepth 100000 in
theorem T_X1_start_0 {Z : ZT} (C : Cx Z cX1_start 2 RX1 2 none) (x0 : Nat) (x1 : Int) (hk_x0 : okX1 x0) (h : MH) (t : MH) (hF : F_X1_start_0 x0 x1 h = some t) : MW Z (Qm Z none zN zG t 0 0) 2 zN zG h 0 0 0 [(0, rfv (xd (zX Z)) x0), (1, iv x1)] [] := by
  unfold F_X1_start_0 at hF
  refine mw_aload_n 0 C dX1_start_0 rfl rfl ?_
  refine mw_iload_n 1 C dX1_start_1 rfl rfl ?_
  obtain ⟨h1, eh1, hF⟩ := nx_some hF
  refine mw_put (k := 5) (T := TX1) (ty0 := tyX1) (x := x1) C dX1_start_2 (okX1_n _ hk_x0) (okX1_k _ hk_x0) (by decide) rfl inX1 tyX1_ok nmX1 (by decide) wd97 rfl rfl rfl rfl rfl (by decide) (mw_h eh1 ?_)
  refine mw_aload_n 0 C dX1_start_5 rfl rfl ?_
  refine mw_iload_n 1 C dX1_start_6 rfl rfl ?_
  obtain ⟨h2, eh2, hF⟩ := nx_some hF
  refine mw_put (k := 6) (T := TX1) (ty0 := tyX1) (x := x1) C dX1_start_7 (okX1_n _ hk_x0) (okX1_k _ hk_x0) (by decide) rfl inX1 tyX1_ok nmX1 (by decide) wd99 rfl rfl rfl rfl rfl (by decide) (mw_h eh2 ?_)
  refine mw_aload_n 0 C dX1_start_10 rfl rfl ?_
  refine mw_iconst C dX1_start_11 ?_
  obtain ⟨h3, eh3, hF⟩ := nx_some hF
  refine mw_put (k := 7) (T := TX1) (ty0 := tyX1) (x := 0) C dX1_start_12 (okX1_n _ hk_x0) (okX1_k _ hk_x0) (by decide) rfl inX1 tyX1_ok nmX1 (by decide) wd100 rfl rfl rfl rfl rfl (by decide) (mw_h eh3 ?_)
  refine mw_aload_n 0 C dX1_start_15 rfl rfl ?_
  refine mw_get (k := 8) (T := TX1) (v := rfv (xd (zX Z)) (x0 + 5)) C dX1_start_16 (okX1_n _ hk_x0) (okX1_k _ hk_x0) (by decide) rfl inX1 (by decide) wd102 rfl (zfv_r rfl (okX1_g8 _ hk_x0)) ?_
  refine mw_iconst C dX1_start_19 ?_
  obtain ⟨q4, hq4, hF⟩ := bind_some hF
  refine mw_callS [rfv (xd (zX Z)) (x0 + 5), iv 0] [] C dX1_start_20 (T_J7_fill_53178 (zl Z) (zX Z) (x0 + 5) 6 0 (okX1_f8 _ hk_x0) _ _ hq4) rfl wd349 wd247 wd13 wd248 hd_J7_fill_53178 rfl (by decide) (by decide) (Nat.le_of_ble_eq_true rfl) ⟨Nat.zero_le _, Nat.zero_le _⟩ ?_
  refine mw_aload_n 0 C dX1_start_23 rfl rfl ?_
  refine mw_get (k := 9) (T := TX1) (v := rfv (xd (zX Z)) (x0 + 6)) C dX1_start_24 (okX1_n _ hk_x0) (okX1_k _ hk_x0) (by decide) rfl inX1 (by decide) wd105 rfl (zfv_r rfl (okX1_g9 _ hk_x0)) ?_
  refine mw_iconst C dX1_start_27 ?_
  obtain ⟨q5, hq5, hF⟩ := bind_some hF
  refine mw_callS [rfv (xd (zX Z)) (x0 + 6), iv (-1)] [] C dX1_start_28 (T_J7_fill_53178 (zl Z) (zX Z) (x0 + 6) 6 (-1) (okX1_f9 _ hk_x0) _ _ hq5) rfl wd349 wd247 wd13 wd248 hd_J7_fill_53178 rfl (by decide) (by decide) (Nat.le_of_ble_eq_true rfl) ⟨Nat.zero_le _, Nat.zero_le _⟩ ?_
  refine mw_aload_n 0 C dX1_start_31 rfl rfl ?_
  refine mw_get (k := 10) (T := TX1) (v := rfv (xd (zX Z)) (x0 + 7)) C dX1_start_32 (okX1_n _ hk_x0) (okX1_k _ hk_x0) (by decide) rfl inX1 (by decide) wd109 rfl (zfv_r rfl (okX1_g10 _ hk_x0)) ?_
  refine mw_iconst C dX1_start_35 ?_
  obtain ⟨q6, hq6, hF⟩ := bind_some hF
  refine mw_callS [rfv (xd (zX Z)) (x0 + 7), iv 0] [] C dX1_start_36 (T_J7_fill_53178 (zl Z) (zX Z) (x0 + 7) 6 0 (okX1_f10 _ hk_x0) _ _ hq6) rfl wd349 wd247 wd13 wd248 hd_J7_fill_53178 rfl (by decide) (by decide) (Nat.le_of_ble_eq_true rfl) ⟨Nat.zero_le _, Nat.zero_le _⟩ ?_
  refine mw_aload_n 0 C dX1_start_39 rfl rfl ?_
  refine mw_get (k := 11) (T := TX1) (v := rfv (xd (zX Z)) (x0 + 8)) C dX1_start_40 (okX1_n _ hk_x0) (okX1_k _ hk_x0) (by decide) rfl inX1 (by decide) wd111 rfl (zfv_r rfl (okX1_g11 _ hk_x0)) ?_
  refine mw_iconst C dX1_start_43 ?_
  obtain ⟨q7, hq7, hF⟩ := bind_some hF
  refine mw_callS [rfv (xd (zX Z)) (x0 + 8), iv 0] [] C dX1_start_44 (T_J7_fill_53178 (zl Z) (zX Z) (x0 + 8) 6 0 (okX1_f11 _ hk_x0) _ _ hq7) rfl wd349 wd247 wd13 wd248 hd_J7_fill_53178 rfl (by decide) (by decide) (Nat.le_of_ble_eq_true rfl) ⟨Nat.zero_le _, Nat.zero_le _⟩ ?_
  refine mw_aload_n 0 C dX1_start_47 rfl rfl ?_
  refine mw_get (k := 12) (T := TX1) (v := rfv (xd (zX Z)) (x0 + 9)) C dX1_start_48 (okX1_n _ hk_x0) (okX1_k _ hk_x0) (by decide) rfl inX1 (by decide) wd113 rfl (zfv_r rfl (okX1_g12 _ hk_x0)) ?_
  refine mw_iconst C dX1_start_51 ?_
  obtain ⟨q8, hq8, hF⟩ := bind_some hF
  refine mw_callS [rfv (xd (zX Z)) (x0 + 9), iv 0] [] C dX1_start_52 (T_J7_fill_53178 (zl Z) (zX Z) (x0 + 9) 24 0 (okX1_f12 _ hk_x0) _ _ hq8) rfl wd349 wd247 wd13 wd248 hd_J7_fill_53178 rfl (by decide) (by decide) (Nat.le_of_ble_eq_true rfl) ⟨Nat.zero_le _, Nat.zero_le _⟩ ?_
  refine mw_aload_n 0 C dX1_start_55 rfl rfl ?_
  refine mw_get (k := 13) (T := TX1) (v := rfv (xd (zX Z)) (x0 + 10)) C dX1_start_56 (okX1_n _ hk_x0) (okX1_k _ hk_x0) (by decide) rfl inX1 (by decide) wd115 rfl (zfv_r rfl (okX1_g13 _ hk_x0)) ?_
  refine mw_iconst C dX1_start_59 ?_
  obtain ⟨q9, hq9, hF⟩ := bind_some hF
  refine mw_callS [rfv (xd (zX Z)) (x0 + 10), iv 0] [] C dX1_start_60 (T_J7_fill_53178 (zl Z) (zX Z) (x0 + 10) 36 0 (okX1_f13 _ hk_x0) _ _ hq9) rfl wd349 wd247 wd13 wd248 hd_J7_fill_53178 rfl (by decide) (by decide) (Nat.le_of_ble_eq_true rfl) ⟨Nat.zero_le _, Nat.zero_le _⟩ ?_
  cases hF
  exact mw_vret C dX1_start_63 rfl rfl
def F_X1_start (x0 : Nat) (x1 : Int) (h : MH) : Option MH := F_X1_start_0 x0 x1 h
theorem T_X1_start (l : Launch) (X : XT) (x0 : Nat) (x1 : Int) (hk_x0 : okX1 x0) (h : MH) (t : MH) (hF : F_X1_start x0 x1 h = some t) : Ct l X yX1_start cX1_start 2 none 2 [rfv (xd X) x0, iv x1] zN zG h none zN zG t 0 0 := by
  refine Ct.head (by decide) (Nat.le_of_ble_eq_true rfl) (fun Z hX hl _ _ _ C => ?_)
  subst hX
  subst hl
  exact (T_X1_start_0 C x0 x1 hk_x0 _ _ hF)
/-! BottleLine$Floor.copy(LBottleLine$Floor;)V -/
def F_X1_copy_0 (x0 : Nat) (x1 : Nat) (h : MH) : Option MH :=
  nx (hup h x0 0 (h x1 0)) fun h1 =>
  nx (hup h1 x0 5 (h1 x1 5)) fun h2 =>
  nx (hup h2 x0 6 (h2 x1 6)) fun h3 =>
  nx (hup h3 x0 7 (h3 x1 7)) fun h4 =>
  nx (hcp h4 (x1 + 1) 0 (x0 + 1) 0 6) fun h5 =>
  nx (hcp h5 (x1 + 2) 0 (x0 + 2) 0 6) fun h6 =>
  nx (hcp h6 (x1 + 3) 0 (x0 + 3) 0 6) fun h7 =>
  nx (hcp h7 (x1 + 4) 0 (x0 + 4) 0 6) fun h8 =>
  nx (hcp h8 (x1 + 5) 0 (x0 + 5) 0 6) fun h9 =>
  nx (hcp h9 (x1 + 6) 0 (x0 + 6) 0 6) fun h10 =>
  nx (hcp h10 (x1 + 7) 0 (x0 + 7) 0 6) fun h11 =>
  nx (hcp h11 (x1 + 8) 0 (x0 + 8) 0 6) fun h12 =>
  nx (hcp h12 (x1 + 9) 0 (x0 + 9) 0 24) fun h13 =>
  nx (hcp h13 (x1 + 10) 0 (x0 + 10) 0 36) fun h14 =>
  some h14
set_option maxRecDepth 100000 in
theorem T_X1_copy_0 {Z : ZT} (C : Cx Z cX1_copy 2 RX1 1 none) (x0 : Nat) (x1 : Nat) (hk_x0 : okX1 x0) (hk_x1 : okX1 x1) (h : MH) (t : MH) (hF : F_X1_copy_0 x0 x1 h = some t) : MW Z (Qm Z none zN zG t 0 0) 2 zN zG h 0 0 0 [(0, rfv (xd (zX Z)) x0), (1, rfv (xd (zX Z)) x1)] [] := by
  unfold F_X1_copy_0 at hF
  refine mw_aload_n 0 C dX1_copy_0 rfl rfl ?_
  refine mw_aload_n 1 C dX1_copy_1 rfl rfl ?_
  refine mw_get (k := 0) (T := TX1) (v := iv (h x1 0)) C dX1_copy_2 (okX1_n _ hk_x1) (okX1_k _ hk_x1) (by decide) rfl inX1 (by decide) wd76 rfl rfl ?_
  obtain ⟨h1, eh1, hF⟩ := nx_some hF
  refine mw_put (k := 0) (T := TX1) (ty0 := tyX1) (x := (h x1 0)) C dX1_copy_5 (okX1_n _ hk_x0) (okX1_k _ hk_x0) (by decide) rfl inX1 tyX1_ok nmX1 (by decide) wd76 rfl rfl rfl rfl rfl (by decide) (mw_h eh1 ?_)
  refine mw_aload_n 0 C dX1_copy_8 rfl rfl ?_
  refine mw_aload_n 1 C dX1_copy_9 rfl rfl ?_
  refine mw_get (k := 5) (T := TX1) (v := iv (h1 x1 5)) C dX1_copy_10 (okX1_n _ hk_x1) (okX1_k _ hk_x1) (by decide) rfl inX1 (by decide) wd97 rfl rfl ?_
  obtain ⟨h2, eh2, hF⟩ := nx_some hF
  refine mw_put (k := 5) (T := TX1) (ty0 := tyX1) (x := (h1 x1 5)) C dX1_copy_13 (okX1_n _ hk_x0) (okX1_k _ hk_x0) (by decide) rfl inX1 tyX1_ok nmX1 (by decide) wd97 rfl rfl rfl rfl rfl (by decide) (mw_h eh2 ?_)
  refine mw_aload_n 0 C dX1_copy_16 rfl rfl ?_
  refine mw_aload_n 1 C dX1_copy_17 rfl rfl ?_
  refine mw_get (k := 6) (T := TX1) (v := iv (h2 x1 6)) C dX1_copy_18 (okX1_n _ hk_x1) (okX1_k _ hk_x1) (by decide) rfl inX1 (by decide) wd99 rfl rfl ?_
  obtain ⟨h3, eh3, hF⟩ := nx_some hF
  refine mw_put (k := 6) (T := TX1) (ty0 := tyX1) (x := (h2 x1 6)) C dX1_copy_21 (okX1_n _ hk_x0) (okX1_k _ hk_x0) (by decide) rfl inX1 tyX1_ok nmX1 (by decide) wd99 rfl rfl rfl rfl rfl (by decide) (mw_h eh3 ?_)
  refine mw_aload_n 0 C dX1_copy_24 rfl rfl ?_
  refine mw_aload_n 1 C dX1_copy_25 rfl rfl ?_
  refine mw_get (k := 7) (T := TX1) (v := iv (h3 x1 7)) C dX1_copy_26 (okX1_n _ hk_x1) (okX1_k _ hk_x1) (by decide) rfl inX1 (by decide) wd100 rfl rfl ?_
  obtain ⟨h4, eh4, hF⟩ := nx_some hF
  refine mw_put (k := 7) (T := TX1) (ty0 := tyX1) (x := (h3 x1 7)) C dX1_copy_29 (okX1_n _ hk_x0) (okX1_k _ hk_x0) (by decide) rfl inX1 tyX1_ok nmX1 (by decide) wd100 rfl rfl rfl rfl rfl (by decide) (mw_h eh4 ?_)
  refine mw_aload_n 1 C dX1_copy_32 rfl rfl ?_
  refine mw_get (k := 1) (T := TX1) (v := rfv (xd (zX Z)) (x1 + 1)) C dX1_copy_33 (okX1_n _ hk_x1) (okX1_k _ hk_x1) (by decide) rfl inX1 (by decide) wd82 rfl (zfv_r rfl (okX1_g1 _ hk_x1)) ?_
  refine mw_iconst C dX1_copy_36 ?_
  refine mw_aload_n 0 C dX1_copy_37 rfl rfl ?_
  refine mw_get (k := 1) (T := TX1) (v := rfv (xd (zX Z)) (x0 + 1)) C dX1_copy_38 (okX1_n _ hk_x0) (okX1_k _ hk_x0) (by decide) rfl inX1 (by decide) wd82 rfl (zfv_r rfl (okX1_g1 _ hk_x0)) ?_
  refine mw_iconst C dX1_copy_41 ?_
  refine mw_bipush C dX1_copy_42 bp_6 ?_
  obtain ⟨h5, eh5, hF⟩ := nx_some hF
  refine mw_copyI C dX1_copy_44 wd492 wd323 wd15 wd324 (by decide) (Nat.le_of_ble_eq_true rfl) (okX1_f1 _ hk_x1).2.1 (okX1_f1 _ hk_x0).2.1 (okX1_f1 _ hk_x1).1 (okX1_f1 _ hk_x0).1 (okX1_f1 _ hk_x1).2.2 (okX1_f1 _ hk_x0).2.2 (by decide) (mw_h eh5 ?_)
  refine mw_aload_n 1 C dX1_copy_47 rfl rfl ?_
  refine mw_get (k := 2) (T := TX1) (v := rfv (xd (zX Z)) (x1 + 2)) C dX1_copy_48 (okX1_n _ hk_x1) (okX1_k _ hk_x1) (by decide) rfl inX1 (by decide) wd87 rfl (zfv_r rfl (okX1_g2 _ hk_x1)) ?_
  refine mw_iconst C dX1_copy_51 ?_
  refine mw_aload_n 0 C dX1_copy_52 rfl rfl ?_
  refine mw_get (k := 2) (T := TX1) (v := rfv (xd (zX Z)) (x0 + 2)) C dX1_copy_53 (okX1_n _ hk_x0) (okX1_k _ hk_x0) (by decide) rfl inX1 (by decide) wd87 rfl (zfv_r rfl (okX1_g2 _ hk_x0)) ?_
  refine mw_iconst C dX1_copy_56 ?_
  refine mw_bipush C dX1_copy_57 bp_6 ?_
  obtain ⟨h6, eh6, hF⟩ := nx_some hF
  refine mw_copyI C dX1_copy_59 wd492 wd323 wd15 wd324 (by decide) (Nat.le_of_ble_eq_true rfl) (okX1_f2 _ hk_x1).2.1 (okX1_f2 _ hk_x0).2.1 (okX1_f2 _ hk_x1).1 (okX1_f2 _ hk_x0).1 (okX1_f2 _ hk_x1).2.2 (okX1_f2 _ hk_x0).2.2 (by decide) (mw_h eh6 ?_)
  refine mw_aload_n 1 C dX1_copy_62 rfl rfl ?_
  refine mw_get (k := 3) (T := TX1) (v := rfv (xd (zX Z)) (x1 + 3)) C dX1_copy_63 (okX1_n _ hk_x1) (okX1_k _ hk_x1) (by decide) rfl inX1 (by decide) wd90 rfl (zfv_r rfl (okX1_g3 _ hk_x1)) ?_
  refine mw_iconst C dX1_copy_66 ?_
  refine mw_aload_n 0 C dX1_copy_67 rfl rfl ?_
  refine mw_get (k := 3) (T := TX1) (v := rfv (xd (zX Z)) (x0 + 3)) C dX1_copy_68 (okX1_n _ hk_x0) (okX1_k _ hk_x0) (by decide) rfl inX1 (by decide) wd90 rfl (zfv_r rfl (okX1_g3 _ hk_x0)) ?_
  refine mw_iconst C dX1_copy_71 ?_
  refine mw_bipush C dX1_copy_72 bp_6 ?_
  obtain ⟨h7, eh7, hF⟩ := nx_some hF
  refine mw_copyI C dX1_copy_74 wd492 wd323 wd15 wd324 (by decide) (Nat.le_of_ble_eq_true rfl) (okX1_f3 _ hk_x1).2.1 (okX1_f3 _ hk_x0).2.1 (okX1_f3 _ hk_x1).1 (okX1_f3 _ hk_x0).1 (okX1_f3 _ hk_x1).2.2 (okX1_f3 _ hk_x0).2.2 (by decide) (mw_h eh7 ?_)
  refine mw_aload_n 1 C dX1_copy_77 rfl rfl ?_
  refine mw_get (k := 4) (T := TX1) (v := rfv (xd (zX Z)) (x1 + 4)) C dX1_copy_78 (okX1_n _ hk_x1) (okX1_k _ hk_x1) (by decide) rfl inX1 (by decide) wd93 rfl (zfv_r rfl (okX1_g4 _ hk_x1)) ?_
  refine mw_iconst C dX1_copy_81 ?_
  refine mw_aload_n 0 C dX1_copy_82 rfl rfl ?_
  refine mw_get (k := 4) (T := TX1) (v := rfv (xd (zX Z)) (x0 + 4)) C dX1_copy_83 (okX1_n _ hk_x0) (okX1_k _ hk_x0) (by decide) rfl inX1 (by decide) wd93 rfl (zfv_r rfl (okX1_g4 _ hk_x0)) ?_
  refine mw_iconst C dX1_copy_86 ?_
  refine mw_bipush C dX1_copy_87 bp_6 ?_
  obtain ⟨h8, eh8, hF⟩ := nx_some hF
  refine mw_copyI C dX1_copy_89 wd492 wd323 wd15 wd324 (by decide) (Nat.le_of_ble_eq_true rfl) (okX1_f4 _ hk_x1).2.1 (okX1_f4 _ hk_x0).2.1 (okX1_f4 _ hk_x1).1 (okX1_f4 _ hk_x0).1 (okX1_f4 _ hk_x1).2.2 (okX1_f4 _ hk_x0).2.2 (by decide) (mw_h eh8 ?_)
  refine mw_aload_n 1 C dX1_copy_92 rfl rfl ?_
  refine mw_get (k := 8) (T := TX1) (v := rfv (xd (zX Z)) (x1 + 5)) C dX1_copy_93 (okX1_n _ hk_x1) (okX1_k _ hk_x1) (by decide) rfl inX1 (by decide) wd102 rfl (zfv_r rfl (okX1_g8 _ hk_x1)) ?_
  refine mw_iconst C dX1_copy_96 ?_
  refine mw_aload_n 0 C dX1_copy_97 rfl rfl ?_
  refine mw_get (k := 8) (T := TX1) (v := rfv (xd (zX Z)) (x0 + 5)) C dX1_copy_98 (okX1_n _ hk_x0) (okX1_k _ hk_x0) (by decide) rfl inX1 (by decide) wd102 rfl (zfv_r rfl (okX1_g8 _ hk_x0)) ?_
  refine mw_iconst C dX1_copy_101 ?_
  refine mw_bipush C dX1_copy_102 bp_6 ?_
  obtain ⟨h9, eh9, hF⟩ := nx_some hF
  refine mw_copyI C dX1_copy_104 wd492 wd323 wd15 wd324 (by decide) (Nat.le_of_ble_eq_true rfl) (okX1_f8 _ hk_x1).2.1 (okX1_f8 _ hk_x0).2.1 (okX1_f8 _ hk_x1).1 (okX1_f8 _ hk_x0).1 (okX1_f8 _ hk_x1).2.2 (okX1_f8 _ hk_x0).2.2 (by decide) (mw_h eh9 ?_)
  refine mw_aload_n 1 C dX1_copy_107 rfl rfl ?_
  refine mw_get (k := 9) (T := TX1) (v := rfv (xd (zX Z)) (x1 + 6)) C dX1_copy_108 (okX1_n _ hk_x1) (okX1_k _ hk_x1) (by decide) rfl inX1 (by decide) wd105 rfl (zfv_r rfl (okX1_g9 _ hk_x1)) ?_
  refine mw_iconst C dX1_copy_111 ?_
  refine mw_aload_n 0 C dX1_copy_112 rfl rfl ?_
  refine mw_get (k := 9) (T := TX1) (v := rfv (xd (zX Z)) (x0 + 6)) C dX1_copy_113 (okX1_n _ hk_x0) (okX1_k _ hk_x0) (by decide) rfl inX1 (by decide) wd105 rfl (zfv_r rfl (okX1_g9 _ hk_x0)) ?_
  refine mw_iconst C dX1_copy_116 ?_
  refine mw_bipush C dX1_copy_117 bp_6 ?_
  obtain ⟨h10, eh10, hF⟩ := nx_some hF
  refine mw_copyI C dX1_copy_119 wd492 wd323 wd15 wd324 (by decide) (Nat.le_of_ble_eq_true rfl) (okX1_f9 _ hk_x1).2.1 (okX1_f9 _ hk_x0).2.1 (okX1_f9 _ hk_x1).1 (okX1_f9 _ hk_x0).1 (okX1_f9 _ hk_x1).2.2 (okX1_f9 _ hk_x0).2.2 (by decide) (mw_h eh10 ?_)
  refine mw_aload_n 1 C dX1_copy_122 rfl rfl ?_
  refine mw_get (k := 10) (T := TX1) (v := rfv (xd (zX Z)) (x1 + 7)) C dX1_copy_123 (okX1_n _ hk_x1) (okX1_k _ hk_x1) (by decide) rfl inX1 (by decide) wd109 rfl (zfv_r rfl (okX1_g10 _ hk_x1)) ?_
  refine mw_iconst C dX1_copy_126 ?_
  refine mw_aload_n 0 C dX1_copy_127 rfl rfl ?_
  refine mw_get (k := 10) (T := TX1) (v := rfv (xd (zX Z)) (x0 + 7)) C dX1_copy_128 (okX1_n _ hk_x0) (okX1_k _ hk_x0) (by decide) rfl inX1 (by decide) wd109 rfl (zfv_r rfl (okX1_g10 _ hk_x0)) ?_
  refine mw_iconst C dX1_copy_131 ?_
  refine mw_bipush C dX1_copy_132 bp_6 ?_
  obtain ⟨h11, eh11, hF⟩ := nx_some hF
  refine mw_copyI C dX1_copy_134 wd492 wd323 wd15 wd324 (by decide) (Nat.le_of_ble_eq_true rfl) (okX1_f10 _ hk_x1).2.1 (okX1_f10 _ hk_x0).2.1 (okX1_f10 _ hk_x1).1 (okX1_f10 _ hk_x0).1 (okX1_f10 _ hk_x1).2.2 (okX1_f10 _ hk_x0).2.2 (by decide) (mw_h eh11 ?_)
  refine mw_aload_n 1 C dX1_copy_137 rfl rfl ?_
  refine mw_get (k := 11) (T := TX1) (v := rfv (xd (zX Z)) (x1 + 8)) C dX1_copy_138 (okX1_n _ hk_x1) (okX1_k _ hk_x1) (by decide) rfl inX1 (by decide) wd111 rfl (zfv_r rfl (okX1_g11 _ hk_x1)) ?_
  refine mw_iconst C dX1_copy_141 ?_
  refine mw_aload_n 0 C dX1_copy_142 rfl rfl ?_
  refine mw_get (k := 11) (T := TX1) (v := rfv (xd (zX Z)) (x0 + 8)) C dX1_copy_143 (okX1_n _ hk_x0) (okX1_k _ hk_x0) (by decide) rfl inX1 (by decide) wd111 rfl (zfv_r rfl (okX1_g11 _ hk_x0)) ?_
  refine mw_iconst C dX1_copy_146 ?_
  refine mw_bipush C dX1_copy_147 bp_6 ?_
  obtain ⟨h12, eh12, hF⟩ := nx_some hF
  refine mw_copyI C dX1_copy_149 wd492 wd323 wd15 wd324 (by decide) (Nat.le_of_ble_eq_true rfl) (okX1_f11 _ hk_x1).2.1 (okX1_f11 _ hk_x0).2.1 (okX1_f11 _ hk_x1).1 (okX1_f11 _ hk_x0).1 (okX1_f11 _ hk_x1).2.2 (okX1_f11 _ hk_x0).2.2 (by decide) (mw_h eh12 ?_)
  refine mw_aload_n 1 C dX1_copy_152 rfl rfl ?_
  refine mw_get (k := 12) (T := TX1) (v := rfv (xd (zX Z)) (x1 + 9)) C dX1_copy_153 (okX1_n _ hk_x1) (okX1_k _ hk_x1) (by decide) rfl inX1 (by decide) wd113 rfl (zfv_r rfl (okX1_g12 _ hk_x1)) ?_
  refine mw_iconst C dX1_copy_156 ?_
  refine mw_aload_n 0 C dX1_copy_157 rfl rfl ?_
  refine mw_get (k := 12) (T := TX1) (v := rfv (xd (zX Z)) (x0 + 9)) C dX1_copy_158 (okX1_n _ hk_x0) (okX1_k _ hk_x0) (by decide) rfl inX1 (by decide) wd113 rfl (zfv_r rfl (okX1_g12 _ hk_x0)) ?_
  refine mw_iconst C dX1_copy_161 ?_
  refine mw_bipush C dX1_copy_162 bp_24 ?_
  obtain ⟨h13, eh13, hF⟩ := nx_some hF
  refine mw_copyI C dX1_copy_164 wd492 wd323 wd15 wd324 (by decide) (Nat.le_of_ble_eq_true rfl) (okX1_f12 _ hk_x1).2.1 (okX1_f12 _ hk_x0).2.1 (okX1_f12 _ hk_x1).1 (okX1_f12 _ hk_x0).1 (okX1_f12 _ hk_x1).2.2 (okX1_f12 _ hk_x0).2.2 (by decide) (mw_h eh13 ?_)
  refine mw_aload_n 1 C dX1_copy_167 rfl rfl ?_
  refine mw_get (k := 13) (T := TX1) (v := rfv (xd (zX Z)) (x1 + 10)) C dX1_copy_168 (okX1_n _ hk_x1) (okX1_k _ hk_x1) (by decide) rfl inX1 (by decide) wd115 rfl (zfv_r rfl (okX1_g13 _ hk_x1)) ?_
  refine mw_iconst C dX1_copy_171 ?_
  refine mw_aload_n 0 C dX1_copy_172 rfl rfl ?_
  refine mw_get (k := 13) (T := TX1) (v := rfv (xd (zX Z)) (x0 + 10)) C dX1_copy_173 (okX1_n _ hk_x0) (okX1_k _ hk_x0) (by decide) rfl inX1 (by decide) wd115 rfl (zfv_r rfl (okX1_g13 _ hk_x0)) ?_
  refine mw_iconst C dX1_copy_176 ?_
  refine mw_bipush C dX1_copy_177 bp_36 ?_
  obtain ⟨h14, eh14, hF⟩ := nx_some hF
  refine mw_copyI C dX1_copy_179 wd492 wd323 wd15 wd324 (by decide) (Nat.le_of_ble_eq_true rfl) (okX1_f13 _ hk_x1).2.1 (okX1_f13 _ hk_x0).2.1 (okX1_f13 _ hk_x1).1 (okX1_f13 _ hk_x0).1 (okX1_f13 _ hk_x1).2.2 (okX1_f13 _ hk_x0).2.2 (by decide) (mw_h eh14 ?_)
  cases hF
  exact mw_vret C dX1_copy_182 rfl rfl
def F_X1_copy (x0 : Nat) (x1 : Nat) (h : MH) : Option MH := F_X1_copy_0 x0 x1 h
theorem T_X1_copy (l : Launch) (X : XT) (x0 : Nat) (x1 : Nat) (hk_x0 : okX1 x0) (hk_x1 : okX1 x1) (h : MH) (t : MH) (hF : F_X1_copy x0 x1 h = some t) : Ct l X yX1_copy cX1_copy 2 none 1 [rfv (xd X) x0, rfv (xd X) x1] zN zG h none zN zG t 0 0 := by
  refine Ct.head (by decide) (Nat.le_of_ble_eq_true rfl) (fun Z hX hl _ _ _ C => ?_)
  subst hX
  subst hl
  exact (T_X1_copy_0 C x0 x1 hk_x0 hk_x1 _ _ hF)
/-! BottleLine$Floor.tables()I -/
def F_X1_tables_0 (x0 : Nat) (h : MH) : Option (Int × MH) :=
  ck (in32 ((h x0 0) - 1)) <|
  some ((max 0 ((h x0 0) - 1)), h)
set_option maxRecDepth 100000 in
theorem T_X1_tables_0 {Z : ZT} (C : Cx Z cX1_tables 1 RX1 1 (some .int)) (x0 : Nat) (hk_x0 : okX1 x0) (h : MH) (t : (Int × MH)) (hF : F_X1_tables_0 x0 h = some t) : MW Z (Qm Z (some (iv t.1)) zN zG t.2 0 0) 1 zN zG h 0 0 0 [(0, rfv (xd (zX Z)) x0)] [] := by
  unfold F_X1_tables_0 at hF
  refine mw_iconst C dX1_tables_0 ?_
  refine mw_aload_n 0 C dX1_tables_1 rfl rfl ?_
  refine mw_get (k := 0) (T := TX1) (v := iv (h x0 0)) C dX1_tables_2 (okX1_n _ hk_x0) (okX1_k _ hk_x0) (by decide) rfl inX1 (by decide) wd76 rfl rfl ?_
  refine mw_iconst C dX1_tables_5 ?_
  refine mw_isub C dX1_tables_6 ?_
  obtain ⟨g1, hF⟩ := ck_some hF
  refine mw_mmax C dX1_tables_7 wd570 wd571 wd16 wd572 (by decide) (Nat.le_of_ble_eq_true rfl) ⟨Nat.zero_le _, Nat.zero_le _⟩ (by decide) g1 ?_
  cases hF
  exact mw_iret C dX1_tables_10 rfl rfl
def F_X1_tables (x0 : Nat) (h : MH) : Option (Int × MH) := F_X1_tables_0 x0 h
theorem T_X1_tables (l : Launch) (X : XT) (x0 : Nat) (hk_x0 : okX1 x0) (h : MH) (t : (Int × MH)) (hF : F_X1_tables x0 h = some t) : Ct l X yX1_tables cX1_tables 1 (some .int) 1 [rfv (xd X) x0] zN zG h (some (iv t.1)) zN zG t.2 0 0 := by
  refine Ct.head (by decide) (Nat.le_of_ble_eq_true rfl) (fun Z hX hl _ _ _ C => ?_)
  subst hX
  subst hl
  exact (T_X1_tables_0 C x0 hk_x0 _ _ hF)
/-! BottleLine$Floor.wouldMake(I)I -/
def F_X1_wouldMake_7 : Nat → Nat → Int → Int → Int → MH → Option (Int × MH)
  | 0, _, _, _, _, _ => none
  | n + 1, x0, x1, x2, x3, h =>
    ck (in32 x3) <|
    ck (in32 x1) <|
    if x1 ≤ x3 then
      (F_X1_made x0 h).bind fun q4 =>
      some ((q4.1 - x2), q4.2)
    else
      (F_X1_goOn x0 h).bind fun q5 =>
      F_X1_wouldMake_7 n x0 x1 x2 (x3 + 1) q5
set_option maxRecDepth 100000 in
theorem T_X1_wouldMake_7 {Z : ZT} (C : Cx Z cX1_wouldMake 4 RX1 4 (some .int)) : ∀ (n : Nat) (x0 : Nat) (x1 : Int) (x2 : Int) (x3 : Int) (hk_x0 : okX1 x0) (h : MH) (t : (Int × MH)), F_X1_wouldMake_7 n x0 x1 x2 x3 h = some t → MW Z (Qm Z (some (iv t.1)) zN zG t.2 0 0) 4 zN zG h 0 0 7 [(0, rfv (xd (zX Z)) x0), (1, iv x1), (2, iv x2), (3, iv x3)] [] := by
  intro n
  induction n with
  | zero =>
    intros
    rename_i hF
    exact absurd hF (by intro q; cases q)
  | succ n ih =>
    intro x0 x1 x2 x3 hk_x0 h t hF
    rw [F_X1_wouldMake_7] at hF
    refine mw_iload_n 3 C dX1_wouldMake_7 rfl rfl ?_
    refine mw_iload_n 1 C dX1_wouldMake_8 rfl rfl ?_
    obtain ⟨g1, hF⟩ := ck_some hF
    obtain ⟨g2, hF⟩ := ck_some hF
    rcases ite_some hF with ⟨c3, hF⟩ | ⟨c3, hF⟩
    · refine mw_icmp_ge_t (tgt := 22) C dX1_wouldMake_9 (by decide) g1 g2 c3 ?_
      refine mw_aload_n 0 C dX1_wouldMake_22 rfl rfl ?_
      obtain ⟨q4, hq4, hF⟩ := bind_some hF
      refine mw_callV (c := x0) [] [] C dX1_wouldMake_23 (T_X1_made (zl Z) (zX Z) x0 hk_x0 _ _ hq4) rfl (okX1_n _ hk_x0) (okX1_k _ hk_x0) (by decide) rfl wd600 wd552 wd553 wd5 wd554 hd_X1_made rfl (by decide) (by decide) (Nat.le_of_ble_eq_true rfl) ⟨Nat.zero_le _, Nat.zero_le _⟩ ?_
      refine mw_iload_n 2 C dX1_wouldMake_26 rfl rfl ?_
      refine mw_isub C dX1_wouldMake_27 ?_
      cases hF
      exact mw_iret C dX1_wouldMake_28 rfl rfl
    · refine mw_icmp_ge_f (tgt := 22) C dX1_wouldMake_9 (by decide) g1 g2 c3 ?_
      refine mw_aload_n 0 C dX1_wouldMake_12 rfl rfl ?_
      obtain ⟨q5, hq5, hF⟩ := bind_some hF
      refine mw_callV (c := x0) [] [] C dX1_wouldMake_13 (T_X1_goOn (zl Z) (zX Z) x0 hk_x0 _ _ hq5) rfl (okX1_n _ hk_x0) (okX1_k _ hk_x0) (by decide) rfl wd601 wd602 wd603 wd5 wd604 hd_X1_goOn rfl (by decide) (by decide) (Nat.le_of_ble_eq_true rfl) ⟨Nat.zero_le _, Nat.zero_le _⟩ ?_
      refine mw_iinc 3 [(3, iv (x3 + 1)), (0, rfv (xd (zX Z)) x0), (1, iv x1), (2, iv x2)] C dX1_wouldMake_16 rfl (by decide) rfl ?_
      refine mw_goto (tgt := 7) C dX1_wouldMake_19 (by decide) ?_
      refine mw_sub [1, 2, 3, 0] rfl ?_
      exact ih x0 x1 x2 (x3 + 1) hk_x0 _ _ hF
def F_X1_wouldMake_0 (x0 : Nat) (x1 : Int) (h : MH) : Option (Int × MH) :=
  (F_X1_made x0 h).bind fun q1 =>
  F_X1_wouldMake_7 20000 x0 x1 q1.1 0 q1.2
set_option maxRecDepth 100000 in
theorem T_X1_wouldMake_0 {Z : ZT} (C : Cx Z cX1_wouldMake 4 RX1 4 (some .int)) (x0 : Nat) (x1 : Int) (hk_x0 : okX1 x0) (h : MH) (t : (Int × MH)) (hF : F_X1_wouldMake_0 x0 x1 h = some t) : MW Z (Qm Z (some (iv t.1)) zN zG t.2 0 0) 4 zN zG h 0 0 0 [(0, rfv (xd (zX Z)) x0), (1, iv x1)] [] := by
  unfold F_X1_wouldMake_0 at hF
  refine mw_aload_n 0 C dX1_wouldMake_0 rfl rfl ?_
  obtain ⟨q1, hq1, hF⟩ := bind_some hF
  refine mw_callV (c := x0) [] [] C dX1_wouldMake_1 (T_X1_made (zl Z) (zX Z) x0 hk_x0 _ _ hq1) rfl (okX1_n _ hk_x0) (okX1_k _ hk_x0) (by decide) rfl wd600 wd552 wd553 wd5 wd554 hd_X1_made rfl (by decide) (by decide) (Nat.le_of_ble_eq_true rfl) ⟨Nat.zero_le _, Nat.zero_le _⟩ ?_
  refine mw_istore_n [(2, iv q1.1), (0, rfv (xd (zX Z)) x0), (1, iv x1)] C dX1_wouldMake_4 rfl (by decide) rfl ?_
  refine mw_iconst C dX1_wouldMake_5 ?_
  refine mw_istore_n [(3, iv 0), (2, iv q1.1), (0, rfv (xd (zX Z)) x0), (1, iv x1)] C dX1_wouldMake_6 rfl (by decide) rfl ?_
  refine mw_sub [2, 3, 1, 0] rfl ?_
  exact T_X1_wouldMake_7 C 20000 x0 x1 q1.1 0 hk_x0 _ _ hF
def F_X1_wouldMake (x0 : Nat) (x1 : Int) (h : MH) : Option (Int × MH) := F_X1_wouldMake_0 x0 x1 h
theorem T_X1_wouldMake (l : Launch) (X : XT) (x0 : Nat) (x1 : Int) (hk_x0 : okX1 x0) (h : MH) (t : (Int × MH)) (hF : F_X1_wouldMake x0 x1 h = some t) : Ct l X yX1_wouldMake cX1_wouldMake 4 (some .int) 4 [rfv (xd X) x0, iv x1] zN zG h (some (iv t.1)) zN zG t.2 0 0 := by
  refine Ct.head (by decide) (Nat.le_of_ble_eq_true rfl) (fun Z hX hl _ _ _ C => ?_)
  subst hX
  subst hl
  exact (T_X1_wouldMake_0 C x0 x1 hk_x0 _ _ hF)
/-! java/lang/Long.bitCount(J)I -/
def F_J13_bitCount_95d88_0 (x0 : Int) (h : MH) : Option (Int × MH) :=
  nx (x0 - (land64 (ushr64 x0 1) 6148914691236517205)) fun v1 =>
  nx ((land64 v1 3689348814741910323) + (land64 (ushr64 v1 2) 3689348814741910323)) fun v2 =>
  nx (land64 (v2 + (ushr64 v2 4)) 1085102592571150095) fun v3 =>
  nx (v3 + (ushr64 v3 8)) fun v4 =>
  nx (v4 + (ushr64 v4 16)) fun v5 =>
  nx (v5 + (ushr64 v5 32)) fun v6 =>
  some ((land32 v6 127), h)
set_option maxRecDepth 100000 in
theorem T_J13_bitCount_95d88_0 {Z : ZT} (C : Cx Z cJ13_bitCount_95d88 2 RJ13 1 (some .int)) (x0 : Int) (h : MH) (t : (Int × MH)) (hF : F_J13_bitCount_95d88_0 x0 h = some t) : MW Z (Qm Z (some (iv t.1)) zN zG t.2 0 0) 2 zN zG h 0 0 0 [(0, lvv x0)] [] := by
  unfold F_J13_bitCount_95d88_0 at hF
  refine mw_lload_n 0 C dJ13_bitCount_95d88_0 rfl rfl ?_
  refine mw_lload_n 0 C dJ13_bitCount_95d88_1 rfl rfl ?_
  refine mw_iconst C dJ13_bitCount_95d88_2 ?_
  refine mw_lushr C dJ13_bitCount_95d88_3 ?_
  refine mw_ldc2 (a := 6148914691236517205) C dJ13_bitCount_95d88_4 wd770 rfl ?_
  refine mw_land C dJ13_bitCount_95d88_7 ?_
  refine mw_lsub C dJ13_bitCount_95d88_8 ?_
  obtain ⟨v1, ev1, hF⟩ := nx_some hF
  refine mw_tl ev1 ?_
  refine mw_lstore_n [(0, lvv v1)] C dJ13_bitCount_95d88_9 rfl (by decide) rfl ?_
  refine mw_lload_n 0 C dJ13_bitCount_95d88_10 rfl rfl ?_
  refine mw_ldc2 (a := 3689348814741910323) C dJ13_bitCount_95d88_11 wd771 rfl ?_
  refine mw_land C dJ13_bitCount_95d88_14 ?_
  refine mw_lload_n 0 C dJ13_bitCount_95d88_15 rfl rfl ?_
  refine mw_iconst C dJ13_bitCount_95d88_16 ?_
  refine mw_lushr C dJ13_bitCount_95d88_17 ?_
  refine mw_ldc2 (a := 3689348814741910323) C dJ13_bitCount_95d88_18 wd771 rfl ?_
  refine mw_land C dJ13_bitCount_95d88_21 ?_
  refine mw_ladd C dJ13_bitCount_95d88_22 ?_
  obtain ⟨v2, ev2, hF⟩ := nx_some hF
  refine mw_tl ev2 ?_
  refine mw_lstore_n [(0, lvv v2)] C dJ13_bitCount_95d88_23 rfl (by decide) rfl ?_
  refine mw_lload_n 0 C dJ13_bitCount_95d88_24 rfl rfl ?_
  refine mw_lload_n 0 C dJ13_bitCount_95d88_25 rfl rfl ?_
  refine mw_iconst C dJ13_bitCount_95d88_26 ?_
  refine mw_lushr C dJ13_bitCount_95d88_27 ?_
  refine mw_ladd C dJ13_bitCount_95d88_28 ?_
  refine mw_ldc2 (a := 1085102592571150095) C dJ13_bitCount_95d88_29 wd772 rfl ?_
  refine mw_land C dJ13_bitCount_95d88_32 ?_
  obtain ⟨v3, ev3, hF⟩ := nx_some hF
  refine mw_tl ev3 ?_
  refine mw_lstore_n [(0, lvv v3)] C dJ13_bitCount_95d88_33 rfl (by decide) rfl ?_
  refine mw_lload_n 0 C dJ13_bitCount_95d88_34 rfl rfl ?_
  refine mw_lload_n 0 C dJ13_bitCount_95d88_35 rfl rfl ?_
  refine mw_bipush C dJ13_bitCount_95d88_36 bp_8 ?_
  refine mw_lushr C dJ13_bitCount_95d88_38 ?_
  refine mw_ladd C dJ13_bitCount_95d88_39 ?_
  obtain ⟨v4, ev4, hF⟩ := nx_some hF
  refine mw_tl ev4 ?_
  refine mw_lstore_n [(0, lvv v4)] C dJ13_bitCount_95d88_40 rfl (by decide) rfl ?_
  refine mw_lload_n 0 C dJ13_bitCount_95d88_41 rfl rfl ?_
  refine mw_lload_n 0 C dJ13_bitCount_95d88_42 rfl rfl ?_
  refine mw_bipush C dJ13_bitCount_95d88_43 bp_16 ?_
  refine mw_lushr C dJ13_bitCount_95d88_45 ?_
  refine mw_ladd C dJ13_bitCount_95d88_46 ?_
  obtain ⟨v5, ev5, hF⟩ := nx_some hF
  refine mw_tl ev5 ?_
  refine mw_lstore_n [(0, lvv v5)] C dJ13_bitCount_95d88_47 rfl (by decide) rfl ?_
  refine mw_lload_n 0 C dJ13_bitCount_95d88_48 rfl rfl ?_
  refine mw_lload_n 0 C dJ13_bitCount_95d88_49 rfl rfl ?_
  refine mw_bipush C dJ13_bitCount_95d88_50 bp_32 ?_
  refine mw_lushr C dJ13_bitCount_95d88_52 ?_
  refine mw_ladd C dJ13_bitCount_95d88_53 ?_
  obtain ⟨v6, ev6, hF⟩ := nx_some hF
  refine mw_tl ev6 ?_
  refine mw_lstore_n [(0, lvv v6)] C dJ13_bitCount_95d88_54 rfl (by decide) rfl ?_
  refine mw_lload_n 0 C dJ13_bitCount_95d88_55 rfl rfl ?_
  refine mw_l2i C dJ13_bitCount_95d88_56 ?_
  refine mw_bipush C dJ13_bitCount_95d88_57 bp_127 ?_
  refine mw_iand C dJ13_bitCount_95d88_59 ?_
  cases hF
  exact mw_iret C dJ13_bitCount_95d88_60 rfl rfl
def F_J13_bitCount_95d88 (x0 : Int) (h : MH) : Option (Int × MH) := F_J13_bitCount_95d88_0 x0 h
theorem T_J13_bitCount_95d88 (l : Launch) (X : XT) (x0 : Int) (h : MH) (t : (Int × MH)) (hF : F_J13_bitCount_95d88 x0 h = some t) : Ct l X yJ13_bitCount_95d88 cJ13_bitCount_95d88 2 (some .int) 1 [lvv x0] zN zG h (some (iv t.1)) zN zG t.2 0 0 := by
  refine Ct.head (by decide) (Nat.le_of_ble_eq_true rfl) (fun Z hX hl _ _ _ C => ?_)
  subst hX
  subst hl
  exact (T_J13_bitCount_95d88_0 C x0 _ _ hF)
/-! java/util/Arrays.fill([JJ)V -/
def F_J7_fill_d0a16_6 : Nat → Nat → Nat → Int → Int → Int → MH → Option MH
  | 0, _, _, _, _, _, _ => none
  | n + 1, x0, len_x0, x1, x3, x4, h =>
    ck (in32 x3) <|
    ck (in32 x4) <|
    if x4 ≤ x3 then
      some h
    else
      ck (0 ≤ x3 ∧ x3 < (len_x0 : Int)) <|
      nx (hup h x0 x3.toNat x1) fun h5 =>
      F_J7_fill_d0a16_6 n x0 len_x0 x1 (x3 + 1) x4 h5
set_option maxRecDepth 100000 in
theorem T_J7_fill_d0a16_6 {Z : ZT} (C : Cx Z cJ7_fill_d0a16 5 RJ7 1 none) : ∀ (n : Nat) (x0 : Nat) (len_x0 : Nat) (x1 : Int) (x3 : Int) (x4 : Int) (hk_x0 : zK x0 = (22, len_x0) ∧ x0 < zN ∧ len_x0 < 2147483648) (h : MH) (t : MH), F_J7_fill_d0a16_6 n x0 len_x0 x1 x3 x4 h = some t → MW Z (Qm Z none zN zG t 0 0) 5 zN zG h 0 0 6 [(0, rfv (xd (zX Z)) x0), (1, lvv x1), (3, iv x3), (4, iv x4)] [] := by
  intro n
  induction n with
  | zero =>
    intros
    rename_i hF
    exact absurd hF (by intro q; cases q)
  | succ n ih =>
    intro x0 len_x0 x1 x3 x4 hk_x0 h t hF
    rw [F_J7_fill_d0a16_6] at hF
    refine mw_iload_n 2 C dJ7_fill_d0a16_6 rfl rfl ?_
    refine mw_iload 3 C dJ7_fill_d0a16_7 rfl ?_
    obtain ⟨g1, hF⟩ := ck_some hF
    obtain ⟨g2, hF⟩ := ck_some hF
    rcases ite_some hF with ⟨c3, hF⟩ | ⟨c3, hF⟩
    · refine mw_icmp_ge_t (tgt := 22) C dJ7_fill_d0a16_9 (by decide) g1 g2 c3 ?_
      cases hF
      exact mw_vret C dJ7_fill_d0a16_22 rfl rfl
    · refine mw_icmp_ge_f (tgt := 22) C dJ7_fill_d0a16_9 (by decide) g1 g2 c3 ?_
      refine mw_aload_n 0 C dJ7_fill_d0a16_12 rfl rfl ?_
      refine mw_iload_n 2 C dJ7_fill_d0a16_13 rfl rfl ?_
      refine mw_lload_n 1 C dJ7_fill_d0a16_14 rfl rfl ?_
      obtain ⟨g4, hF⟩ := ck_some hF
      obtain ⟨h5, eh5, hF⟩ := nx_some hF
      refine mw_last C dJ7_fill_d0a16_15 hk_x0.2.1 hk_x0.1 hk_x0.2.2 g4 (mw_h eh5 ?_)
      refine mw_iinc 2 [(3, iv (x3 + 1)), (0, rfv (xd (zX Z)) x0), (1, lvv x1), (4, iv x4)] C dJ7_fill_d0a16_16 rfl (by decide) rfl ?_
      refine mw_goto (tgt := 6) C dJ7_fill_d0a16_19 (by decide) ?_
      refine mw_sub [1, 2, 0, 3] rfl ?_
      exact ih x0 len_x0 x1 (x3 + 1) x4 hk_x0 _ _ hF
def F_J7_fill_d0a16_0 (x0 : Nat) (len_x0 : Nat) (x1 : Int) (h : MH) : Option MH :=
  nx (len_x0 : Int) fun v1 =>
  F_J7_fill_d0a16_6 20000 x0 len_x0 x1 0 v1 h
set_option maxRecDepth 100000 in
theorem T_J7_fill_d0a16_0 {Z : ZT} (C : Cx Z cJ7_fill_d0a16 5 RJ7 1 none) (x0 : Nat) (len_x0 : Nat) (x1 : Int) (hk_x0 : zK x0 = (22, len_x0) ∧ x0 < zN ∧ len_x0 < 2147483648) (h : MH) (t : MH) (hF : F_J7_fill_d0a16_0 x0 len_x0 x1 h = some t) : MW Z (Qm Z none zN zG t 0 0) 5 zN zG h 0 0 0 [(0, rfv (xd (zX Z)) x0), (1, lvv x1)] [] := by
  unfold F_J7_fill_d0a16_0 at hF
  refine mw_iconst C dJ7_fill_d0a16_0 ?_
  refine mw_istore_n [(3, iv 0), (0, rfv (xd (zX Z)) x0), (1, lvv x1)] C dJ7_fill_d0a16_1 rfl (by decide) rfl ?_
  refine mw_aload_n 1 C dJ7_fill_d0a16_2 rfl rfl ?_
  refine mw_alenL C dJ7_fill_d0a16_3 hk_x0.2.1 hk_x0.1 ?_
  obtain ⟨v1, ev1, hF⟩ := nx_some hF
  refine mw_ti ev1 ?_
  refine mw_istore [(4, iv v1), (3, iv 0), (0, rfv (xd (zX Z)) x0), (1, lvv x1)] C dJ7_fill_d0a16_4 (by decide) rfl ?_
  refine mw_sub [2, 3, 1, 0] rfl ?_
  exact T_J7_fill_d0a16_6 C 20000 x0 len_x0 x1 0 v1 hk_x0 _ _ hF
def F_J7_fill_d0a16 (x0 : Nat) (len_x0 : Nat) (x1 : Int) (h : MH) : Option MH := F_J7_fill_d0a16_0 x0 len_x0 x1 h
theorem T_J7_fill_d0a16 (l : Launch) (X : XT) (x0 : Nat) (len_x0 : Nat) (x1 : Int) (hk_x0 : zK x0 = (22, len_x0) ∧ x0 < zN ∧ len_x0 < 2147483648) (h : MH) (t : MH) (hF : F_J7_fill_d0a16 x0 len_x0 x1 h = some t) : Ct l X yJ7_fill_d0a16 cJ7_fill_d0a16 5 none 1 [rfv (xd X) x0, lvv x1] zN zG h none zN zG t 0 0 := by
  refine Ct.head (by decide) (Nat.le_of_ble_eq_true rfl) (fun Z hX hl _ _ _ C => ?_)
  subst hX
  subst hl
  exact (T_J7_fill_d0a16_0 C x0 len_x0 x1 hk_x0 _ _ hF)
/-! BottleLine$Script.copy(LBottleLine$Script;)V -/
def F_X6_copy_0 (x0 : Nat) (x1 : Nat) (h : MH) : Option MH :=
  nx (hup h x0 0 (h x1 0)) fun h1 =>
  nx (hcp h1 (x1 + 1) 0 (x0 + 1) 0 30) fun h2 =>
  nx (hcp h2 (x1 + 2) 0 (x0 + 2) 0 30) fun h3 =>
  nx (hcp h3 (x1 + 3) 0 (x0 + 3) 0 30) fun h4 =>
  nx (hcp h4 (x1 + 4) 0 (x0 + 4) 0 30) fun h5 =>
  some h5
set_option maxRecDepth 100000 in
theorem T_X6_copy_0 {Z : ZT} (C : Cx Z cX6_copy 2 RX6 1 none) (x0 : Nat) (x1 : Nat) (hk_x0 : okX6 x0) (hk_x1 : okX6 x1) (h : MH) (t : MH) (hF : F_X6_copy_0 x0 x1 h = some t) : MW Z (Qm Z none zN zG t 0 0) 2 zN zG h 0 0 0 [(0, rfv (xd (zX Z)) x0), (1, rfv (xd (zX Z)) x1)] [] := by
  unfold F_X6_copy_0 at hF
  refine mw_aload_n 0 C dX6_copy_0 rfl rfl ?_
  refine mw_aload_n 1 C dX6_copy_1 rfl rfl ?_
  refine mw_get (k := 0) (T := TX6) (v := iv (h x1 0)) C dX6_copy_2 (okX6_n _ hk_x1) (okX6_k _ hk_x1) (by decide) rfl inX6 (by decide) wd152 rfl rfl ?_
  obtain ⟨h1, eh1, hF⟩ := nx_some hF
  refine mw_put (k := 0) (T := TX6) (ty0 := tyX6) (x := (h x1 0)) C dX6_copy_5 (okX6_n _ hk_x0) (okX6_k _ hk_x0) (by decide) rfl inX6 tyX6_ok nmX6 (by decide) wd152 rfl rfl rfl rfl rfl (by decide) (mw_h eh1 ?_)
  refine mw_aload_n 1 C dX6_copy_8 rfl rfl ?_
  refine mw_get (k := 1) (T := TX6) (v := rfv (xd (zX Z)) (x1 + 1)) C dX6_copy_9 (okX6_n _ hk_x1) (okX6_k _ hk_x1) (by decide) rfl inX6 (by decide) wd156 rfl (zfv_r rfl (okX6_g1 _ hk_x1)) ?_
  refine mw_iconst C dX6_copy_12 ?_
  refine mw_aload_n 0 C dX6_copy_13 rfl rfl ?_
  refine mw_get (k := 1) (T := TX6) (v := rfv (xd (zX Z)) (x0 + 1)) C dX6_copy_14 (okX6_n _ hk_x0) (okX6_k _ hk_x0) (by decide) rfl inX6 (by decide) wd156 rfl (zfv_r rfl (okX6_g1 _ hk_x0)) ?_
  refine mw_iconst C dX6_copy_17 ?_
  refine mw_bipush C dX6_copy_18 bp_30 ?_
  obtain ⟨h2, eh2, hF⟩ := nx_some hF
  refine mw_copyI C dX6_copy_20 wd542 wd323 wd15 wd324 (by decide) (Nat.le_of_ble_eq_true rfl) (okX6_f1 _ hk_x1).2.1 (okX6_f1 _ hk_x0).2.1 (okX6_f1 _ hk_x1).1 (okX6_f1 _ hk_x0).1 (okX6_f1 _ hk_x1).2.2 (okX6_f1 _ hk_x0).2.2 (by decide) (mw_h eh2 ?_)
  refine mw_aload_n 1 C dX6_copy_23 rfl rfl ?_
  refine mw_get (k := 2) (T := TX6) (v := rfv (xd (zX Z)) (x1 + 2)) C dX6_copy_24 (okX6_n _ hk_x1) (okX6_k _ hk_x1) (by decide) rfl inX6 (by decide) wd159 rfl (zfv_r rfl (okX6_g2 _ hk_x1)) ?_
  refine mw_iconst C dX6_copy_27 ?_
  refine mw_aload_n 0 C dX6_copy_28 rfl rfl ?_
  refine mw_get (k := 2) (T := TX6) (v := rfv (xd (zX Z)) (x0 + 2)) C dX6_copy_29 (okX6_n _ hk_x0) (okX6_k _ hk_x0) (by decide) rfl inX6 (by decide) wd159 rfl (zfv_r rfl (okX6_g2 _ hk_x0)) ?_
  refine mw_iconst C dX6_copy_32 ?_
  refine mw_bipush C dX6_copy_33 bp_30 ?_
  obtain ⟨h3, eh3, hF⟩ := nx_some hF
  refine mw_copyL C dX6_copy_35 wd542 wd323 wd15 wd324 (by decide) (Nat.le_of_ble_eq_true rfl) (okX6_f2 _ hk_x1).2.1 (okX6_f2 _ hk_x0).2.1 (okX6_f2 _ hk_x1).1 (okX6_f2 _ hk_x0).1 (okX6_f2 _ hk_x1).2.2 (okX6_f2 _ hk_x0).2.2 (by decide) (mw_h eh3 ?_)
  refine mw_aload_n 1 C dX6_copy_38 rfl rfl ?_
  refine mw_get (k := 3) (T := TX6) (v := rfv (xd (zX Z)) (x1 + 3)) C dX6_copy_39 (okX6_n _ hk_x1) (okX6_k _ hk_x1) (by decide) rfl inX6 (by decide) wd162 rfl (zfv_r rfl (okX6_g3 _ hk_x1)) ?_
  refine mw_iconst C dX6_copy_42 ?_
  refine mw_aload_n 0 C dX6_copy_43 rfl rfl ?_
  refine mw_get (k := 3) (T := TX6) (v := rfv (xd (zX Z)) (x0 + 3)) C dX6_copy_44 (okX6_n _ hk_x0) (okX6_k _ hk_x0) (by decide) rfl inX6 (by decide) wd162 rfl (zfv_r rfl (okX6_g3 _ hk_x0)) ?_
  refine mw_iconst C dX6_copy_47 ?_
  refine mw_bipush C dX6_copy_48 bp_30 ?_
  obtain ⟨h4, eh4, hF⟩ := nx_some hF
  refine mw_copyI C dX6_copy_50 wd542 wd323 wd15 wd324 (by decide) (Nat.le_of_ble_eq_true rfl) (okX6_f3 _ hk_x1).2.1 (okX6_f3 _ hk_x0).2.1 (okX6_f3 _ hk_x1).1 (okX6_f3 _ hk_x0).1 (okX6_f3 _ hk_x1).2.2 (okX6_f3 _ hk_x0).2.2 (by decide) (mw_h eh4 ?_)
  refine mw_aload_n 1 C dX6_copy_53 rfl rfl ?_
  refine mw_get (k := 4) (T := TX6) (v := rfv (xd (zX Z)) (x1 + 4)) C dX6_copy_54 (okX6_n _ hk_x1) (okX6_k _ hk_x1) (by decide) rfl inX6 (by decide) wd165 rfl (zfv_r rfl (okX6_g4 _ hk_x1)) ?_
  refine mw_iconst C dX6_copy_57 ?_
  refine mw_aload_n 0 C dX6_copy_58 rfl rfl ?_
  refine mw_get (k := 4) (T := TX6) (v := rfv (xd (zX Z)) (x0 + 4)) C dX6_copy_59 (okX6_n _ hk_x0) (okX6_k _ hk_x0) (by decide) rfl inX6 (by decide) wd165 rfl (zfv_r rfl (okX6_g4 _ hk_x0)) ?_
  refine mw_iconst C dX6_copy_62 ?_
  refine mw_bipush C dX6_copy_63 bp_30 ?_
  obtain ⟨h5, eh5, hF⟩ := nx_some hF
  refine mw_copyI C dX6_copy_65 wd542 wd323 wd15 wd324 (by decide) (Nat.le_of_ble_eq_true rfl) (okX6_f4 _ hk_x1).2.1 (okX6_f4 _ hk_x0).2.1 (okX6_f4 _ hk_x1).1 (okX6_f4 _ hk_x0).1 (okX6_f4 _ hk_x1).2.2 (okX6_f4 _ hk_x0).2.2 (by decide) (mw_h eh5 ?_)
  cases hF
  exact mw_vret C dX6_copy_68 rfl rfl
def F_X6_copy (x0 : Nat) (x1 : Nat) (h : MH) : Option MH := F_X6_copy_0 x0 x1 h
theorem T_X6_copy (l : Launch) (X : XT) (x0 : Nat) (x1 : Nat) (hk_x0 : okX6 x0) (hk_x1 : okX6 x1) (h : MH) (t : MH) (hF : F_X6_copy x0 x1 h = some t) : Ct l X yX6_copy cX6_copy 2 none 1 [rfv (xd X) x0, rfv (xd X) x1] zN zG h none zN zG t 0 0 := by
  refine Ct.head (by decide) (Nat.le_of_ble_eq_true rfl) (fun Z hX hl _ _ _ C => ?_)
  subst hX
  subst hl
  exact (T_X6_copy_0 C x0 x1 hk_x0 hk_x1 _ _ hF)
/-! java/lang/Integer.bitCount(I)I -/
def F_J6_bitCount_0f7a4_0 (x0 : Int) (h : MH) : Option (Int × MH) :=
  nx (x0 - (land32 (ushr32 x0 1) 1431655765)) fun v1 =>
  nx ((land32 v1 858993459) + (land32 (ushr32 v1 2) 858993459)) fun v2 =>
  nx (land32 (v2 + (ushr32 v2 4)) 252645135) fun v3 =>
  nx (v3 + (ushr32 v3 8)) fun v4 =>
  nx (v4 + (ushr32 v4 16)) fun v5 =>
  some ((land32 v5 63), h)
set_option maxRecDepth 100000 in
theorem T_J6_bitCount_0f7a4_0 {Z : ZT} (C : Cx Z cJ6_bitCount_0f7a4 1 RJ6 1 (some .int)) (x0 : Int) (h : MH) (t : (Int × MH)) (hF : F_J6_bitCount_0f7a4_0 x0 h = some t) : MW Z (Qm Z (some (iv t.1)) zN zG t.2 0 0) 1 zN zG h 0 0 0 [(0, iv x0)] [] := by
  unfold F_J6_bitCount_0f7a4_0 at hF
  refine mw_iload_n 0 C dJ6_bitCount_0f7a4_0 rfl rfl ?_
  refine mw_iload_n 0 C dJ6_bitCount_0f7a4_1 rfl rfl ?_
  refine mw_iconst C dJ6_bitCount_0f7a4_2 ?_
  refine mw_iushr C dJ6_bitCount_0f7a4_3 ?_
  refine mw_ldcw (a := 1431655765) C dJ6_bitCount_0f7a4_4 wd825 rfl ?_
  refine mw_iand C dJ6_bitCount_0f7a4_7 ?_
  refine mw_isub C dJ6_bitCount_0f7a4_8 ?_
  obtain ⟨v1, ev1, hF⟩ := nx_some hF
  refine mw_ti ev1 ?_
  refine mw_istore_n [(0, iv v1)] C dJ6_bitCount_0f7a4_9 rfl (by decide) rfl ?_
  refine mw_iload_n 0 C dJ6_bitCount_0f7a4_10 rfl rfl ?_
  refine mw_ldcw (a := 858993459) C dJ6_bitCount_0f7a4_11 wd826 rfl ?_
  refine mw_iand C dJ6_bitCount_0f7a4_14 ?_
  refine mw_iload_n 0 C dJ6_bitCount_0f7a4_15 rfl rfl ?_
  refine mw_iconst C dJ6_bitCount_0f7a4_16 ?_
  refine mw_iushr C dJ6_bitCount_0f7a4_17 ?_
  refine mw_ldcw (a := 858993459) C dJ6_bitCount_0f7a4_18 wd826 rfl ?_
  refine mw_iand C dJ6_bitCount_0f7a4_21 ?_
  refine mw_iadd C dJ6_bitCount_0f7a4_22 ?_
  obtain ⟨v2, ev2, hF⟩ := nx_some hF
  refine mw_ti ev2 ?_
  refine mw_istore_n [(0, iv v2)] C dJ6_bitCount_0f7a4_23 rfl (by decide) rfl ?_
  refine mw_iload_n 0 C dJ6_bitCount_0f7a4_24 rfl rfl ?_
  refine mw_iload_n 0 C dJ6_bitCount_0f7a4_25 rfl rfl ?_
  refine mw_iconst C dJ6_bitCount_0f7a4_26 ?_
  refine mw_iushr C dJ6_bitCount_0f7a4_27 ?_
  refine mw_iadd C dJ6_bitCount_0f7a4_28 ?_
  refine mw_ldcw (a := 252645135) C dJ6_bitCount_0f7a4_29 wd827 rfl ?_
  refine mw_iand C dJ6_bitCount_0f7a4_32 ?_
  obtain ⟨v3, ev3, hF⟩ := nx_some hF
  refine mw_ti ev3 ?_
  refine mw_istore_n [(0, iv v3)] C dJ6_bitCount_0f7a4_33 rfl (by decide) rfl ?_
  refine mw_iload_n 0 C dJ6_bitCount_0f7a4_34 rfl rfl ?_
  refine mw_iload_n 0 C dJ6_bitCount_0f7a4_35 rfl rfl ?_
  refine mw_bipush C dJ6_bitCount_0f7a4_36 bp_8 ?_
  refine mw_iushr C dJ6_bitCount_0f7a4_38 ?_
  refine mw_iadd C dJ6_bitCount_0f7a4_39 ?_
  obtain ⟨v4, ev4, hF⟩ := nx_some hF
  refine mw_ti ev4 ?_
  refine mw_istore_n [(0, iv v4)] C dJ6_bitCount_0f7a4_40 rfl (by decide) rfl ?_
  refine mw_iload_n 0 C dJ6_bitCount_0f7a4_41 rfl rfl ?_
  refine mw_iload_n 0 C dJ6_bitCount_0f7a4_42 rfl rfl ?_
  refine mw_bipush C dJ6_bitCount_0f7a4_43 bp_16 ?_
  refine mw_iushr C dJ6_bitCount_0f7a4_45 ?_
  refine mw_iadd C dJ6_bitCount_0f7a4_46 ?_
  obtain ⟨v5, ev5, hF⟩ := nx_some hF
  refine mw_ti ev5 ?_
  refine mw_istore_n [(0, iv v5)] C dJ6_bitCount_0f7a4_47 rfl (by decide) rfl ?_
  refine mw_iload_n 0 C dJ6_bitCount_0f7a4_48 rfl rfl ?_
  refine mw_bipush C dJ6_bitCount_0f7a4_49 bp_63 ?_
  refine mw_iand C dJ6_bitCount_0f7a4_51 ?_
  cases hF
  exact mw_iret C dJ6_bitCount_0f7a4_52 rfl rfl
def F_J6_bitCount_0f7a4 (x0 : Int) (h : MH) : Option (Int × MH) := F_J6_bitCount_0f7a4_0 x0 h
theorem T_J6_bitCount_0f7a4 (l : Launch) (X : XT) (x0 : Int) (h : MH) (t : (Int × MH)) (hF : F_J6_bitCount_0f7a4 x0 h = some t) : Ct l X yJ6_bitCount_0f7a4 cJ6_bitCount_0f7a4 1 (some .int) 1 [iv x0] zN zG h (some (iv t.1)) zN zG t.2 0 0 := by
  refine Ct.head (by decide) (Nat.le_of_ble_eq_true rfl) (fun Z hX hl _ _ _ C => ?_)
  subst hX
  subst hl
  exact (T_J6_bitCount_0f7a4_0 C x0 _ _ hF)
