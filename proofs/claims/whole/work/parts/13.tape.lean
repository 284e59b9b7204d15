/-! BottleLine$Tape.readWord()V -/
def F_X8_readWord_10 : Nat → MH → Option MH
  | 0, _ => none
  | n + 1, h =>
    ck (in32 (h 8 3)) <|
    ck (in32 (h 8 2)) <|
    if (h 8 2) ≤ (h 8 3) then
      some h
    else
      ck (0 ≤ (h 8 3) ∧ (h 8 3) < 700) <|
      ck (in32 (h 9 (h 8 3).toNat)) <|
      if (h 9 (h 8 3).toNat) < 97 then
        some h
      else
        if 122 < (h 9 (h 8 3).toNat) then
          some h
        else
          ck (in32 (((h 9 (h 8 3).toNat) - 97) + 1)) <|
          nx (hup h 8 6 (lor64 (shl64 (h 8 6) 5) (((h 9 (h 8 3).toNat) - 97) + 1))) fun h9 =>
          nx (hup h9 8 3 ((h9 8 3) + 1)) fun h10 =>
          F_X8_readWord_10 n h10
set_option maxRecDepth 100000 in
theorem T_X8_readWord_10 {Z : ZT} (C : Cx Z cX8_readWord 1 RX8 1 none) : ∀ (n : Nat) (h : MH) (t : MH), F_X8_readWord_10 n h = some t → MW Z (Qm Z none zN zG t 0 0) 1 zN zG h 0 0 10 [(0, rfv (xd (zX Z)) 8)] [] := by
  intro n
  induction n with
  | zero =>
    intros
    rename_i hF
    exact absurd hF (by intro q; cases q)
  | succ n ih =>
    intro h t hF
    rw [F_X8_readWord_10] at hF
    refine mw_aload_n 0 C dX8_readWord_10 rfl rfl ?_
    refine mw_get (k := 3) (T := TX8) (v := iv (h 8 3)) C dX8_readWord_11 zn8 zk8 (by decide) rfl inX8 (by decide) wd41 rfl rfl ?_
    refine mw_aload_n 0 C dX8_readWord_14 rfl rfl ?_
    refine mw_get (k := 2) (T := TX8) (v := iv (h 8 2)) C dX8_readWord_15 zn8 zk8 (by decide) rfl inX8 (by decide) wd40 rfl rfl ?_
    obtain ⟨g1, hF⟩ := ck_some hF
    obtain ⟨g2, hF⟩ := ck_some hF
    rcases ite_some hF with ⟨c3, hF⟩ | ⟨c3, hF⟩
    · refine mw_icmp_ge_t (tgt := 88) C dX8_readWord_18 (by decide) g1 g2 c3 ?_
      cases hF
      exact mw_vret C dX8_readWord_88 rfl rfl
    · refine mw_icmp_ge_f (tgt := 88) C dX8_readWord_18 (by decide) g1 g2 c3 ?_
      refine mw_aload_n 0 C dX8_readWord_21 rfl rfl ?_
      refine mw_get (k := 0) (T := TX8) (v := rfv (xd (zX Z)) 9) C dX8_readWord_22 zn8 zk8 (by decide) rfl inX8 (by decide) wd37 rfl (zfv_r rfl zg_8_0) ?_
      refine mw_aload_n 0 C dX8_readWord_25 rfl rfl ?_
      refine mw_get (k := 3) (T := TX8) (v := iv (h 8 3)) C dX8_readWord_26 zn8 zk8 (by decide) rfl inX8 (by decide) wd41 rfl rfl ?_
      obtain ⟨g4, hF⟩ := ck_some hF
      refine mw_bald C dX8_readWord_29 zn9 zk9 (by decide) g4 ?_
      refine mw_bipush C dX8_readWord_30 bp_97 ?_
      obtain ⟨g5, hF⟩ := ck_some hF
      rcases ite_some hF with ⟨c6, hF⟩ | ⟨c6, hF⟩
      · refine mw_icmp_lt_t (tgt := 88) C dX8_readWord_32 (by decide) g5 (by decide) c6 ?_
        cases hF
        exact mw_vret C dX8_readWord_88 rfl rfl
      · refine mw_icmp_lt_f (tgt := 88) C dX8_readWord_32 (by decide) g5 (by decide) c6 ?_
        refine mw_aload_n 0 C dX8_readWord_35 rfl rfl ?_
        refine mw_get (k := 0) (T := TX8) (v := rfv (xd (zX Z)) 9) C dX8_readWord_36 zn8 zk8 (by decide) rfl inX8 (by decide) wd37 rfl (zfv_r rfl zg_8_0) ?_
        refine mw_aload_n 0 C dX8_readWord_39 rfl rfl ?_
        refine mw_get (k := 3) (T := TX8) (v := iv (h 8 3)) C dX8_readWord_40 zn8 zk8 (by decide) rfl inX8 (by decide) wd41 rfl rfl ?_
        refine mw_bald C dX8_readWord_43 zn9 zk9 (by decide) g4 ?_
        refine mw_bipush C dX8_readWord_44 bp_122 ?_
        rcases ite_some hF with ⟨c7, hF⟩ | ⟨c7, hF⟩
        · refine mw_icmp_gt_t (tgt := 88) C dX8_readWord_46 (by decide) g5 (by decide) c7 ?_
          cases hF
          exact mw_vret C dX8_readWord_88 rfl rfl
        · refine mw_icmp_gt_f (tgt := 88) C dX8_readWord_46 (by decide) g5 (by decide) c7 ?_
          refine mw_aload_n 0 C dX8_readWord_49 rfl rfl ?_
          refine mw_aload_n 0 C dX8_readWord_50 rfl rfl ?_
          refine mw_get (k := 6) (T := TX8) (v := lvv (h 8 6)) C dX8_readWord_51 zn8 zk8 (by decide) rfl inX8 (by decide) wd46 rfl rfl ?_
          refine mw_iconst C dX8_readWord_54 ?_
          refine mw_lshl C dX8_readWord_55 ?_
          refine mw_aload_n 0 C dX8_readWord_56 rfl rfl ?_
          refine mw_get (k := 0) (T := TX8) (v := rfv (xd (zX Z)) 9) C dX8_readWord_57 zn8 zk8 (by decide) rfl inX8 (by decide) wd37 rfl (zfv_r rfl zg_8_0) ?_
          refine mw_aload_n 0 C dX8_readWord_60 rfl rfl ?_
          refine mw_get (k := 3) (T := TX8) (v := iv (h 8 3)) C dX8_readWord_61 zn8 zk8 (by decide) rfl inX8 (by decide) wd41 rfl rfl ?_
          refine mw_bald C dX8_readWord_64 zn9 zk9 (by decide) g4 ?_
          refine mw_bipush C dX8_readWord_65 bp_97 ?_
          refine mw_isub C dX8_readWord_67 ?_
          refine mw_iconst C dX8_readWord_68 ?_
          refine mw_iadd C dX8_readWord_69 ?_
          obtain ⟨g8, hF⟩ := ck_some hF
          refine mw_i2l C dX8_readWord_70 g8 ?_
          refine mw_lor C dX8_readWord_71 ?_
          obtain ⟨h9, eh9, hF⟩ := nx_some hF
          refine mw_put (k := 6) (T := TX8) (ty0 := tyX8) (x := (lor64 (shl64 (h 8 6) 5) (((h 9 (h 8 3).toNat) - 97) + 1))) C dX8_readWord_72 zn8 zk8 (by decide) rfl inX8 tyX8_ok nmX8 (by decide) wd46 rfl rfl rfl rfl rfl (by decide) (mw_h eh9 ?_)
          refine mw_aload_n 0 C dX8_readWord_75 rfl rfl ?_
          refine mw_dup C dX8_readWord_76 rfl ?_
          refine mw_get (k := 3) (T := TX8) (v := iv (h9 8 3)) C dX8_readWord_77 zn8 zk8 (by decide) rfl inX8 (by decide) wd41 rfl rfl ?_
          refine mw_iconst C dX8_readWord_80 ?_
          refine mw_iadd C dX8_readWord_81 ?_
          obtain ⟨h10, eh10, hF⟩ := nx_some hF
          refine mw_put (k := 3) (T := TX8) (ty0 := tyX8) (x := ((h9 8 3) + 1)) C dX8_readWord_82 zn8 zk8 (by decide) rfl inX8 tyX8_ok nmX8 (by decide) wd41 rfl rfl rfl rfl rfl (by decide) (mw_h eh10 ?_)
          refine mw_goto (tgt := 10) C dX8_readWord_85 (by decide) ?_
          exact ih _ _ hF
def F_X8_readWord_0 (h : MH) : Option MH :=
  nx (hup h 8 4 1) fun h1 =>
  nx (hup h1 8 6 0) fun h2 =>
  F_X8_readWord_10 20000 h2
set_option maxRecDepth 100000 in
theorem T_X8_readWord_0 {Z : ZT} (C : Cx Z cX8_readWord 1 RX8 1 none) (h : MH) (t : MH) (hF : F_X8_readWord_0 h = some t) : MW Z (Qm Z none zN zG t 0 0) 1 zN zG h 0 0 0 [(0, rfv (xd (zX Z)) 8)] [] := by
  unfold F_X8_readWord_0 at hF
  refine mw_aload_n 0 C dX8_readWord_0 rfl rfl ?_
  refine mw_iconst C dX8_readWord_1 ?_
  obtain ⟨h1, eh1, hF⟩ := nx_some hF
  refine mw_put (k := 4) (T := TX8) (ty0 := tyX8) (x := 1) C dX8_readWord_2 zn8 zk8 (by decide) rfl inX8 tyX8_ok nmX8 (by decide) wd42 rfl rfl rfl rfl rfl (by decide) (mw_h eh1 ?_)
  refine mw_aload_n 0 C dX8_readWord_5 rfl rfl ?_
  refine mw_lconst (a := 0) C dX8_readWord_6 lc_0 ?_
  obtain ⟨h2, eh2, hF⟩ := nx_some hF
  refine mw_put (k := 6) (T := TX8) (ty0 := tyX8) (x := 0) C dX8_readWord_7 zn8 zk8 (by decide) rfl inX8 tyX8_ok nmX8 (by decide) wd46 rfl rfl rfl rfl rfl (by decide) (mw_h eh2 ?_)
  exact T_X8_readWord_10 C 20000 _ _ hF
def F_X8_readWord (h : MH) : Option MH := F_X8_readWord_0 h
theorem T_X8_readWord (l : Launch) (X : XT) (h : MH) (t : MH) (hF : F_X8_readWord h = some t) : Ct l X yX8_readWord cX8_readWord 1 none 1 [rfv (xd X) 8] zN zG h none zN zG t 0 0 := by
  refine Ct.head (by decide) (Nat.le_of_ble_eq_true rfl) (fun Z hX hl _ _ _ C => ?_)
  subst hX
  subst hl
  exact (T_X8_readWord_0 C _ _ hF)
/-! BottleLine$Tape.readNumber()V -/
def F_X8_readNumber_81 (h : MH) : Option MH :=
  ck (in32 ((h 8 3) - (h 8 5))) <|
  if 4 < ((h 8 3) - (h 8 5)) then
    nx (hup h 8 4 4) fun h3 =>
    some h3
  else
    nx (hup h 8 4 2) fun h4 =>
    some h4
set_option maxRecDepth 100000 in
theorem T_X8_readNumber_81 {Z : ZT} (C : Cx Z cX8_readNumber 1 RX8 1 none) (h : MH) (t : MH) (hF : F_X8_readNumber_81 h = some t) : MW Z (Qm Z none zN zG t 0 0) 1 zN zG h 0 0 81 [(0, rfv (xd (zX Z)) 8)] [] := by
  unfold F_X8_readNumber_81 at hF
  refine mw_aload_n 0 C dX8_readNumber_81 rfl rfl ?_
  refine mw_aload_n 0 C dX8_readNumber_82 rfl rfl ?_
  refine mw_get (k := 3) (T := TX8) (v := iv (h 8 3)) C dX8_readNumber_83 zn8 zk8 (by decide) rfl inX8 (by decide) wd41 rfl rfl ?_
  refine mw_aload_n 0 C dX8_readNumber_86 rfl rfl ?_
  refine mw_get (k := 5) (T := TX8) (v := iv (h 8 5)) C dX8_readNumber_87 zn8 zk8 (by decide) rfl inX8 (by decide) wd45 rfl rfl ?_
  refine mw_isub C dX8_readNumber_90 ?_
  refine mw_iconst C dX8_readNumber_91 ?_
  obtain ⟨g1, hF⟩ := ck_some hF
  rcases ite_some hF with ⟨c2, hF⟩ | ⟨c2, hF⟩
  · refine mw_icmp_gt_t (tgt := 99) C dX8_readNumber_92 (by decide) g1 (by decide) c2 ?_
    refine mw_iconst C dX8_readNumber_99 ?_
    obtain ⟨h3, eh3, hF⟩ := nx_some hF
    refine mw_put (k := 4) (T := TX8) (ty0 := tyX8) (x := 4) C dX8_readNumber_100 zn8 zk8 (by decide) rfl inX8 tyX8_ok nmX8 (by decide) wd42 rfl rfl rfl rfl rfl (by decide) (mw_h eh3 ?_)
    cases hF
    exact mw_vret C dX8_readNumber_103 rfl rfl
  · refine mw_icmp_gt_f (tgt := 99) C dX8_readNumber_92 (by decide) g1 (by decide) c2 ?_
    refine mw_iconst C dX8_readNumber_95 ?_
    refine mw_goto (tgt := 100) C dX8_readNumber_96 (by decide) ?_
    obtain ⟨h4, eh4, hF⟩ := nx_some hF
    refine mw_put (k := 4) (T := TX8) (ty0 := tyX8) (x := 2) C dX8_readNumber_100 zn8 zk8 (by decide) rfl inX8 tyX8_ok nmX8 (by decide) wd42 rfl rfl rfl rfl rfl (by decide) (mw_h eh4 ?_)
    cases hF
    exact mw_vret C dX8_readNumber_103 rfl rfl
def F_X8_readNumber_5 : Nat → MH → Option MH
  | 0, _ => none
  | n + 1, h =>
    ck (in32 (h 8 3)) <|
    ck (in32 (h 8 2)) <|
    if (h 8 2) ≤ (h 8 3) then
      F_X8_readNumber_81 h
    else
      ck (0 ≤ (h 8 3) ∧ (h 8 3) < 700) <|
      ck (in32 (h 9 (h 8 3).toNat)) <|
      if (h 9 (h 8 3).toNat) < 48 then
        F_X8_readNumber_81 h
      else
        if 57 < (h 9 (h 8 3).toNat) then
          F_X8_readNumber_81 h
        else
          nx (hup h 8 7 ((((h 8 7) * 10) + (h 9 (h 8 3).toNat)) - 48)) fun h8 =>
          nx (hup h8 8 3 ((h8 8 3) + 1)) fun h9 =>
          F_X8_readNumber_5 n h9
set_option maxRecDepth 100000 in
theorem T_X8_readNumber_5 {Z : ZT} (C : Cx Z cX8_readNumber 1 RX8 1 none) : ∀ (n : Nat) (h : MH) (t : MH), F_X8_readNumber_5 n h = some t → MW Z (Qm Z none zN zG t 0 0) 1 zN zG h 0 0 5 [(0, rfv (xd (zX Z)) 8)] [] := by
  intro n
  induction n with
  | zero =>
    intros
    rename_i hF
    exact absurd hF (by intro q; cases q)
  | succ n ih =>
    intro h t hF
    rw [F_X8_readNumber_5] at hF
    refine mw_aload_n 0 C dX8_readNumber_5 rfl rfl ?_
    refine mw_get (k := 3) (T := TX8) (v := iv (h 8 3)) C dX8_readNumber_6 zn8 zk8 (by decide) rfl inX8 (by decide) wd41 rfl rfl ?_
    refine mw_aload_n 0 C dX8_readNumber_9 rfl rfl ?_
    refine mw_get (k := 2) (T := TX8) (v := iv (h 8 2)) C dX8_readNumber_10 zn8 zk8 (by decide) rfl inX8 (by decide) wd40 rfl rfl ?_
    obtain ⟨g1, hF⟩ := ck_some hF
    obtain ⟨g2, hF⟩ := ck_some hF
    rcases ite_some hF with ⟨c3, hF⟩ | ⟨c3, hF⟩
    · refine mw_icmp_ge_t (tgt := 81) C dX8_readNumber_13 (by decide) g1 g2 c3 ?_
      exact T_X8_readNumber_81 C _ _ hF
    · refine mw_icmp_ge_f (tgt := 81) C dX8_readNumber_13 (by decide) g1 g2 c3 ?_
      refine mw_aload_n 0 C dX8_readNumber_16 rfl rfl ?_
      refine mw_get (k := 0) (T := TX8) (v := rfv (xd (zX Z)) 9) C dX8_readNumber_17 zn8 zk8 (by decide) rfl inX8 (by decide) wd37 rfl (zfv_r rfl zg_8_0) ?_
      refine mw_aload_n 0 C dX8_readNumber_20 rfl rfl ?_
      refine mw_get (k := 3) (T := TX8) (v := iv (h 8 3)) C dX8_readNumber_21 zn8 zk8 (by decide) rfl inX8 (by decide) wd41 rfl rfl ?_
      obtain ⟨g4, hF⟩ := ck_some hF
      refine mw_bald C dX8_readNumber_24 zn9 zk9 (by decide) g4 ?_
      refine mw_bipush C dX8_readNumber_25 bp_48 ?_
      obtain ⟨g5, hF⟩ := ck_some hF
      rcases ite_some hF with ⟨c6, hF⟩ | ⟨c6, hF⟩
      · refine mw_icmp_lt_t (tgt := 81) C dX8_readNumber_27 (by decide) g5 (by decide) c6 ?_
        exact T_X8_readNumber_81 C _ _ hF
      · refine mw_icmp_lt_f (tgt := 81) C dX8_readNumber_27 (by decide) g5 (by decide) c6 ?_
        refine mw_aload_n 0 C dX8_readNumber_30 rfl rfl ?_
        refine mw_get (k := 0) (T := TX8) (v := rfv (xd (zX Z)) 9) C dX8_readNumber_31 zn8 zk8 (by decide) rfl inX8 (by decide) wd37 rfl (zfv_r rfl zg_8_0) ?_
        refine mw_aload_n 0 C dX8_readNumber_34 rfl rfl ?_
        refine mw_get (k := 3) (T := TX8) (v := iv (h 8 3)) C dX8_readNumber_35 zn8 zk8 (by decide) rfl inX8 (by decide) wd41 rfl rfl ?_
        refine mw_bald C dX8_readNumber_38 zn9 zk9 (by decide) g4 ?_
        refine mw_bipush C dX8_readNumber_39 bp_57 ?_
        rcases ite_some hF with ⟨c7, hF⟩ | ⟨c7, hF⟩
        · refine mw_icmp_gt_t (tgt := 81) C dX8_readNumber_41 (by decide) g5 (by decide) c7 ?_
          exact T_X8_readNumber_81 C _ _ hF
        · refine mw_icmp_gt_f (tgt := 81) C dX8_readNumber_41 (by decide) g5 (by decide) c7 ?_
          refine mw_aload_n 0 C dX8_readNumber_44 rfl rfl ?_
          refine mw_aload_n 0 C dX8_readNumber_45 rfl rfl ?_
          refine mw_get (k := 7) (T := TX8) (v := iv (h 8 7)) C dX8_readNumber_46 zn8 zk8 (by decide) rfl inX8 (by decide) wd49 rfl rfl ?_
          refine mw_bipush C dX8_readNumber_49 bp_10 ?_
          refine mw_imul C dX8_readNumber_51 ?_
          refine mw_aload_n 0 C dX8_readNumber_52 rfl rfl ?_
          refine mw_get (k := 0) (T := TX8) (v := rfv (xd (zX Z)) 9) C dX8_readNumber_53 zn8 zk8 (by decide) rfl inX8 (by decide) wd37 rfl (zfv_r rfl zg_8_0) ?_
          refine mw_aload_n 0 C dX8_readNumber_56 rfl rfl ?_
          refine mw_get (k := 3) (T := TX8) (v := iv (h 8 3)) C dX8_readNumber_57 zn8 zk8 (by decide) rfl inX8 (by decide) wd41 rfl rfl ?_
          refine mw_bald C dX8_readNumber_60 zn9 zk9 (by decide) g4 ?_
          refine mw_iadd C dX8_readNumber_61 ?_
          refine mw_bipush C dX8_readNumber_62 bp_48 ?_
          refine mw_isub C dX8_readNumber_64 ?_
          obtain ⟨h8, eh8, hF⟩ := nx_some hF
          refine mw_put (k := 7) (T := TX8) (ty0 := tyX8) (x := ((((h 8 7) * 10) + (h 9 (h 8 3).toNat)) - 48)) C dX8_readNumber_65 zn8 zk8 (by decide) rfl inX8 tyX8_ok nmX8 (by decide) wd49 rfl rfl rfl rfl rfl (by decide) (mw_h eh8 ?_)
          refine mw_aload_n 0 C dX8_readNumber_68 rfl rfl ?_
          refine mw_dup C dX8_readNumber_69 rfl ?_
          refine mw_get (k := 3) (T := TX8) (v := iv (h8 8 3)) C dX8_readNumber_70 zn8 zk8 (by decide) rfl inX8 (by decide) wd41 rfl rfl ?_
          refine mw_iconst C dX8_readNumber_73 ?_
          refine mw_iadd C dX8_readNumber_74 ?_
          obtain ⟨h9, eh9, hF⟩ := nx_some hF
          refine mw_put (k := 3) (T := TX8) (ty0 := tyX8) (x := ((h8 8 3) + 1)) C dX8_readNumber_75 zn8 zk8 (by decide) rfl inX8 tyX8_ok nmX8 (by decide) wd41 rfl rfl rfl rfl rfl (by decide) (mw_h eh9 ?_)
          refine mw_goto (tgt := 5) C dX8_readNumber_78 (by decide) ?_
          exact ih _ _ hF
def F_X8_readNumber_0 (h : MH) : Option MH :=
  nx (hup h 8 7 0) fun h1 =>
  F_X8_readNumber_5 20000 h1
set_option maxRecDepth 100000 in
theorem T_X8_readNumber_0 {Z : ZT} (C : Cx Z cX8_readNumber 1 RX8 1 none) (h : MH) (t : MH) (hF : F_X8_readNumber_0 h = some t) : MW Z (Qm Z none zN zG t 0 0) 1 zN zG h 0 0 0 [(0, rfv (xd (zX Z)) 8)] [] := by
  unfold F_X8_readNumber_0 at hF
  refine mw_aload_n 0 C dX8_readNumber_0 rfl rfl ?_
  refine mw_iconst C dX8_readNumber_1 ?_
  obtain ⟨h1, eh1, hF⟩ := nx_some hF
  refine mw_put (k := 7) (T := TX8) (ty0 := tyX8) (x := 0) C dX8_readNumber_2 zn8 zk8 (by decide) rfl inX8 tyX8_ok nmX8 (by decide) wd49 rfl rfl rfl rfl rfl (by decide) (mw_h eh1 ?_)
  exact T_X8_readNumber_5 C 20000 _ _ hF
def F_X8_readNumber (h : MH) : Option MH := F_X8_readNumber_0 h
theorem T_X8_readNumber (l : Launch) (X : XT) (h : MH) (t : MH) (hF : F_X8_readNumber h = some t) : Ct l X yX8_readNumber cX8_readNumber 1 none 1 [rfv (xd X) 8] zN zG h none zN zG t 0 0 := by
  refine Ct.head (by decide) (Nat.le_of_ble_eq_true rfl) (fun Z hX hl _ _ _ C => ?_)
  subst hX
  subst hl
  exact (T_X8_readNumber_0 C _ _ hF)
/-! BottleLine$Tape.advance()V -/
def F_X8_advance_169 (s1 : Int) (h : MH) : Option MH :=
  nx (hup h 8 4 s1) fun h1 =>
  nx (hup h1 8 3 ((h1 8 3) + 1)) fun h2 =>
  some h2
set_option maxRecDepth 100000 in
theorem T_X8_advance_169 {Z : ZT} (C : Cx Z cX8_advance 1 RX8 2 none) (s1 : Int) (h : MH) (t : MH) (hF : F_X8_advance_169 s1 h = some t) : MW Z (Qm Z none zN zG t 0 0) 1 zN zG h 0 0 169 [(0, rfv (xd (zX Z)) 8)] [iv s1, rfv (xd (zX Z)) 8] := by
  unfold F_X8_advance_169 at hF
  obtain ⟨h1, eh1, hF⟩ := nx_some hF
  refine mw_put (k := 4) (T := TX8) (ty0 := tyX8) (x := s1) C dX8_advance_169 zn8 zk8 (by decide) rfl inX8 tyX8_ok nmX8 (by decide) wd42 rfl rfl rfl rfl rfl (by decide) (mw_h eh1 ?_)
  refine mw_aload_n 0 C dX8_advance_172 rfl rfl ?_
  refine mw_dup C dX8_advance_173 rfl ?_
  refine mw_get (k := 3) (T := TX8) (v := iv (h1 8 3)) C dX8_advance_174 zn8 zk8 (by decide) rfl inX8 (by decide) wd41 rfl rfl ?_
  refine mw_iconst C dX8_advance_177 ?_
  refine mw_iadd C dX8_advance_178 ?_
  obtain ⟨h2, eh2, hF⟩ := nx_some hF
  refine mw_put (k := 3) (T := TX8) (ty0 := tyX8) (x := ((h1 8 3) + 1)) C dX8_advance_179 zn8 zk8 (by decide) rfl inX8 tyX8_ok nmX8 (by decide) wd41 rfl rfl rfl rfl rfl (by decide) (mw_h eh2 ?_)
  cases hF
  exact mw_vret C dX8_advance_182 rfl rfl
def F_X8_advance_149 (h : MH) : Option MH :=
  ck (0 ≤ (h 8 3) ∧ (h 8 3) < 700) <|
  ck (in32 (h 9 (h 8 3).toNat)) <|
  if (h 9 (h 8 3).toNat) ≠ 59 then
    F_X8_advance_169 4 h
  else
    F_X8_advance_169 3 h
set_option maxRecDepth 100000 in
theorem T_X8_advance_149 {Z : ZT} (C : Cx Z cX8_advance 1 RX8 2 none) (h : MH) (t : MH) (hF : F_X8_advance_149 h = some t) : MW Z (Qm Z none zN zG t 0 0) 1 zN zG h 0 0 149 [(0, rfv (xd (zX Z)) 8)] [] := by
  unfold F_X8_advance_149 at hF
  refine mw_aload_n 0 C dX8_advance_149 rfl rfl ?_
  refine mw_aload_n 0 C dX8_advance_150 rfl rfl ?_
  refine mw_get (k := 0) (T := TX8) (v := rfv (xd (zX Z)) 9) C dX8_advance_151 zn8 zk8 (by decide) rfl inX8 (by decide) wd37 rfl (zfv_r rfl zg_8_0) ?_
  refine mw_aload_n 0 C dX8_advance_154 rfl rfl ?_
  refine mw_get (k := 3) (T := TX8) (v := iv (h 8 3)) C dX8_advance_155 zn8 zk8 (by decide) rfl inX8 (by decide) wd41 rfl rfl ?_
  obtain ⟨g1, hF⟩ := ck_some hF
  refine mw_bald C dX8_advance_158 zn9 zk9 (by decide) g1 ?_
  refine mw_bipush C dX8_advance_159 bp_59 ?_
  obtain ⟨g2, hF⟩ := ck_some hF
  rcases ite_some hF with ⟨c3, hF⟩ | ⟨c3, hF⟩
  · refine mw_icmp_ne_t (tgt := 168) C dX8_advance_161 (by decide) g2 (by decide) c3 ?_
    refine mw_iconst C dX8_advance_168 ?_
    exact T_X8_advance_169 C 4 _ _ hF
  · refine mw_icmp_ne_f (tgt := 168) C dX8_advance_161 (by decide) g2 (by decide) c3 ?_
    refine mw_iconst C dX8_advance_164 ?_
    refine mw_goto (tgt := 169) C dX8_advance_165 (by decide) ?_
    exact T_X8_advance_169 C 3 _ _ hF
def F_X8_advance_114 (h : MH) : Option MH :=
  ck (0 ≤ (h 8 3) ∧ (h 8 3) < 700) <|
  ck (in32 (h 9 (h 8 3).toNat)) <|
  if (h 9 (h 8 3).toNat) < 48 then
    F_X8_advance_149 h
  else
    if 57 < (h 9 (h 8 3).toNat) then
      F_X8_advance_149 h
    else
      (F_X8_readNumber h).bind fun q5 =>
      some q5
set_option maxRecDepth 100000 in
theorem T_X8_advance_114 {Z : ZT} (C : Cx Z cX8_advance 1 RX8 2 none) (h : MH) (t : MH) (hF : F_X8_advance_114 h = some t) : MW Z (Qm Z none zN zG t 0 0) 1 zN zG h 0 0 114 [(0, rfv (xd (zX Z)) 8)] [] := by
  unfold F_X8_advance_114 at hF
  refine mw_aload_n 0 C dX8_advance_114 rfl rfl ?_
  refine mw_get (k := 0) (T := TX8) (v := rfv (xd (zX Z)) 9) C dX8_advance_115 zn8 zk8 (by decide) rfl inX8 (by decide) wd37 rfl (zfv_r rfl zg_8_0) ?_
  refine mw_aload_n 0 C dX8_advance_118 rfl rfl ?_
  refine mw_get (k := 3) (T := TX8) (v := iv (h 8 3)) C dX8_advance_119 zn8 zk8 (by decide) rfl inX8 (by decide) wd41 rfl rfl ?_
  obtain ⟨g1, hF⟩ := ck_some hF
  refine mw_bald C dX8_advance_122 zn9 zk9 (by decide) g1 ?_
  refine mw_bipush C dX8_advance_123 bp_48 ?_
  obtain ⟨g2, hF⟩ := ck_some hF
  rcases ite_some hF with ⟨c3, hF⟩ | ⟨c3, hF⟩
  · refine mw_icmp_lt_t (tgt := 149) C dX8_advance_125 (by decide) g2 (by decide) c3 ?_
    exact T_X8_advance_149 C _ _ hF
  · refine mw_icmp_lt_f (tgt := 149) C dX8_advance_125 (by decide) g2 (by decide) c3 ?_
    refine mw_aload_n 0 C dX8_advance_128 rfl rfl ?_
    refine mw_get (k := 0) (T := TX8) (v := rfv (xd (zX Z)) 9) C dX8_advance_129 zn8 zk8 (by decide) rfl inX8 (by decide) wd37 rfl (zfv_r rfl zg_8_0) ?_
    refine mw_aload_n 0 C dX8_advance_132 rfl rfl ?_
    refine mw_get (k := 3) (T := TX8) (v := iv (h 8 3)) C dX8_advance_133 zn8 zk8 (by decide) rfl inX8 (by decide) wd41 rfl rfl ?_
    refine mw_bald C dX8_advance_136 zn9 zk9 (by decide) g1 ?_
    refine mw_bipush C dX8_advance_137 bp_57 ?_
    rcases ite_some hF with ⟨c4, hF⟩ | ⟨c4, hF⟩
    · refine mw_icmp_gt_t (tgt := 149) C dX8_advance_139 (by decide) g2 (by decide) c4 ?_
      exact T_X8_advance_149 C _ _ hF
    · refine mw_icmp_gt_f (tgt := 149) C dX8_advance_139 (by decide) g2 (by decide) c4 ?_
      refine mw_aload_n 0 C dX8_advance_142 rfl rfl ?_
      obtain ⟨q5, hq5, hF⟩ := bind_some hF
      refine mw_callV (c := 8) [] [] C dX8_advance_143 (T_X8_readNumber (zl Z) (zX Z) _ _ hq5) rfl zn8 zk8 (by decide) rfl wd365 wd366 wd1313 wd2 wd367 hd_X8_readNumber rfl (by decide) (by decide) (Nat.le_of_ble_eq_true rfl) ⟨Nat.zero_le _, Nat.zero_le _⟩ ?_
      refine mw_goto (tgt := 182) C dX8_advance_146 (by decide) ?_
      cases hF
      exact mw_vret C dX8_advance_182 rfl rfl
def F_X8_advance_52 (h : MH) : Option MH :=
  nx (hup h 8 5 (h 8 3)) fun h1 =>
  ck (in32 (h1 8 3)) <|
  ck (in32 (h1 8 2)) <|
  if (h1 8 3) < (h1 8 2) then
    ck (0 ≤ (h1 8 3) ∧ (h1 8 3) < 700) <|
    ck (in32 (h1 9 (h1 8 3).toNat)) <|
    if (h1 9 (h1 8 3).toNat) < 97 then
      F_X8_advance_114 h1
    else
      if 122 < (h1 9 (h1 8 3).toNat) then
        F_X8_advance_114 h1
      else
        (F_X8_readWord h1).bind fun q9 =>
        some q9
  else
    nx (hup h1 8 4 0) fun h10 =>
    some h10
set_option maxRecDepth 100000 in
theorem T_X8_advance_52 {Z : ZT} (C : Cx Z cX8_advance 1 RX8 2 none) (h : MH) (t : MH) (hF : F_X8_advance_52 h = some t) : MW Z (Qm Z none zN zG t 0 0) 1 zN zG h 0 0 52 [(0, rfv (xd (zX Z)) 8)] [] := by
  unfold F_X8_advance_52 at hF
  refine mw_aload_n 0 C dX8_advance_52 rfl rfl ?_
  refine mw_aload_n 0 C dX8_advance_53 rfl rfl ?_
  refine mw_get (k := 3) (T := TX8) (v := iv (h 8 3)) C dX8_advance_54 zn8 zk8 (by decide) rfl inX8 (by decide) wd41 rfl rfl ?_
  obtain ⟨h1, eh1, hF⟩ := nx_some hF
  refine mw_put (k := 5) (T := TX8) (ty0 := tyX8) (x := (h 8 3)) C dX8_advance_57 zn8 zk8 (by decide) rfl inX8 tyX8_ok nmX8 (by decide) wd45 rfl rfl rfl rfl rfl (by decide) (mw_h eh1 ?_)
  refine mw_aload_n 0 C dX8_advance_60 rfl rfl ?_
  refine mw_get (k := 3) (T := TX8) (v := iv (h1 8 3)) C dX8_advance_61 zn8 zk8 (by decide) rfl inX8 (by decide) wd41 rfl rfl ?_
  refine mw_aload_n 0 C dX8_advance_64 rfl rfl ?_
  refine mw_get (k := 2) (T := TX8) (v := iv (h1 8 2)) C dX8_advance_65 zn8 zk8 (by decide) rfl inX8 (by decide) wd40 rfl rfl ?_
  obtain ⟨g2, hF⟩ := ck_some hF
  obtain ⟨g3, hF⟩ := ck_some hF
  rcases ite_some hF with ⟨c4, hF⟩ | ⟨c4, hF⟩
  · refine mw_icmp_lt_t (tgt := 79) C dX8_advance_68 (by decide) g2 g3 c4 ?_
    refine mw_aload_n 0 C dX8_advance_79 rfl rfl ?_
    refine mw_get (k := 0) (T := TX8) (v := rfv (xd (zX Z)) 9) C dX8_advance_80 zn8 zk8 (by decide) rfl inX8 (by decide) wd37 rfl (zfv_r rfl zg_8_0) ?_
    refine mw_aload_n 0 C dX8_advance_83 rfl rfl ?_
    refine mw_get (k := 3) (T := TX8) (v := iv (h1 8 3)) C dX8_advance_84 zn8 zk8 (by decide) rfl inX8 (by decide) wd41 rfl rfl ?_
    obtain ⟨g5, hF⟩ := ck_some hF
    refine mw_bald C dX8_advance_87 zn9 zk9 (by decide) g5 ?_
    refine mw_bipush C dX8_advance_88 bp_97 ?_
    obtain ⟨g6, hF⟩ := ck_some hF
    rcases ite_some hF with ⟨c7, hF⟩ | ⟨c7, hF⟩
    · refine mw_icmp_lt_t (tgt := 114) C dX8_advance_90 (by decide) g6 (by decide) c7 ?_
      exact T_X8_advance_114 C _ _ hF
    · refine mw_icmp_lt_f (tgt := 114) C dX8_advance_90 (by decide) g6 (by decide) c7 ?_
      refine mw_aload_n 0 C dX8_advance_93 rfl rfl ?_
      refine mw_get (k := 0) (T := TX8) (v := rfv (xd (zX Z)) 9) C dX8_advance_94 zn8 zk8 (by decide) rfl inX8 (by decide) wd37 rfl (zfv_r rfl zg_8_0) ?_
      refine mw_aload_n 0 C dX8_advance_97 rfl rfl ?_
      refine mw_get (k := 3) (T := TX8) (v := iv (h1 8 3)) C dX8_advance_98 zn8 zk8 (by decide) rfl inX8 (by decide) wd41 rfl rfl ?_
      refine mw_bald C dX8_advance_101 zn9 zk9 (by decide) g5 ?_
      refine mw_bipush C dX8_advance_102 bp_122 ?_
      rcases ite_some hF with ⟨c8, hF⟩ | ⟨c8, hF⟩
      · refine mw_icmp_gt_t (tgt := 114) C dX8_advance_104 (by decide) g6 (by decide) c8 ?_
        exact T_X8_advance_114 C _ _ hF
      · refine mw_icmp_gt_f (tgt := 114) C dX8_advance_104 (by decide) g6 (by decide) c8 ?_
        refine mw_aload_n 0 C dX8_advance_107 rfl rfl ?_
        obtain ⟨q9, hq9, hF⟩ := bind_some hF
        refine mw_callV (c := 8) [] [] C dX8_advance_108 (T_X8_readWord (zl Z) (zX Z) _ _ hq9) rfl zn8 zk8 (by decide) rfl wd362 wd363 wd1312 wd2 wd364 hd_X8_readWord rfl (by decide) (by decide) (Nat.le_of_ble_eq_true rfl) ⟨Nat.zero_le _, Nat.zero_le _⟩ ?_
        refine mw_goto (tgt := 182) C dX8_advance_111 (by decide) ?_
        cases hF
        exact mw_vret C dX8_advance_182 rfl rfl
  · refine mw_icmp_lt_f (tgt := 79) C dX8_advance_68 (by decide) g2 g3 c4 ?_
    refine mw_aload_n 0 C dX8_advance_71 rfl rfl ?_
    refine mw_iconst C dX8_advance_72 ?_
    obtain ⟨h10, eh10, hF⟩ := nx_some hF
    refine mw_put (k := 4) (T := TX8) (ty0 := tyX8) (x := 0) C dX8_advance_73 zn8 zk8 (by decide) rfl inX8 tyX8_ok nmX8 (by decide) wd42 rfl rfl rfl rfl rfl (by decide) (mw_h eh10 ?_)
    refine mw_goto (tgt := 182) C dX8_advance_76 (by decide) ?_
    cases hF
    exact mw_vret C dX8_advance_182 rfl rfl
def F_X8_advance_39 (k0 : MH → Option MH) (h : MH) : Option MH :=
  nx (hup h 8 3 ((h 8 3) + 1)) fun h1 =>
  k0 h1
set_option maxRecDepth 100000 in
theorem T_X8_advance_39 {Z : ZT} (C : Cx Z cX8_advance 1 RX8 2 none) (k0 : MH → Option MH) (hk0 : ∀ (h : MH) (t : MH), k0 h = some t → MW Z (Qm Z none zN zG t 0 0) 1 zN zG h 0 0 0 [(0, rfv (xd (zX Z)) 8)] []) (h : MH) (t : MH) (hF : F_X8_advance_39 k0 h = some t) : MW Z (Qm Z none zN zG t 0 0) 1 zN zG h 0 0 39 [(0, rfv (xd (zX Z)) 8)] [] := by
  unfold F_X8_advance_39 at hF
  refine mw_aload_n 0 C dX8_advance_39 rfl rfl ?_
  refine mw_dup C dX8_advance_40 rfl ?_
  refine mw_get (k := 3) (T := TX8) (v := iv (h 8 3)) C dX8_advance_41 zn8 zk8 (by decide) rfl inX8 (by decide) wd41 rfl rfl ?_
  refine mw_iconst C dX8_advance_44 ?_
  refine mw_iadd C dX8_advance_45 ?_
  obtain ⟨h1, eh1, hF⟩ := nx_some hF
  refine mw_put (k := 3) (T := TX8) (ty0 := tyX8) (x := ((h 8 3) + 1)) C dX8_advance_46 zn8 zk8 (by decide) rfl inX8 tyX8_ok nmX8 (by decide) wd41 rfl rfl rfl rfl rfl (by decide) (mw_h eh1 ?_)
  refine mw_goto (tgt := 0) C dX8_advance_49 (by decide) ?_
  exact hk0 _ _ hF
def F_X8_advance_0 : Nat → MH → Option MH
  | 0, _ => none
  | n + 1, h =>
    ck (in32 (h 8 3)) <|
    ck (in32 (h 8 2)) <|
    if (h 8 2) ≤ (h 8 3) then
      F_X8_advance_52 h
    else
      ck (0 ≤ (h 8 3) ∧ (h 8 3) < 700) <|
      ck (in32 (h 9 (h 8 3).toNat)) <|
      if (h 9 (h 8 3).toNat) = 32 then
        F_X8_advance_39 (F_X8_advance_0 n) h
      else
        if (h 9 (h 8 3).toNat) ≠ 10 then
          F_X8_advance_52 h
        else
          F_X8_advance_39 (F_X8_advance_0 n) h
set_option maxRecDepth 100000 in
theorem T_X8_advance_0 {Z : ZT} (C : Cx Z cX8_advance 1 RX8 2 none) : ∀ (n : Nat) (h : MH) (t : MH), F_X8_advance_0 n h = some t → MW Z (Qm Z none zN zG t 0 0) 1 zN zG h 0 0 0 [(0, rfv (xd (zX Z)) 8)] [] := by
  intro n
  induction n with
  | zero =>
    intros
    rename_i hF
    exact absurd hF (by intro q; cases q)
  | succ n ih =>
    intro h t hF
    rw [F_X8_advance_0] at hF
    refine mw_aload_n 0 C dX8_advance_0 rfl rfl ?_
    refine mw_get (k := 3) (T := TX8) (v := iv (h 8 3)) C dX8_advance_1 zn8 zk8 (by decide) rfl inX8 (by decide) wd41 rfl rfl ?_
    refine mw_aload_n 0 C dX8_advance_4 rfl rfl ?_
    refine mw_get (k := 2) (T := TX8) (v := iv (h 8 2)) C dX8_advance_5 zn8 zk8 (by decide) rfl inX8 (by decide) wd40 rfl rfl ?_
    obtain ⟨g1, hF⟩ := ck_some hF
    obtain ⟨g2, hF⟩ := ck_some hF
    rcases ite_some hF with ⟨c3, hF⟩ | ⟨c3, hF⟩
    · refine mw_icmp_ge_t (tgt := 52) C dX8_advance_8 (by decide) g1 g2 c3 ?_
      exact T_X8_advance_52 C _ _ hF
    · refine mw_icmp_ge_f (tgt := 52) C dX8_advance_8 (by decide) g1 g2 c3 ?_
      refine mw_aload_n 0 C dX8_advance_11 rfl rfl ?_
      refine mw_get (k := 0) (T := TX8) (v := rfv (xd (zX Z)) 9) C dX8_advance_12 zn8 zk8 (by decide) rfl inX8 (by decide) wd37 rfl (zfv_r rfl zg_8_0) ?_
      refine mw_aload_n 0 C dX8_advance_15 rfl rfl ?_
      refine mw_get (k := 3) (T := TX8) (v := iv (h 8 3)) C dX8_advance_16 zn8 zk8 (by decide) rfl inX8 (by decide) wd41 rfl rfl ?_
      obtain ⟨g4, hF⟩ := ck_some hF
      refine mw_bald C dX8_advance_19 zn9 zk9 (by decide) g4 ?_
      refine mw_bipush C dX8_advance_20 bp_32 ?_
      obtain ⟨g5, hF⟩ := ck_some hF
      rcases ite_some hF with ⟨c6, hF⟩ | ⟨c6, hF⟩
      · refine mw_icmp_eq_t (tgt := 39) C dX8_advance_22 (by decide) g5 (by decide) c6 ?_
        exact T_X8_advance_39 C (F_X8_advance_0 n) ih _ _ hF
      · refine mw_icmp_eq_f (tgt := 39) C dX8_advance_22 (by decide) g5 (by decide) c6 ?_
        refine mw_aload_n 0 C dX8_advance_25 rfl rfl ?_
        refine mw_get (k := 0) (T := TX8) (v := rfv (xd (zX Z)) 9) C dX8_advance_26 zn8 zk8 (by decide) rfl inX8 (by decide) wd37 rfl (zfv_r rfl zg_8_0) ?_
        refine mw_aload_n 0 C dX8_advance_29 rfl rfl ?_
        refine mw_get (k := 3) (T := TX8) (v := iv (h 8 3)) C dX8_advance_30 zn8 zk8 (by decide) rfl inX8 (by decide) wd41 rfl rfl ?_
        refine mw_bald C dX8_advance_33 zn9 zk9 (by decide) g4 ?_
        refine mw_bipush C dX8_advance_34 bp_10 ?_
        rcases ite_some hF with ⟨c7, hF⟩ | ⟨c7, hF⟩
        · refine mw_icmp_ne_t (tgt := 52) C dX8_advance_36 (by decide) g5 (by decide) c7 ?_
          exact T_X8_advance_52 C _ _ hF
        · refine mw_icmp_ne_f (tgt := 52) C dX8_advance_36 (by decide) g5 (by decide) c7 ?_
          exact T_X8_advance_39 C (F_X8_advance_0 n) ih _ _ hF
def F_X8_advance (h : MH) : Option MH := F_X8_advance_0 20000 h
theorem T_X8_advance (l : Launch) (X : XT) (h : MH) (t : MH) (hF : F_X8_advance h = some t) : Ct l X yX8_advance cX8_advance 1 none 2 [rfv (xd X) 8] zN zG h none zN zG t 0 0 := by
  refine Ct.head (by decide) (Nat.le_of_ble_eq_true rfl) (fun Z hX hl _ _ _ C => ?_)
  subst hX
  subst hl
  exact (T_X8_advance_0 C 20000 _ _ hF)
/-! BottleLine$Tape.open(I)V -/
def F_X8_open_0 (x1 : Int) (h : MH) : Option MH :=
  ck (in32 x1) <|
  ck (in32 (h 8 1)) <|
  nx (hup h 8 2 (min x1 (h 8 1))) fun h3 =>
  nx (hup h3 8 1 0) fun h4 =>
  nx (hup h4 8 3 0) fun h5 =>
  nx (hup h5 8 9 0) fun h6 =>
  nx (hup h6 8 10 (-1)) fun h7 =>
  (F_X8_advance h7).bind fun q8 =>
  some q8
set_option maxRecDepth 100000 in
theorem T_X8_open_0 {Z : ZT} (C : Cx Z cX8_open 2 RX8 3 none) (x1 : Int) (h : MH) (t : MH) (hF : F_X8_open_0 x1 h = some t) : MW Z (Qm Z none zN zG t 0 0) 2 zN zG h 0 0 0 [(0, rfv (xd (zX Z)) 8), (1, iv x1)] [] := by
  unfold F_X8_open_0 at hF
  refine mw_aload_n 0 C dX8_open_0 rfl rfl ?_
  refine mw_iload_n 1 C dX8_open_1 rfl rfl ?_
  refine mw_aload_n 0 C dX8_open_2 rfl rfl ?_
  refine mw_get (k := 1) (T := TX8) (v := iv (h 8 1)) C dX8_open_3 zn8 zk8 (by decide) rfl inX8 (by decide) wd38 rfl rfl ?_
  obtain ⟨g1, hF⟩ := ck_some hF
  obtain ⟨g2, hF⟩ := ck_some hF
  refine mw_mmin C dX8_open_6 wd355 wd356 wd16 wd357 (by decide) (Nat.le_of_ble_eq_true rfl) ⟨Nat.zero_le _, Nat.zero_le _⟩ g1 g2 ?_
  obtain ⟨h3, eh3, hF⟩ := nx_some hF
  refine mw_put (k := 2) (T := TX8) (ty0 := tyX8) (x := (min x1 (h 8 1))) C dX8_open_9 zn8 zk8 (by decide) rfl inX8 tyX8_ok nmX8 (by decide) wd40 rfl rfl rfl rfl rfl (by decide) (mw_h eh3 ?_)
  refine mw_aload_n 0 C dX8_open_12 rfl rfl ?_
  refine mw_iconst C dX8_open_13 ?_
  obtain ⟨h4, eh4, hF⟩ := nx_some hF
  refine mw_put (k := 1) (T := TX8) (ty0 := tyX8) (x := 0) C dX8_open_14 zn8 zk8 (by decide) rfl inX8 tyX8_ok nmX8 (by decide) wd38 rfl rfl rfl rfl rfl (by decide) (mw_h eh4 ?_)
  refine mw_aload_n 0 C dX8_open_17 rfl rfl ?_
  refine mw_iconst C dX8_open_18 ?_
  obtain ⟨h5, eh5, hF⟩ := nx_some hF
  refine mw_put (k := 3) (T := TX8) (ty0 := tyX8) (x := 0) C dX8_open_19 zn8 zk8 (by decide) rfl inX8 tyX8_ok nmX8 (by decide) wd41 rfl rfl rfl rfl rfl (by decide) (mw_h eh5 ?_)
  refine mw_aload_n 0 C dX8_open_22 rfl rfl ?_
  refine mw_iconst C dX8_open_23 ?_
  obtain ⟨h6, eh6, hF⟩ := nx_some hF
  refine mw_put (k := 9) (T := TX8) (ty0 := tyX8) (x := 0) C dX8_open_24 zn8 zk8 (by decide) rfl inX8 tyX8_ok nmX8 (by decide) wd53 rfl rfl rfl rfl rfl (by decide) (mw_h eh6 ?_)
  refine mw_aload_n 0 C dX8_open_27 rfl rfl ?_
  refine mw_iconst C dX8_open_28 ?_
  obtain ⟨h7, eh7, hF⟩ := nx_some hF
  refine mw_put (k := 10) (T := TX8) (ty0 := tyX8) (x := (-1)) C dX8_open_29 zn8 zk8 (by decide) rfl inX8 tyX8_ok nmX8 (by decide) wd55 rfl rfl rfl rfl rfl (by decide) (mw_h eh7 ?_)
  refine mw_aload_n 0 C dX8_open_32 rfl rfl ?_
  obtain ⟨q8, hq8, hF⟩ := bind_some hF
  refine mw_callV (c := 8) [] [] C dX8_open_33 (T_X8_advance (zl Z) (zX Z) _ _ hq8) rfl zn8 zk8 (by decide) rfl wd358 wd359 wd360 wd2 wd361 hd_X8_advance rfl (by decide) (by decide) (Nat.le_of_ble_eq_true rfl) ⟨Nat.zero_le _, Nat.zero_le _⟩ ?_
  cases hF
  exact mw_vret C dX8_open_36 rfl rfl
def F_X8_open (x1 : Int) (h : MH) : Option MH := F_X8_open_0 x1 h
theorem T_X8_open (l : Launch) (X : XT) (x1 : Int) (h : MH) (t : MH) (hF : F_X8_open x1 h = some t) : Ct l X yX8_open cX8_open 2 none 3 [rfv (xd X) 8, iv x1] zN zG h none zN zG t 0 0 := by
  refine Ct.head (by decide) (Nat.le_of_ble_eq_true rfl) (fun Z hX hl _ _ _ C => ?_)
  subst hX
  subst hl
  exact (T_X8_open_0 C x1 _ _ hF)
/-! BottleLine$Tape.is(Ljava/lang/String;)Z -/
def F_X8_is_28 : Nat → Nat → Int → MH → Option (Int × MH)
  | 0, _, _, _ => none
  | n + 1, x1, x2, h =>
    ck (in32 x2) <|
    ck (in32 (slen x1)) <|
    if (slen x1) ≤ x2 then
      some (1, h)
    else
      ck (0 ≤ ((h 8 5) + x2) ∧ ((h 8 5) + x2) < 700) <|
      ck (0 ≤ x2 ∧ x2 < slen x1) <|
      ck (in32 (h 9 ((h 8 5) + x2).toNat)) <|
      ck (in32 (sch x1 x2.toNat)) <|
      if (h 9 ((h 8 5) + x2).toNat) = (sch x1 x2.toNat) then
        F_X8_is_28 n x1 (x2 + 1) h
      else
        some (0, h)
set_option maxRecDepth 100000 in
theorem T_X8_is_28 {Z : ZT} (C : Cx Z cX8_is 3 RX8 6 (some .boolean)) : ∀ (n : Nat) (x1 : Nat) (x2 : Int) (hk_x1 : x1 < 21) (h : MH) (t : (Int × MH)), F_X8_is_28 n x1 x2 h = some t → MW Z (Qm Z (some (iv t.1)) zN zG t.2 0 0) 3 zN zG h 0 0 28 [(0, rfv (xd (zX Z)) 8), (1, .ref (xa (zX Z) x1)), (2, iv x2)] [] := by
  intro n
  induction n with
  | zero =>
    intros
    rename_i hF
    exact absurd hF (by intro q; cases q)
  | succ n ih =>
    intro x1 x2 hk_x1 h t hF
    rw [F_X8_is_28] at hF
    refine mw_iload_n 2 C dX8_is_28 rfl rfl ?_
    refine mw_aload_n 1 C dX8_is_29 rfl rfl ?_
    refine mw_strlen C dX8_is_30 wd375 hk_x1 (by decide) (Nat.le_of_ble_eq_true rfl) ?_
    obtain ⟨g1, hF⟩ := ck_some hF
    obtain ⟨g2, hF⟩ := ck_some hF
    rcases ite_some hF with ⟨c3, hF⟩ | ⟨c3, hF⟩
    · refine mw_icmp_ge_t (tgt := 63) C dX8_is_33 (by decide) g1 g2 c3 ?_
      refine mw_iconst C dX8_is_63 ?_
      cases hF
      exact mw_zret C dX8_is_64 (Or.inr rfl) rfl rfl
    · refine mw_icmp_ge_f (tgt := 63) C dX8_is_33 (by decide) g1 g2 c3 ?_
      refine mw_aload_n 0 C dX8_is_36 rfl rfl ?_
      refine mw_get (k := 0) (T := TX8) (v := rfv (xd (zX Z)) 9) C dX8_is_37 zn8 zk8 (by decide) rfl inX8 (by decide) wd37 rfl (zfv_r rfl zg_8_0) ?_
      refine mw_aload_n 0 C dX8_is_40 rfl rfl ?_
      refine mw_get (k := 5) (T := TX8) (v := iv (h 8 5)) C dX8_is_41 zn8 zk8 (by decide) rfl inX8 (by decide) wd45 rfl rfl ?_
      refine mw_iload_n 2 C dX8_is_44 rfl rfl ?_
      refine mw_iadd C dX8_is_45 ?_
      obtain ⟨g4, hF⟩ := ck_some hF
      refine mw_bald C dX8_is_46 zn9 zk9 (by decide) g4 ?_
      refine mw_aload_n 1 C dX8_is_47 rfl rfl ?_
      refine mw_iload_n 2 C dX8_is_48 rfl rfl ?_
      obtain ⟨g5, hF⟩ := ck_some hF
      refine mw_charAt C dX8_is_49 wd384 hk_x1 g5 (by decide) (Nat.le_of_ble_eq_true rfl) ?_
      obtain ⟨g6, hF⟩ := ck_some hF
      obtain ⟨g7, hF⟩ := ck_some hF
      rcases ite_some hF with ⟨c8, hF⟩ | ⟨c8, hF⟩
      · refine mw_icmp_eq_t (tgt := 57) C dX8_is_52 (by decide) g6 g7 c8 ?_
        refine mw_iinc 2 [(2, iv (x2 + 1)), (0, rfv (xd (zX Z)) 8), (1, .ref (xa (zX Z) x1))] C dX8_is_57 rfl (by decide) rfl ?_
        refine mw_goto (tgt := 28) C dX8_is_60 (by decide) ?_
        refine mw_sub [1, 2, 0] rfl ?_
        exact ih x1 (x2 + 1) hk_x1 _ _ hF
      · refine mw_icmp_eq_f (tgt := 57) C dX8_is_52 (by decide) g6 g7 c8 ?_
        refine mw_iconst C dX8_is_55 ?_
        cases hF
        exact mw_zret C dX8_is_56 (Or.inl rfl) rfl rfl
def F_X8_is_0 (x1 : Nat) (h : MH) : Option (Int × MH) :=
  ck (in32 (h 8 4)) <|
  if (h 8 4) ≠ 1 then
    some (0, h)
  else
    ck (in32 ((h 8 3) - (h 8 5))) <|
    ck (in32 (slen x1)) <|
    if ((h 8 3) - (h 8 5)) = (slen x1) then
      F_X8_is_28 20000 x1 0 h
    else
      some (0, h)
set_option maxRecDepth 100000 in
theorem T_X8_is_0 {Z : ZT} (C : Cx Z cX8_is 3 RX8 6 (some .boolean)) (x1 : Nat) (hk_x1 : x1 < 21) (h : MH) (t : (Int × MH)) (hF : F_X8_is_0 x1 h = some t) : MW Z (Qm Z (some (iv t.1)) zN zG t.2 0 0) 3 zN zG h 0 0 0 [(0, rfv (xd (zX Z)) 8), (1, .ref (xa (zX Z) x1))] [] := by
  unfold F_X8_is_0 at hF
  refine mw_aload_n 0 C dX8_is_0 rfl rfl ?_
  refine mw_get (k := 4) (T := TX8) (v := iv (h 8 4)) C dX8_is_1 zn8 zk8 (by decide) rfl inX8 (by decide) wd42 rfl rfl ?_
  refine mw_iconst C dX8_is_4 ?_
  obtain ⟨g1, hF⟩ := ck_some hF
  rcases ite_some hF with ⟨c2, hF⟩ | ⟨c2, hF⟩
  · refine mw_icmp_ne_t (tgt := 24) C dX8_is_5 (by decide) g1 (by decide) c2 ?_
    refine mw_iconst C dX8_is_24 ?_
    cases hF
    exact mw_zret C dX8_is_25 (Or.inl rfl) rfl rfl
  · refine mw_icmp_ne_f (tgt := 24) C dX8_is_5 (by decide) g1 (by decide) c2 ?_
    refine mw_aload_n 0 C dX8_is_8 rfl rfl ?_
    refine mw_get (k := 3) (T := TX8) (v := iv (h 8 3)) C dX8_is_9 zn8 zk8 (by decide) rfl inX8 (by decide) wd41 rfl rfl ?_
    refine mw_aload_n 0 C dX8_is_12 rfl rfl ?_
    refine mw_get (k := 5) (T := TX8) (v := iv (h 8 5)) C dX8_is_13 zn8 zk8 (by decide) rfl inX8 (by decide) wd45 rfl rfl ?_
    refine mw_isub C dX8_is_16 ?_
    refine mw_aload_n 1 C dX8_is_17 rfl rfl ?_
    refine mw_strlen C dX8_is_18 wd375 hk_x1 (by decide) (Nat.le_of_ble_eq_true rfl) ?_
    obtain ⟨g3, hF⟩ := ck_some hF
    obtain ⟨g4, hF⟩ := ck_some hF
    rcases ite_some hF with ⟨c5, hF⟩ | ⟨c5, hF⟩
    · refine mw_icmp_eq_t (tgt := 26) C dX8_is_21 (by decide) g3 g4 c5 ?_
      refine mw_iconst C dX8_is_26 ?_
      refine mw_istore_n [(2, iv 0), (0, rfv (xd (zX Z)) 8), (1, .ref (xa (zX Z) x1))] C dX8_is_27 rfl (by decide) rfl ?_
      refine mw_sub [1, 2, 0] rfl ?_
      exact T_X8_is_28 C 20000 x1 0 hk_x1 _ _ hF
    · refine mw_icmp_eq_f (tgt := 26) C dX8_is_21 (by decide) g3 g4 c5 ?_
      refine mw_iconst C dX8_is_24 ?_
      cases hF
      exact mw_zret C dX8_is_25 (Or.inl rfl) rfl rfl
def F_X8_is (x1 : Nat) (h : MH) : Option (Int × MH) := F_X8_is_0 x1 h
theorem T_X8_is (l : Launch) (X : XT) (x1 : Nat) (hk_x1 : x1 < 21) (h : MH) (t : (Int × MH)) (hF : F_X8_is x1 h = some t) : Ct l X yX8_is cX8_is 3 (some .boolean) 6 [rfv (xd X) 8, .ref ((xa X) x1)] zN zG h (some (iv t.1)) zN zG t.2 0 0 := by
  refine Ct.head (by decide) (Nat.le_of_ble_eq_true rfl) (fun Z hX hl _ _ _ C => ?_)
  subst hX
  subst hl
  exact (T_X8_is_0 C x1 hk_x1 _ _ hF)
/-! BottleLine$Tape.wrong(I)Z -/
def F_X8_wrong_0 (x1 : Int) (h : MH) : Option (Int × MH) :=
  nx (hup h 8 9 x1) fun h1 =>
  nx (hup h1 8 10 (h1 8 5)) fun h2 =>
  some (0, h2)
set_option maxRecDepth 100000 in
theorem T_X8_wrong_0 {Z : ZT} (C : Cx Z cX8_wrong 2 RX8 1 (some .boolean)) (x1 : Int) (h : MH) (t : (Int × MH)) (hF : F_X8_wrong_0 x1 h = some t) : MW Z (Qm Z (some (iv t.1)) zN zG t.2 0 0) 2 zN zG h 0 0 0 [(0, rfv (xd (zX Z)) 8), (1, iv x1)] [] := by
  unfold F_X8_wrong_0 at hF
  refine mw_aload_n 0 C dX8_wrong_0 rfl rfl ?_
  refine mw_iload_n 1 C dX8_wrong_1 rfl rfl ?_
  obtain ⟨h1, eh1, hF⟩ := nx_some hF
  refine mw_put (k := 9) (T := TX8) (ty0 := tyX8) (x := x1) C dX8_wrong_2 zn8 zk8 (by decide) rfl inX8 tyX8_ok nmX8 (by decide) wd53 rfl rfl rfl rfl rfl (by decide) (mw_h eh1 ?_)
  refine mw_aload_n 0 C dX8_wrong_5 rfl rfl ?_
  refine mw_aload_n 0 C dX8_wrong_6 rfl rfl ?_
  refine mw_get (k := 5) (T := TX8) (v := iv (h1 8 5)) C dX8_wrong_7 zn8 zk8 (by decide) rfl inX8 (by decide) wd45 rfl rfl ?_
  obtain ⟨h2, eh2, hF⟩ := nx_some hF
  refine mw_put (k := 10) (T := TX8) (ty0 := tyX8) (x := (h1 8 5)) C dX8_wrong_10 zn8 zk8 (by decide) rfl inX8 tyX8_ok nmX8 (by decide) wd55 rfl rfl rfl rfl rfl (by decide) (mw_h eh2 ?_)
  refine mw_iconst C dX8_wrong_13 ?_
  cases hF
  exact mw_zret C dX8_wrong_14 (Or.inl rfl) rfl rfl
def F_X8_wrong (x1 : Int) (h : MH) : Option (Int × MH) := F_X8_wrong_0 x1 h
theorem T_X8_wrong (l : Launch) (X : XT) (x1 : Int) (h : MH) (t : (Int × MH)) (hF : F_X8_wrong x1 h = some t) : Ct l X yX8_wrong cX8_wrong 2 (some .boolean) 1 [rfv (xd X) 8, iv x1] zN zG h (some (iv t.1)) zN zG t.2 0 0 := by
  refine Ct.head (by decide) (Nat.le_of_ble_eq_true rfl) (fun Z hX hl _ _ _ C => ?_)
  subst hX
  subst hl
  exact (T_X8_wrong_0 C x1 _ _ hF)
/-! BottleLine$Tape.isShortWord()Z -/
def F_X8_isShortWord_0 (h : MH) : Option (Int × MH) :=
  ck (in32 (h 8 4)) <|
  if (h 8 4) ≠ 1 then
    some (0, h)
  else
    ck (in32 ((h 8 3) - (h 8 5))) <|
    if 8 < ((h 8 3) - (h 8 5)) then
      some (0, h)
    else
      some (1, h)
set_option maxRecDepth 100000 in
theorem T_X8_isShortWord_0 {Z : ZT} (C : Cx Z cX8_isShortWord 1 RX8 1 (some .boolean)) (h : MH) (t : (Int × MH)) (hF : F_X8_isShortWord_0 h = some t) : MW Z (Qm Z (some (iv t.1)) zN zG t.2 0 0) 1 zN zG h 0 0 0 [(0, rfv (xd (zX Z)) 8)] [] := by
  unfold F_X8_isShortWord_0 at hF
  refine mw_aload_n 0 C dX8_isShortWord_0 rfl rfl ?_
  refine mw_get (k := 4) (T := TX8) (v := iv (h 8 4)) C dX8_isShortWord_1 zn8 zk8 (by decide) rfl inX8 (by decide) wd42 rfl rfl ?_
  refine mw_iconst C dX8_isShortWord_4 ?_
  obtain ⟨g1, hF⟩ := ck_some hF
  rcases ite_some hF with ⟨c2, hF⟩ | ⟨c2, hF⟩
  · refine mw_icmp_ne_t (tgt := 26) C dX8_isShortWord_5 (by decide) g1 (by decide) c2 ?_
    refine mw_iconst C dX8_isShortWord_26 ?_
    cases hF
    exact mw_zret C dX8_isShortWord_27 (Or.inl rfl) rfl rfl
  · refine mw_icmp_ne_f (tgt := 26) C dX8_isShortWord_5 (by decide) g1 (by decide) c2 ?_
    refine mw_aload_n 0 C dX8_isShortWord_8 rfl rfl ?_
    refine mw_get (k := 3) (T := TX8) (v := iv (h 8 3)) C dX8_isShortWord_9 zn8 zk8 (by decide) rfl inX8 (by decide) wd41 rfl rfl ?_
    refine mw_aload_n 0 C dX8_isShortWord_12 rfl rfl ?_
    refine mw_get (k := 5) (T := TX8) (v := iv (h 8 5)) C dX8_isShortWord_13 zn8 zk8 (by decide) rfl inX8 (by decide) wd45 rfl rfl ?_
    refine mw_isub C dX8_isShortWord_16 ?_
    refine mw_bipush C dX8_isShortWord_17 bp_8 ?_
    obtain ⟨g3, hF⟩ := ck_some hF
    rcases ite_some hF with ⟨c4, hF⟩ | ⟨c4, hF⟩
    · refine mw_icmp_gt_t (tgt := 26) C dX8_isShortWord_19 (by decide) g3 (by decide) c4 ?_
      refine mw_iconst C dX8_isShortWord_26 ?_
      cases hF
      exact mw_zret C dX8_isShortWord_27 (Or.inl rfl) rfl rfl
    · refine mw_icmp_gt_f (tgt := 26) C dX8_isShortWord_19 (by decide) g3 (by decide) c4 ?_
      refine mw_iconst C dX8_isShortWord_22 ?_
      refine mw_goto (tgt := 27) C dX8_isShortWord_23 (by decide) ?_
      cases hF
      exact mw_zret C dX8_isShortWord_27 (Or.inr rfl) rfl rfl
def F_X8_isShortWord (h : MH) : Option (Int × MH) := F_X8_isShortWord_0 h
theorem T_X8_isShortWord (l : Launch) (X : XT) (h : MH) (t : (Int × MH)) (hF : F_X8_isShortWord h = some t) : Ct l X yX8_isShortWord cX8_isShortWord 1 (some .boolean) 1 [rfv (xd X) 8] zN zG h (some (iv t.1)) zN zG t.2 0 0 := by
  refine Ct.head (by decide) (Nat.le_of_ble_eq_true rfl) (fun Z hX hl _ _ _ C => ?_)
  subst hX
  subst hl
  exact (T_X8_isShortWord_0 C _ _ hF)
/-! BottleLine$Tape.misplaced()Z -/
def F_X8_misplaced_14 (s1 : Int) (h : MH) : Option (Int × MH) :=
  (F_X8_wrong s1 h).bind fun q1 =>
  ck (q1.1 = 0 ∨ q1.1 = 1) <|
  some (q1.1, q1.2)
set_option maxRecDepth 100000 in
theorem T_X8_misplaced_14 {Z : ZT} (C : Cx Z cX8_misplaced 1 RX8 2 (some .boolean)) (s1 : Int) (h : MH) (t : (Int × MH)) (hF : F_X8_misplaced_14 s1 h = some t) : MW Z (Qm Z (some (iv t.1)) zN zG t.2 0 0) 1 zN zG h 0 0 14 [] [iv s1, rfv (xd (zX Z)) 8] := by
  unfold F_X8_misplaced_14 at hF
  obtain ⟨q1, hq1, hF⟩ := bind_some hF
  refine mw_callV (c := 8) [iv s1] [] C dX8_misplaced_14 (T_X8_wrong (zl Z) (zX Z) s1 _ _ hq1) rfl zn8 zk8 (by decide) rfl wd437 wd422 wd423 wd2 wd424 hd_X8_wrong rfl (by decide) (by decide) (Nat.le_of_ble_eq_true rfl) ⟨Nat.zero_le _, Nat.zero_le _⟩ ?_
  obtain ⟨g2, hF⟩ := ck_some hF
  cases hF
  exact mw_zret C dX8_misplaced_17 g2 rfl rfl
def F_X8_misplaced_0 (h : MH) : Option (Int × MH) :=
  ck (in32 (h 8 4)) <|
  if (h 8 4) ≠ 4 then
    F_X8_misplaced_14 2 h
  else
    F_X8_misplaced_14 1 h
set_option maxRecDepth 100000 in
theorem T_X8_misplaced_0 {Z : ZT} (C : Cx Z cX8_misplaced 1 RX8 2 (some .boolean)) (h : MH) (t : (Int × MH)) (hF : F_X8_misplaced_0 h = some t) : MW Z (Qm Z (some (iv t.1)) zN zG t.2 0 0) 1 zN zG h 0 0 0 [(0, rfv (xd (zX Z)) 8)] [] := by
  unfold F_X8_misplaced_0 at hF
  refine mw_aload_n 0 C dX8_misplaced_0 rfl rfl ?_
  refine mw_aload_n 0 C dX8_misplaced_1 rfl rfl ?_
  refine mw_get (k := 4) (T := TX8) (v := iv (h 8 4)) C dX8_misplaced_2 zn8 zk8 (by decide) rfl inX8 (by decide) wd42 rfl rfl ?_
  refine mw_iconst C dX8_misplaced_5 ?_
  obtain ⟨g1, hF⟩ := ck_some hF
  rcases ite_some hF with ⟨c2, hF⟩ | ⟨c2, hF⟩
  · refine mw_icmp_ne_t (tgt := 13) C dX8_misplaced_6 (by decide) g1 (by decide) c2 ?_
    refine mw_iconst C dX8_misplaced_13 ?_
    refine mw_sub [] rfl ?_
    exact T_X8_misplaced_14 C 2 _ _ hF
  · refine mw_icmp_ne_f (tgt := 13) C dX8_misplaced_6 (by decide) g1 (by decide) c2 ?_
    refine mw_iconst C dX8_misplaced_9 ?_
    refine mw_goto (tgt := 14) C dX8_misplaced_10 (by decide) ?_
    refine mw_sub [] rfl ?_
    exact T_X8_misplaced_14 C 1 _ _ hF
def F_X8_misplaced (h : MH) : Option (Int × MH) := F_X8_misplaced_0 h
theorem T_X8_misplaced (l : Launch) (X : XT) (h : MH) (t : (Int × MH)) (hF : F_X8_misplaced h = some t) : Ct l X yX8_misplaced cX8_misplaced 1 (some .boolean) 2 [rfv (xd X) 8] zN zG h (some (iv t.1)) zN zG t.2 0 0 := by
  refine Ct.head (by decide) (Nat.le_of_ble_eq_true rfl) (fun Z hX hl _ _ _ C => ?_)
  subst hX
  subst hl
  exact (T_X8_misplaced_0 C _ _ hF)
/-! BottleLine$Tape.takeWord(Ljava/lang/String;)Z -/
def F_X8_takeWord_0 (x1 : Nat) (h : MH) : Option (Int × MH) :=
  (F_X8_is x1 h).bind fun q1 =>
  ck (in32 q1.1) <|
  if q1.1 ≠ 0 then
    (F_X8_advance q1.2).bind fun q4 =>
    some (1, q4)
  else
    (F_X8_misplaced q1.2).bind fun q5 =>
    ck (q5.1 = 0 ∨ q5.1 = 1) <|
    some (q5.1, q5.2)
set_option maxRecDepth 100000 in
theorem T_X8_takeWord_0 {Z : ZT} (C : Cx Z cX8_takeWord 2 RX8 7 (some .boolean)) (x1 : Nat) (hk_x1 : x1 < 21) (h : MH) (t : (Int × MH)) (hF : F_X8_takeWord_0 x1 h = some t) : MW Z (Qm Z (some (iv t.1)) zN zG t.2 0 0) 2 zN zG h 0 0 0 [(0, rfv (xd (zX Z)) 8), (1, .ref (xa (zX Z) x1))] [] := by
  unfold F_X8_takeWord_0 at hF
  refine mw_aload_n 0 C dX8_takeWord_0 rfl rfl ?_
  refine mw_aload_n 1 C dX8_takeWord_1 rfl rfl ?_
  obtain ⟨q1, hq1, hF⟩ := bind_some hF
  refine mw_callV (c := 8) [.ref (xa (zX Z) x1)] [] C dX8_takeWord_2 (T_X8_is (zl Z) (zX Z) x1 hk_x1 _ _ hq1) rfl zn8 zk8 (by decide) rfl wd449 wd372 wd373 wd2 wd374 hd_X8_is rfl (by decide) (by decide) (Nat.le_of_ble_eq_true rfl) ⟨Nat.zero_le _, Nat.zero_le _⟩ ?_
  obtain ⟨g2, hF⟩ := ck_some hF
  rcases ite_some hF with ⟨c3, hF⟩ | ⟨c3, hF⟩
  · refine mw_if_ne_t (tgt := 13) C dX8_takeWord_5 (by decide) g2 c3 ?_
    refine mw_aload_n 0 C dX8_takeWord_13 rfl rfl ?_
    obtain ⟨q4, hq4, hF⟩ := bind_some hF
    refine mw_callV (c := 8) [] [] C dX8_takeWord_14 (T_X8_advance (zl Z) (zX Z) _ _ hq4) rfl zn8 zk8 (by decide) rfl wd358 wd359 wd360 wd2 wd361 hd_X8_advance rfl (by decide) (by decide) (Nat.le_of_ble_eq_true rfl) ⟨Nat.zero_le _, Nat.zero_le _⟩ ?_
    refine mw_iconst C dX8_takeWord_17 ?_
    cases hF
    exact mw_zret C dX8_takeWord_18 (Or.inr rfl) rfl rfl
  · refine mw_if_ne_f (tgt := 13) C dX8_takeWord_5 (by decide) g2 c3 ?_
    refine mw_aload_n 0 C dX8_takeWord_8 rfl rfl ?_
    obtain ⟨q5, hq5, hF⟩ := bind_some hF
    refine mw_callV (c := 8) [] [] C dX8_takeWord_9 (T_X8_misplaced (zl Z) (zX Z) _ _ hq5) rfl zn8 zk8 (by decide) rfl wd450 wd434 wd435 wd2 wd436 hd_X8_misplaced rfl (by decide) (by decide) (Nat.le_of_ble_eq_true rfl) ⟨Nat.zero_le _, Nat.zero_le _⟩ ?_
    obtain ⟨g6, hF⟩ := ck_some hF
    cases hF
    exact mw_zret C dX8_takeWord_12 g6 rfl rfl
def F_X8_takeWord (x1 : Nat) (h : MH) : Option (Int × MH) := F_X8_takeWord_0 x1 h
theorem T_X8_takeWord (l : Launch) (X : XT) (x1 : Nat) (hk_x1 : x1 < 21) (h : MH) (t : (Int × MH)) (hF : F_X8_takeWord x1 h = some t) : Ct l X yX8_takeWord cX8_takeWord 2 (some .boolean) 7 [rfv (xd X) 8, .ref ((xa X) x1)] zN zG h (some (iv t.1)) zN zG t.2 0 0 := by
  refine Ct.head (by decide) (Nat.le_of_ble_eq_true rfl) (fun Z hX hl _ _ _ C => ?_)
  subst hX
  subst hl
  exact (T_X8_takeWord_0 C x1 hk_x1 _ _ hF)
/-! BottleLine.outside(JJJ)Z -/
def F_X11_outside_0 (x0 : Int) (x2 : Int) (x4 : Int) (h : MH) : Option (Int × MH) :=
  ck (in64 x0) <|
  ck (in64 x2) <|
  if x0 < x2 then
    some (1, h)
  else
    ck (in64 x4) <|
    if x0 ≤ x4 then
      some (0, h)
    else
      some (1, h)
set_option maxRecDepth 100000 in
theorem T_X11_outside_0 {Z : ZT} (C : Cx Z cX11_outside 6 RX11 1 (some .boolean)) (x0 : Int) (x2 : Int) (x4 : Int) (h : MH) (t : (Int × MH)) (hF : F_X11_outside_0 x0 x2 x4 h = some t) : MW Z (Qm Z (some (iv t.1)) zN zG t.2 0 0) 6 zN zG h 0 0 0 [(0, lvv x0), (2, lvv x2), (4, lvv x4)] [] := by
  unfold F_X11_outside_0 at hF
  refine mw_lload_n 0 C dX11_outside_0 rfl rfl ?_
  refine mw_lload_n 1 C dX11_outside_1 rfl rfl ?_
  obtain ⟨g1, hF⟩ := ck_some hF
  obtain ⟨g2, hF⟩ := ck_some hF
  rcases ite_some hF with ⟨c3, hF⟩ | ⟨c3, hF⟩
  · refine mw_lcmp_lt_t (tgt := 13) C dX11_outside_2 dX11_outside_3 (by decide) g1 g2 c3 ?_
    refine mw_iconst C dX11_outside_13 ?_
    refine mw_goto (tgt := 18) C dX11_outside_14 (by decide) ?_
    cases hF
    exact mw_zret C dX11_outside_18 (Or.inr rfl) rfl rfl
  · refine mw_lcmp_lt_f (tgt := 13) C dX11_outside_2 dX11_outside_3 (by decide) g1 g2 c3 ?_
    refine mw_lload_n 0 C dX11_outside_6 rfl rfl ?_
    refine mw_lload 2 C dX11_outside_7 rfl ?_
    obtain ⟨g4, hF⟩ := ck_some hF
    rcases ite_some hF with ⟨c5, hF⟩ | ⟨c5, hF⟩
    · refine mw_lcmp_le_t (tgt := 17) C dX11_outside_9 dX11_outside_10 (by decide) g1 g4 c5 ?_
      refine mw_iconst C dX11_outside_17 ?_
      cases hF
      exact mw_zret C dX11_outside_18 (Or.inl rfl) rfl rfl
    · refine mw_lcmp_le_f (tgt := 17) C dX11_outside_9 dX11_outside_10 (by decide) g1 g4 c5 ?_
      refine mw_iconst C dX11_outside_13 ?_
      refine mw_goto (tgt := 18) C dX11_outside_14 (by decide) ?_
      cases hF
      exact mw_zret C dX11_outside_18 (Or.inr rfl) rfl rfl
def F_X11_outside (x0 : Int) (x2 : Int) (x4 : Int) (h : MH) : Option (Int × MH) := F_X11_outside_0 x0 x2 x4 h
theorem T_X11_outside (l : Launch) (X : XT) (x0 : Int) (x2 : Int) (x4 : Int) (h : MH) (t : (Int × MH)) (hF : F_X11_outside x0 x2 x4 h = some t) : Ct l X yX11_outside cX11_outside 6 (some .boolean) 1 [lvv x0, lvv x2, lvv x4] zN zG h (some (iv t.1)) zN zG t.2 0 0 := by
  refine Ct.head (by decide) (Nat.le_of_ble_eq_true rfl) (fun Z hX hl _ _ _ C => ?_)
  subst hX
  subst hl
  exact (T_X11_outside_0 C x0 x2 x4 _ _ hF)
/-! BottleLine$Tape.takeNumber(II)Z -/
def F_X8_takeNumber_0 (x1 : Int) (x2 : Int) (h : MH) : Option (Int × MH) :=
  ck (in32 (h 8 4)) <|
  if (h 8 4) = 2 then
    ck (in32 (h 8 7)) <|
    ck (in32 x1) <|
    ck (in32 x2) <|
    (F_X11_outside (h 8 7) x1 x2 h).bind fun q6 =>
    ck (in32 q6.1) <|
    if q6.1 = 0 then
      nx (hup q6.2 8 8 (q6.2 8 7)) fun h9 =>
      (F_X8_advance h9).bind fun q10 =>
      some (1, q10)
    else
      (F_X8_wrong 4 q6.2).bind fun q11 =>
      ck (q11.1 = 0 ∨ q11.1 = 1) <|
      some (q11.1, q11.2)
  else
    (F_X8_misplaced h).bind fun q13 =>
    ck (q13.1 = 0 ∨ q13.1 = 1) <|
    some (q13.1, q13.2)
set_option maxRecDepth 100000 in
theorem T_X8_takeNumber_0 {Z : ZT} (C : Cx Z cX8_takeNumber 3 RX8 3 (some .boolean)) (x1 : Int) (x2 : Int) (h : MH) (t : (Int × MH)) (hF : F_X8_takeNumber_0 x1 x2 h = some t) : MW Z (Qm Z (some (iv t.1)) zN zG t.2 0 0) 3 zN zG h 0 0 0 [(0, rfv (xd (zX Z)) 8), (1, iv x1), (2, iv x2)] [] := by
  unfold F_X8_takeNumber_0 at hF
  refine mw_aload_n 0 C dX8_takeNumber_0 rfl rfl ?_
  refine mw_get (k := 4) (T := TX8) (v := iv (h 8 4)) C dX8_takeNumber_1 zn8 zk8 (by decide) rfl inX8 (by decide) wd42 rfl rfl ?_
  refine mw_iconst C dX8_takeNumber_4 ?_
  obtain ⟨g1, hF⟩ := ck_some hF
  rcases ite_some hF with ⟨c2, hF⟩ | ⟨c2, hF⟩
  · refine mw_icmp_eq_t (tgt := 13) C dX8_takeNumber_5 (by decide) g1 (by decide) c2 ?_
    refine mw_aload_n 0 C dX8_takeNumber_13 rfl rfl ?_
    refine mw_get (k := 7) (T := TX8) (v := iv (h 8 7)) C dX8_takeNumber_14 zn8 zk8 (by decide) rfl inX8 (by decide) wd49 rfl rfl ?_
    obtain ⟨g3, hF⟩ := ck_some hF
    refine mw_i2l C dX8_takeNumber_17 g3 ?_
    refine mw_iload_n 1 C dX8_takeNumber_18 rfl rfl ?_
    obtain ⟨g4, hF⟩ := ck_some hF
    refine mw_i2l C dX8_takeNumber_19 g4 ?_
    refine mw_iload_n 2 C dX8_takeNumber_20 rfl rfl ?_
    obtain ⟨g5, hF⟩ := ck_some hF
    refine mw_i2l C dX8_takeNumber_21 g5 ?_
    obtain ⟨q6, hq6, hF⟩ := bind_some hF
    refine mw_callSN [lvv (h 8 7), lvv x1, lvv x2] [] C dX8_takeNumber_22 (T_X11_outside (zl Z) (zX Z) (h 8 7) x1 x2 _ _ hq6) rfl zNest_o wd289 wd1 wd290 hd_X11_outside rfl (by decide) (by decide) (Nat.le_of_ble_eq_true rfl) ⟨Nat.zero_le _, Nat.zero_le _⟩ ?_
    obtain ⟨g7, hF⟩ := ck_some hF
    rcases ite_some hF with ⟨c8, hF⟩ | ⟨c8, hF⟩
    · refine mw_if_eq_t (tgt := 34) C dX8_takeNumber_25 (by decide) g7 c8 ?_
      refine mw_aload_n 0 C dX8_takeNumber_34 rfl rfl ?_
      refine mw_aload_n 0 C dX8_takeNumber_35 rfl rfl ?_
      refine mw_get (k := 7) (T := TX8) (v := iv (q6.2 8 7)) C dX8_takeNumber_36 zn8 zk8 (by decide) rfl inX8 (by decide) wd49 rfl rfl ?_
      obtain ⟨h9, eh9, hF⟩ := nx_some hF
      refine mw_put (k := 8) (T := TX8) (ty0 := tyX8) (x := (q6.2 8 7)) C dX8_takeNumber_39 zn8 zk8 (by decide) rfl inX8 tyX8_ok nmX8 (by decide) wd50 rfl rfl rfl rfl rfl (by decide) (mw_h eh9 ?_)
      refine mw_aload_n 0 C dX8_takeNumber_42 rfl rfl ?_
      obtain ⟨q10, hq10, hF⟩ := bind_some hF
      refine mw_callV (c := 8) [] [] C dX8_takeNumber_43 (T_X8_advance (zl Z) (zX Z) _ _ hq10) rfl zn8 zk8 (by decide) rfl wd358 wd359 wd360 wd2 wd361 hd_X8_advance rfl (by decide) (by decide) (Nat.le_of_ble_eq_true rfl) ⟨Nat.zero_le _, Nat.zero_le _⟩ ?_
      refine mw_iconst C dX8_takeNumber_46 ?_
      cases hF
      exact mw_zret C dX8_takeNumber_47 (Or.inr rfl) rfl rfl
    · refine mw_if_eq_f (tgt := 34) C dX8_takeNumber_25 (by decide) g7 c8 ?_
      refine mw_aload_n 0 C dX8_takeNumber_28 rfl rfl ?_
      refine mw_iconst C dX8_takeNumber_29 ?_
      obtain ⟨q11, hq11, hF⟩ := bind_some hF
      refine mw_callV (c := 8) [iv 4] [] C dX8_takeNumber_30 (T_X8_wrong (zl Z) (zX Z) 4 _ _ hq11) rfl zn8 zk8 (by decide) rfl wd437 wd422 wd423 wd2 wd424 hd_X8_wrong rfl (by decide) (by decide) (Nat.le_of_ble_eq_true rfl) ⟨Nat.zero_le _, Nat.zero_le _⟩ ?_
      obtain ⟨g12, hF⟩ := ck_some hF
      cases hF
      exact mw_zret C dX8_takeNumber_33 g12 rfl rfl
  · refine mw_icmp_eq_f (tgt := 13) C dX8_takeNumber_5 (by decide) g1 (by decide) c2 ?_
    refine mw_aload_n 0 C dX8_takeNumber_8 rfl rfl ?_
    obtain ⟨q13, hq13, hF⟩ := bind_some hF
    refine mw_callV (c := 8) [] [] C dX8_takeNumber_9 (T_X8_misplaced (zl Z) (zX Z) _ _ hq13) rfl zn8 zk8 (by decide) rfl wd450 wd434 wd435 wd2 wd436 hd_X8_misplaced rfl (by decide) (by decide) (Nat.le_of_ble_eq_true rfl) ⟨Nat.zero_le _, Nat.zero_le _⟩ ?_
    obtain ⟨g14, hF⟩ := ck_some hF
    cases hF
    exact mw_zret C dX8_takeNumber_12 g14 rfl rfl
def F_X8_takeNumber (x1 : Int) (x2 : Int) (h : MH) : Option (Int × MH) := F_X8_takeNumber_0 x1 x2 h
theorem T_X8_takeNumber (l : Launch) (X : XT) (x1 : Int) (x2 : Int) (h : MH) (t : (Int × MH)) (hF : F_X8_takeNumber x1 x2 h = some t) : Ct l X yX8_takeNumber cX8_takeNumber 3 (some .boolean) 3 [rfv (xd X) 8, iv x1, iv x2] zN zG h (some (iv t.1)) zN zG t.2 0 0 := by
  refine Ct.head (by decide) (Nat.le_of_ble_eq_true rfl) (fun Z hX hl _ _ _ C => ?_)
  subst hX
  subst hl
  exact (T_X8_takeNumber_0 C x1 x2 _ _ hF)
/-! BottleLine$Tape.takeSign()Z -/
def F_X8_takeSign_0 (h : MH) : Option (Int × MH) :=
  ck (in32 (h 8 4)) <|
  if (h 8 4) = 3 then
    (F_X8_advance h).bind fun q3 =>
    some (1, q3)
  else
    (F_X8_misplaced h).bind fun q4 =>
    ck (q4.1 = 0 ∨ q4.1 = 1) <|
    some (q4.1, q4.2)
set_option maxRecDepth 100000 in
theorem T_X8_takeSign_0 {Z : ZT} (C : Cx Z cX8_takeSign 1 RX8 3 (some .boolean)) (h : MH) (t : (Int × MH)) (hF : F_X8_takeSign_0 h = some t) : MW Z (Qm Z (some (iv t.1)) zN zG t.2 0 0) 1 zN zG h 0 0 0 [(0, rfv (xd (zX Z)) 8)] [] := by
  unfold F_X8_takeSign_0 at hF
  refine mw_aload_n 0 C dX8_takeSign_0 rfl rfl ?_
  refine mw_get (k := 4) (T := TX8) (v := iv (h 8 4)) C dX8_takeSign_1 zn8 zk8 (by decide) rfl inX8 (by decide) wd42 rfl rfl ?_
  refine mw_iconst C dX8_takeSign_4 ?_
  obtain ⟨g1, hF⟩ := ck_some hF
  rcases ite_some hF with ⟨c2, hF⟩ | ⟨c2, hF⟩
  · refine mw_icmp_eq_t (tgt := 13) C dX8_takeSign_5 (by decide) g1 (by decide) c2 ?_
    refine mw_aload_n 0 C dX8_takeSign_13 rfl rfl ?_
    obtain ⟨q3, hq3, hF⟩ := bind_some hF
    refine mw_callV (c := 8) [] [] C dX8_takeSign_14 (T_X8_advance (zl Z) (zX Z) _ _ hq3) rfl zn8 zk8 (by decide) rfl wd358 wd359 wd360 wd2 wd361 hd_X8_advance rfl (by decide) (by decide) (Nat.le_of_ble_eq_true rfl) ⟨Nat.zero_le _, Nat.zero_le _⟩ ?_
    refine mw_iconst C dX8_takeSign_17 ?_
    cases hF
    exact mw_zret C dX8_takeSign_18 (Or.inr rfl) rfl rfl
  · refine mw_icmp_eq_f (tgt := 13) C dX8_takeSign_5 (by decide) g1 (by decide) c2 ?_
    refine mw_aload_n 0 C dX8_takeSign_8 rfl rfl ?_
    obtain ⟨q4, hq4, hF⟩ := bind_some hF
    refine mw_callV (c := 8) [] [] C dX8_takeSign_9 (T_X8_misplaced (zl Z) (zX Z) _ _ hq4) rfl zn8 zk8 (by decide) rfl wd450 wd434 wd435 wd2 wd436 hd_X8_misplaced rfl (by decide) (by decide) (Nat.le_of_ble_eq_true rfl) ⟨Nat.zero_le _, Nat.zero_le _⟩ ?_
    obtain ⟨g5, hF⟩ := ck_some hF
    cases hF
    exact mw_zret C dX8_takeSign_12 g5 rfl rfl
def F_X8_takeSign (h : MH) : Option (Int × MH) := F_X8_takeSign_0 h
theorem T_X8_takeSign (l : Launch) (X : XT) (h : MH) (t : (Int × MH)) (hF : F_X8_takeSign h = some t) : Ct l X yX8_takeSign cX8_takeSign 1 (some .boolean) 3 [rfv (xd X) 8] zN zG h (some (iv t.1)) zN zG t.2 0 0 := by
  refine Ct.head (by decide) (Nat.le_of_ble_eq_true rfl) (fun Z hX hl _ _ _ C => ?_)
  subst hX
  subst hl
  exact (T_X8_takeSign_0 C _ _ hF)
/-! BottleLine$Tape.lay(I)V -/
def F_X8_lay_40 (k3 : Int → Int → MH → Option MH) (x1 : Int) (x2 : Int) (h : MH) : Option MH :=
  k3 x1 (x2 + (-8)) h
set_option maxRecDepth 100000 in
theorem T_X8_lay_40 {Z : ZT} (C : Cx Z cX8_lay 3 RX8 1 none) (k3 : Int → Int → MH → Option MH) (hk3 : ∀ (x1 : Int) (x2 : Int) (h : MH) (t : MH), k3 x1 x2 h = some t → MW Z (Qm Z none zN zG t 0 0) 3 zN zG h 0 0 3 [(0, rfv (xd (zX Z)) 8), (1, iv x1), (2, iv x2)] []) (x1 : Int) (x2 : Int) (h : MH) (t : MH) (hF : F_X8_lay_40 k3 x1 x2 h = some t) : MW Z (Qm Z none zN zG t 0 0) 3 zN zG h 0 0 40 [(0, rfv (xd (zX Z)) 8), (1, iv x1), (2, iv x2)] [] := by
  unfold F_X8_lay_40 at hF
  refine mw_iinc 2 [(2, iv (x2 + (-8))), (0, rfv (xd (zX Z)) 8), (1, iv x1)] C dX8_lay_40 rfl (by decide) rfl ?_
  refine mw_goto (tgt := 3) C dX8_lay_43 (by decide) ?_
  refine mw_sub [1, 2, 0] rfl ?_
  exact hk3 x1 (x2 + (-8)) _ _ hF
def F_X8_lay_3 : Nat → Int → Int → MH → Option MH
  | 0, _, _, _ => none
  | n + 1, x1, x2, h =>
    ck (in32 x2) <|
    if x2 < 0 then
      some h
    else
      ck (in32 (h 8 1)) <|
      if 700 ≤ (h 8 1) then
        F_X8_lay_40 (F_X8_lay_3 n) x1 x2 h
      else
        ck (0 ≤ (h 8 1) ∧ (h 8 1) < 700) <|
        nx (hup h 9 (h 8 1).toNat (w8 (w8 (shr32 x1 x2)))) fun h6 =>
        nx (hup h6 8 1 ((h6 8 1) + 1)) fun h7 =>
        F_X8_lay_40 (F_X8_lay_3 n) x1 x2 h7
set_option maxRecDepth 100000 in
theorem T_X8_lay_3 {Z : ZT} (C : Cx Z cX8_lay 3 RX8 1 none) : ∀ (n : Nat) (x1 : Int) (x2 : Int) (h : MH) (t : MH), F_X8_lay_3 n x1 x2 h = some t → MW Z (Qm Z none zN zG t 0 0) 3 zN zG h 0 0 3 [(0, rfv (xd (zX Z)) 8), (1, iv x1), (2, iv x2)] [] := by
  intro n
  induction n with
  | zero =>
    intros
    rename_i hF
    exact absurd hF (by intro q; cases q)
  | succ n ih =>
    intro x1 x2 h t hF
    rw [F_X8_lay_3] at hF
    refine mw_iload_n 2 C dX8_lay_3 rfl rfl ?_
    obtain ⟨g1, hF⟩ := ck_some hF
    rcases ite_some hF with ⟨c2, hF⟩ | ⟨c2, hF⟩
    · refine mw_if_lt_t (tgt := 46) C dX8_lay_4 (by decide) g1 c2 ?_
      cases hF
      exact mw_vret C dX8_lay_46 rfl rfl
    · refine mw_if_lt_f (tgt := 46) C dX8_lay_4 (by decide) g1 c2 ?_
      refine mw_aload_n 0 C dX8_lay_7 rfl rfl ?_
      refine mw_get (k := 1) (T := TX8) (v := iv (h 8 1)) C dX8_lay_8 zn8 zk8 (by decide) rfl inX8 (by decide) wd38 rfl rfl ?_
      refine mw_sipush C dX8_lay_11 sp_700 ?_
      obtain ⟨g3, hF⟩ := ck_some hF
      rcases ite_some hF with ⟨c4, hF⟩ | ⟨c4, hF⟩
      · refine mw_icmp_ge_t (tgt := 40) C dX8_lay_14 (by decide) g3 (by decide) c4 ?_
        exact T_X8_lay_40 C (F_X8_lay_3 n) ih x1 x2 _ _ hF
      · refine mw_icmp_ge_f (tgt := 40) C dX8_lay_14 (by decide) g3 (by decide) c4 ?_
        refine mw_aload_n 0 C dX8_lay_17 rfl rfl ?_
        refine mw_get (k := 0) (T := TX8) (v := rfv (xd (zX Z)) 9) C dX8_lay_18 zn8 zk8 (by decide) rfl inX8 (by decide) wd37 rfl (zfv_r rfl zg_8_0) ?_
        refine mw_aload_n 0 C dX8_lay_21 rfl rfl ?_
        refine mw_get (k := 1) (T := TX8) (v := iv (h 8 1)) C dX8_lay_22 zn8 zk8 (by decide) rfl inX8 (by decide) wd38 rfl rfl ?_
        refine mw_iload_n 1 C dX8_lay_25 rfl rfl ?_
        refine mw_iload_n 2 C dX8_lay_26 rfl rfl ?_
        refine mw_ishr C dX8_lay_27 ?_
        refine mw_i2b C dX8_lay_28 ?_
        obtain ⟨g5, hF⟩ := ck_some hF
        obtain ⟨h6, eh6, hF⟩ := nx_some hF
        refine mw_bast C dX8_lay_29 zn9 zk9 (by decide) g5 (mw_h eh6 ?_)
        refine mw_aload_n 0 C dX8_lay_30 rfl rfl ?_
        refine mw_dup C dX8_lay_31 rfl ?_
        refine mw_get (k := 1) (T := TX8) (v := iv (h6 8 1)) C dX8_lay_32 zn8 zk8 (by decide) rfl inX8 (by decide) wd38 rfl rfl ?_
        refine mw_iconst C dX8_lay_35 ?_
        refine mw_iadd C dX8_lay_36 ?_
        obtain ⟨h7, eh7, hF⟩ := nx_some hF
        refine mw_put (k := 1) (T := TX8) (ty0 := tyX8) (x := ((h6 8 1) + 1)) C dX8_lay_37 zn8 zk8 (by decide) rfl inX8 tyX8_ok nmX8 (by decide) wd38 rfl rfl rfl rfl rfl (by decide) (mw_h eh7 ?_)
        exact T_X8_lay_40 C (F_X8_lay_3 n) ih x1 x2 _ _ hF
def F_X8_lay_0 (x1 : Int) (h : MH) : Option MH :=
  F_X8_lay_3 20000 x1 24 h
set_option maxRecDepth 100000 in
theorem T_X8_lay_0 {Z : ZT} (C : Cx Z cX8_lay 3 RX8 1 none) (x1 : Int) (h : MH) (t : MH) (hF : F_X8_lay_0 x1 h = some t) : MW Z (Qm Z none zN zG t 0 0) 3 zN zG h 0 0 0 [(0, rfv (xd (zX Z)) 8), (1, iv x1)] [] := by
  unfold F_X8_lay_0 at hF
  refine mw_bipush C dX8_lay_0 bp_24 ?_
  refine mw_istore_n [(2, iv 24), (0, rfv (xd (zX Z)) 8), (1, iv x1)] C dX8_lay_2 rfl (by decide) rfl ?_
  refine mw_sub [1, 2, 0] rfl ?_
  exact T_X8_lay_3 C 20000 x1 24 _ _ hF
def F_X8_lay (x1 : Int) (h : MH) : Option MH := F_X8_lay_0 x1 h
theorem T_X8_lay (l : Launch) (X : XT) (x1 : Int) (h : MH) (t : MH) (hF : F_X8_lay x1 h = some t) : Ct l X yX8_lay cX8_lay 3 none 1 [rfv (xd X) 8, iv x1] zN zG h none zN zG t 0 0 := by
  refine Ct.head (by decide) (Nat.le_of_ble_eq_true rfl) (fun Z hX hl _ _ _ C => ?_)
  subst hX
  subst hl
  exact (T_X8_lay_0 C x1 _ _ hF)
