theorem dfX0 : ∀ k, k < 9 → zft 0 k = tyX0 k ∧ (zfk (tyX0 k) = 0 → defaultValue (tyX0 k) = iv 0) ∧ (zfk (tyX0 k) = 1 → defaultValue (tyX0 k) = lvv 0) ∧ (zfk (tyX0 k) = 2 → defaultValue (tyX0 k) = .null) := by decide +kernel
theorem dfX1 : ∀ k, k < 14 → zft 1 k = tyX1 k ∧ (zfk (tyX1 k) = 0 → defaultValue (tyX1 k) = iv 0) ∧ (zfk (tyX1 k) = 1 → defaultValue (tyX1 k) = lvv 0) ∧ (zfk (tyX1 k) = 2 → defaultValue (tyX1 k) = .null) := by decide +kernel
theorem dfX2 : ∀ k, k < 5 → zft 2 k = tyX2 k ∧ (zfk (tyX2 k) = 0 → defaultValue (tyX2 k) = iv 0) ∧ (zfk (tyX2 k) = 1 → defaultValue (tyX2 k) = lvv 0) ∧ (zfk (tyX2 k) = 2 → defaultValue (tyX2 k) = .null) := by decide +kernel
theorem dfX3 : ∀ k, k < 6 → zft 3 k = tyX3 k ∧ (zfk (tyX3 k) = 0 → defaultValue (tyX3 k) = iv 0) ∧ (zfk (tyX3 k) = 1 → defaultValue (tyX3 k) = lvv 0) ∧ (zfk (tyX3 k) = 2 → defaultValue (tyX3 k) = .null) := by decide +kernel
theorem dfX4 : ∀ k, k < 3 → zft 4 k = tyX4 k ∧ (zfk (tyX4 k) = 0 → defaultValue (tyX4 k) = iv 0) ∧ (zfk (tyX4 k) = 1 → defaultValue (tyX4 k) = lvv 0) ∧ (zfk (tyX4 k) = 2 → defaultValue (tyX4 k) = .null) := by decide +kernel
theorem dfX5 : ∀ k, k < 5 → zft 5 k = tyX5 k ∧ (zfk (tyX5 k) = 0 → defaultValue (tyX5 k) = iv 0) ∧ (zfk (tyX5 k) = 1 → defaultValue (tyX5 k) = lvv 0) ∧ (zfk (tyX5 k) = 2 → defaultValue (tyX5 k) = .null) := by decide +kernel
theorem dfX6 : ∀ k, k < 5 → zft 6 k = tyX6 k ∧ (zfk (tyX6 k) = 0 → defaultValue (tyX6 k) = iv 0) ∧ (zfk (tyX6 k) = 1 → defaultValue (tyX6 k) = lvv 0) ∧ (zfk (tyX6 k) = 2 → defaultValue (tyX6 k) = .null) := by decide +kernel
theorem dfX7 : ∀ k, k < 4 → zft 7 k = tyX7 k ∧ (zfk (tyX7 k) = 0 → defaultValue (tyX7 k) = iv 0) ∧ (zfk (tyX7 k) = 1 → defaultValue (tyX7 k) = lvv 0) ∧ (zfk (tyX7 k) = 2 → defaultValue (tyX7 k) = .null) := by decide +kernel
theorem dfX8 : ∀ k, k < 11 → zft 8 k = tyX8 k ∧ (zfk (tyX8 k) = 0 → defaultValue (tyX8 k) = iv 0) ∧ (zfk (tyX8 k) = 1 → defaultValue (tyX8 k) = lvv 0) ∧ (zfk (tyX8 k) = 2 → defaultValue (tyX8 k) = .null) := by decide +kernel
theorem dfX9 : ∀ k, k < 7 → zft 9 k = tyX9 k ∧ (zfk (tyX9 k) = 0 → defaultValue (tyX9 k) = iv 0) ∧ (zfk (tyX9 k) = 1 → defaultValue (tyX9 k) = lvv 0) ∧ (zfk (tyX9 k) = 2 → defaultValue (tyX9 k) = .null) := by decide +kernel
theorem dfX10 : ∀ k, k < 4 → zft 10 k = tyX10 k ∧ (zfk (tyX10 k) = 0 → defaultValue (tyX10 k) = iv 0) ∧ (zfk (tyX10 k) = 1 → defaultValue (tyX10 k) = lvv 0) ∧ (zfk (tyX10 k) = 2 → defaultValue (tyX10 k) = .null) := by decide +kernel
theorem dfX11 : ∀ k, k < 19 → zft 11 k = tyX11 k ∧ (zfk (tyX11 k) = 0 → defaultValue (tyX11 k) = iv 0) ∧ (zfk (tyX11 k) = 1 → defaultValue (tyX11 k) = lvv 0) ∧ (zfk (tyX11 k) = 2 → defaultValue (tyX11 k) = .null) := by decide +kernel
theorem dfX12 : ∀ k, k < 51 → zft 12 k = tyX12 k ∧ (zfk (tyX12 k) = 0 → defaultValue (tyX12 k) = iv 0) ∧ (zfk (tyX12 k) = 1 → defaultValue (tyX12 k) = lvv 0) ∧ (zfk (tyX12 k) = 2 → defaultValue (tyX12 k) = .null) := by decide +kernel
set_option maxRecDepth 100000 in
theorem Tg_J7_fill_53178_5 {Z : ZT} {n9 : Nat} {g9 : GH} (C : Cx Z cJ7_fill_53178 4 RJ7 1 none) : ∀ (n : Nat) (x0 : Nat) (len_x0 : Nat) (x1 : Int) (x2 : Int) (x3 : Int) (hk_x0 : zK x0 = (21, len_x0) ∧ x0 < n9 ∧ len_x0 < 2147483648) (h : MH) (t : MH), F_J7_fill_53178_5 n x0 len_x0 x1 x2 x3 h = some t → MW Z (Qm Z none n9 g9 t 0 0) 4 n9 g9 h 0 0 5 [(0, rfv (xd (zX Z)) x0), (1, iv x1), (2, iv x2), (3, iv x3)] [] := by
  intro n
  induction n with
  | zero =>
    intros
    rename_i hF
    exact absurd hF (by intro q; cases q)
  | succ n ih =>
    intro x0 len_x0 x1 x2 x3 hk_x0 h t hF
    rw [F_J7_fill_53178_5] at hF
    refine mw_iload_n 2 C dJ7_fill_53178_5 rfl rfl ?_
    refine mw_iload_n 3 C dJ7_fill_53178_6 rfl rfl ?_
    obtain ⟨g1, hF⟩ := ck_some hF
    obtain ⟨g2, hF⟩ := ck_some hF
    rcases ite_some hF with ⟨c3, hF⟩ | ⟨c3, hF⟩
    · refine mw_icmp_ge_t (tgt := 20) C dJ7_fill_53178_7 (by decide) g1 g2 c3 ?_
      cases hF
      exact mw_vret C dJ7_fill_53178_20 rfl rfl
    · refine mw_icmp_ge_f (tgt := 20) C dJ7_fill_53178_7 (by decide) g1 g2 c3 ?_
      refine mw_aload_n 0 C dJ7_fill_53178_10 rfl rfl ?_
      refine mw_iload_n 2 C dJ7_fill_53178_11 rfl rfl ?_
      refine mw_iload_n 1 C dJ7_fill_53178_12 rfl rfl ?_
      obtain ⟨g4, hF⟩ := ck_some hF
      obtain ⟨h5, eh5, hF⟩ := nx_some hF
      refine mw_iast C dJ7_fill_53178_13 hk_x0.2.1 hk_x0.1 hk_x0.2.2 g4 (mw_h eh5 ?_)
      refine mw_iinc 2 [(2, iv (x2 + 1)), (0, rfv (xd (zX Z)) x0), (1, iv x1), (3, iv x3)] C dJ7_fill_53178_14 rfl (by decide) rfl ?_
      refine mw_goto (tgt := 5) C dJ7_fill_53178_17 (by decide) ?_
      refine mw_sub [1, 2, 0, 3] rfl ?_
      exact ih x0 len_x0 x1 (x2 + 1) x3 hk_x0 _ _ hF
set_option maxRecDepth 100000 in
theorem Tg_J7_fill_53178_0 {Z : ZT} {n9 : Nat} {g9 : GH} (C : Cx Z cJ7_fill_53178 4 RJ7 1 none) (x0 : Nat) (len_x0 : Nat) (x1 : Int) (hk_x0 : zK x0 = (21, len_x0) ∧ x0 < n9 ∧ len_x0 < 2147483648) (h : MH) (t : MH) (hF : F_J7_fill_53178_0 x0 len_x0 x1 h = some t) : MW Z (Qm Z none n9 g9 t 0 0) 4 n9 g9 h 0 0 0 [(0, rfv (xd (zX Z)) x0), (1, iv x1)] [] := by
  unfold F_J7_fill_53178_0 at hF
  refine mw_iconst C dJ7_fill_53178_0 ?_
  refine mw_istore_n [(2, iv 0), (0, rfv (xd (zX Z)) x0), (1, iv x1)] C dJ7_fill_53178_1 rfl (by decide) rfl ?_
  refine mw_aload_n 1 C dJ7_fill_53178_2 rfl rfl ?_
  refine mw_alenI C dJ7_fill_53178_3 hk_x0.2.1 hk_x0.1 ?_
  obtain ⟨v1, ev1, hF⟩ := nx_some hF
  refine mw_ti ev1 ?_
  refine mw_istore_n [(3, iv v1), (2, iv 0), (0, rfv (xd (zX Z)) x0), (1, iv x1)] C dJ7_fill_53178_4 rfl (by decide) rfl ?_
  refine mw_sub [2, 3, 1, 0] rfl ?_
  exact Tg_J7_fill_53178_5 C 20000 x0 len_x0 x1 0 v1 hk_x0 _ _ hF
theorem Tg_J7_fill_53178 (l : Launch) (X : XT) (n9 : Nat) (g9 : GH) (x0 : Nat) (len_x0 : Nat) (x1 : Int) (hk_x0 : zK x0 = (21, len_x0) ∧ x0 < n9 ∧ len_x0 < 2147483648) (h : MH) (t : MH) (hF : F_J7_fill_53178 x0 len_x0 x1 h = some t) : Ct l X yJ7_fill_53178 cJ7_fill_53178 4 none 1 [rfv (xd X) x0, iv x1] n9 g9 h none n9 g9 t 0 0 := by
  refine Ct.head (by decide) (Nat.le_of_ble_eq_true rfl) (fun Z hX hl _ _ _ C => ?_)
  subst hX
  subst hl
  exact (Tg_J7_fill_53178_0 C x0 len_x0 x1 hk_x0 _ _ hF)
theorem fillx_7 (h : MH) : F_J7_fill_53178 7 4 (-1) h = some (hup (hup (hup (hup h 7 0 (-1)) 7 1 (-1)) 7 2 (-1)) 7 3 (-1)) := rfl
theorem fz_mul {n : Nat} {g : GH} {h : MH} (fz : Fz n g h) : Fz (n + 5) (gmul g n) h := fun c' hc' k' => ⟨(fz c' (by omega) k').1, by rw [gmul_ne (by omega)]; exact (fz c' (by omega) k').2⟩
theorem zne_X11_34 : Cond.methodLinkNest RX11 34 yX8_init "BottleLine" ∈ zNest := by decide +kernel
theorem zne_X11_57 : Cond.methodLinkNest RX11 57 yX5_init "BottleLine" ∈ zNest := by decide +kernel
theorem zne_X11_64 : Cond.methodLinkNest RX11 64 yX6_init "BottleLine" ∈ zNest := by decide +kernel
theorem zne_X11_82 : Cond.methodLinkNest RX11 82 yX9_init "BottleLine" ∈ zNest := by decide +kernel
theorem zne_X11_89 : Cond.methodLinkNest RX11 89 yX0_init "BottleLine" ∈ zNest := by decide +kernel
theorem zne_X11_96 : Cond.methodLinkNest RX11 96 yX2_init "BottleLine" ∈ zNest := by decide +kernel
theorem zne_X11_103 : Cond.methodLinkNest RX11 103 yX10_init "BottleLine" ∈ zNest := by decide +kernel
theorem zne_X11_110 : Cond.methodLinkNest RX11 110 yX4_init "BottleLine" ∈ zNest := by decide +kernel
theorem zne_X3_11 : Cond.methodLinkNest RX3 11 yX5_init "BottleLine" ∈ zNest := by decide +kernel
theorem zne_X5_11 : Cond.methodLinkNest RX5 11 yX1_init "BottleLine" ∈ zNest := by decide +kernel
theorem zne_X7_11 : Cond.methodLinkNest RX7 11 yX6_init "BottleLine" ∈ zNest := by decide +kernel
theorem zne_X9_11 : Cond.methodLinkNest RX9 11 yX1_init "BottleLine" ∈ zNest := by decide +kernel
def gI_X1 (c : Nat) (g : GH) : GH := (gup (gup (gup (gup (gup (gup (gup (gup (gup (gup g c 1 (c + 1)) c 2 (c + 2)) c 3 (c + 3)) c 4 (c + 4)) c 8 (c + 5)) c 9 (c + 6)) c 10 (c + 7)) c 11 (c + 8)) c 12 (c + 9)) c 13 (c + 10))
def hI_X1 (c : Nat) (h : MH) : MH := (hup (hup (hup (hup h c 0 0) c 5 0) c 6 0) c 7 0)
theorem fzI_X1 (c : Nat) (hk : okX1 c) {g : GH} {h : MH} (fz : Fz (c + 1) g h) : Fz (c + 11) (gI_X1 c g) (hI_X1 c h) := by
  have fz := Fz.up (c := c) (k := 0) (v := 0) fz (by omega)
  have fz := Fz.mono (n' := (c + 2)) fz (by omega)
  have fz := Fz.gup (c := c) (k := 1) (v := (c + 1)) fz (by omega)
  have fz := Fz.mono (n' := (c + 3)) fz (by omega)
  have fz := Fz.gup (c := c) (k := 2) (v := (c + 2)) fz (by omega)
  have fz := Fz.mono (n' := (c + 4)) fz (by omega)
  have fz := Fz.gup (c := c) (k := 3) (v := (c + 3)) fz (by omega)
  have fz := Fz.mono (n' := (c + 5)) fz (by omega)
  have fz := Fz.gup (c := c) (k := 4) (v := (c + 4)) fz (by omega)
  have fz := Fz.up (c := c) (k := 5) (v := 0) fz (by omega)
  have fz := Fz.up (c := c) (k := 6) (v := 0) fz (by omega)
  have fz := Fz.up (c := c) (k := 7) (v := 0) fz (by omega)
  have fz := Fz.mono (n' := (c + 6)) fz (by omega)
  have fz := Fz.gup (c := c) (k := 8) (v := (c + 5)) fz (by omega)
  have fz := Fz.mono (n' := (c + 7)) fz (by omega)
  have fz := Fz.gup (c := c) (k := 9) (v := (c + 6)) fz (by omega)
  have fz := Fz.mono (n' := (c + 8)) fz (by omega)
  have fz := Fz.gup (c := c) (k := 10) (v := (c + 7)) fz (by omega)
  have fz := Fz.mono (n' := (c + 9)) fz (by omega)
  have fz := Fz.gup (c := c) (k := 11) (v := (c + 8)) fz (by omega)
  have fz := Fz.mono (n' := (c + 10)) fz (by omega)
  have fz := Fz.gup (c := c) (k := 12) (v := (c + 9)) fz (by omega)
  have fz := Fz.mono (n' := (c + 11)) fz (by omega)
  have fz := Fz.gup (c := c) (k := 13) (v := (c + 10)) fz (by omega)
  exact fz
set_option maxRecDepth 100000 in
set_option maxHeartbeats 4000000 in
theorem I_X1 (l : Launch) (X : XT) (had : zAd X) (c : Nat) (hk : okX1 c) (g : GH) (h : MH) (fz : Fz (c + 1) g h) : CtI l X yX1_init cX1_init 1 1 [rfv (xd X) c] (c + 1) g h (c + 11) (gI_X1 c g) (hI_X1 c h) 10 108 := by
  refine CtI.head (by decide) (Nat.le_of_ble_eq_true rfl) (fun Z hX hl hcc hcs hnm hs hao C => ?_)
  subst hX
  subst hl
  refine mw_aload_n 0 C dX1_init_0 rfl rfl ?_
  refine mw_objInit C dX1_init_1 wd75 wd29 wd30 (by decide) (Nat.le_of_ble_eq_true rfl) ?_
  refine mw_aload_n 0 C dX1_init_4 rfl rfl ?_
  refine mw_iconst C dX1_init_5 ?_
  refine mw_put (k := 0) (T := TX1) (ty0 := tyX1) (x := 0) C dX1_init_6 (by omega) (okX1_k _ hk) (by decide) rfl inX1 tyX1_ok nmX1 (by decide) wd76 rfl rfl rfl rfl rfl (by decide) ?_
  have fz := Fz.up (c := c) (k := 0) (v := 0) fz (by omega)
  refine mw_aload_n 0 C dX1_init_9 rfl rfl ?_
  refine mw_bipush C dX1_init_10 bp_6 ?_
  refine mw_newA (n0 := (c + 1)) (t := 1) (ty := .int) C dX1_init_12 had hs (by omega) fz rfl (fun _ => rfl) (fun _ _ q => q) (okX1_f1 _ hk).1 (Or.inl ⟨by decide, rfl⟩) rfl (by decide) (by decide) wd58 ⟨by omega, by omega⟩ ?_
  have fz := Fz.mono (n' := (c + 2)) fz (by omega)
  refine mw_putF (k := 1) (T := TX1) (ty0 := tyX1) C dX1_init_14 hnm (by omega) (okX1_k _ hk) (by decide) rfl inX1 tyX1_ok nmX1 (by decide) wd82 rfl rfl rfl (fun _ => rfl) (fun _ => rfl) rfl ?_
  have fz := Fz.gup (c := c) (k := 1) (v := (c + 1)) fz (by omega)
  refine mw_aload_n 0 C dX1_init_17 rfl rfl ?_
  refine mw_bipush C dX1_init_18 bp_6 ?_
  refine mw_newA (n0 := (c + 1)) (t := 1) (ty := .int) C dX1_init_20 had hs (by omega) fz rfl (fun _ => rfl) (fun _ _ q => q) (okX1_f2 _ hk).1 (Or.inl ⟨by decide, rfl⟩) rfl (by decide) (by decide) wd58 ⟨by omega, by omega⟩ ?_
  have fz := Fz.mono (n' := (c + 3)) fz (by omega)
  refine mw_putF (k := 2) (T := TX1) (ty0 := tyX1) C dX1_init_22 hnm (by omega) (okX1_k _ hk) (by decide) rfl inX1 tyX1_ok nmX1 (by decide) wd87 rfl rfl rfl (fun _ => rfl) (fun _ => rfl) rfl ?_
  have fz := Fz.gup (c := c) (k := 2) (v := (c + 2)) fz (by omega)
  refine mw_aload_n 0 C dX1_init_25 rfl rfl ?_
  refine mw_bipush C dX1_init_26 bp_6 ?_
  refine mw_newA (n0 := (c + 1)) (t := 1) (ty := .int) C dX1_init_28 had hs (by omega) fz rfl (fun _ => rfl) (fun _ _ q => q) (okX1_f3 _ hk).1 (Or.inl ⟨by decide, rfl⟩) rfl (by decide) (by decide) wd58 ⟨by omega, by omega⟩ ?_
  have fz := Fz.mono (n' := (c + 4)) fz (by omega)
  refine mw_putF (k := 3) (T := TX1) (ty0 := tyX1) C dX1_init_30 hnm (by omega) (okX1_k _ hk) (by decide) rfl inX1 tyX1_ok nmX1 (by decide) wd90 rfl rfl rfl (fun _ => rfl) (fun _ => rfl) rfl ?_
  have fz := Fz.gup (c := c) (k := 3) (v := (c + 3)) fz (by omega)
  refine mw_aload_n 0 C dX1_init_33 rfl rfl ?_
  refine mw_bipush C dX1_init_34 bp_6 ?_
  refine mw_newA (n0 := (c + 1)) (t := 1) (ty := .int) C dX1_init_36 had hs (by omega) fz rfl (fun _ => rfl) (fun _ _ q => q) (okX1_f4 _ hk).1 (Or.inl ⟨by decide, rfl⟩) rfl (by decide) (by decide) wd58 ⟨by omega, by omega⟩ ?_
  have fz := Fz.mono (n' := (c + 5)) fz (by omega)
  refine mw_putF (k := 4) (T := TX1) (ty0 := tyX1) C dX1_init_38 hnm (by omega) (okX1_k _ hk) (by decide) rfl inX1 tyX1_ok nmX1 (by decide) wd93 rfl rfl rfl (fun _ => rfl) (fun _ => rfl) rfl ?_
  have fz := Fz.gup (c := c) (k := 4) (v := (c + 4)) fz (by omega)
  refine mw_aload_n 0 C dX1_init_41 rfl rfl ?_
  refine mw_iconst C dX1_init_42 ?_
  refine mw_put (k := 5) (T := TX1) (ty0 := tyX1) (x := 0) C dX1_init_43 (by omega) (okX1_k _ hk) (by decide) rfl inX1 tyX1_ok nmX1 (by decide) wd97 rfl rfl rfl rfl rfl (by decide) ?_
  have fz := Fz.up (c := c) (k := 5) (v := 0) fz (by omega)
  refine mw_aload_n 0 C dX1_init_46 rfl rfl ?_
  refine mw_iconst C dX1_init_47 ?_
  refine mw_put (k := 6) (T := TX1) (ty0 := tyX1) (x := 0) C dX1_init_48 (by omega) (okX1_k _ hk) (by decide) rfl inX1 tyX1_ok nmX1 (by decide) wd99 rfl rfl rfl rfl rfl (by decide) ?_
  have fz := Fz.up (c := c) (k := 6) (v := 0) fz (by omega)
  refine mw_aload_n 0 C dX1_init_51 rfl rfl ?_
  refine mw_iconst C dX1_init_52 ?_
  refine mw_put (k := 7) (T := TX1) (ty0 := tyX1) (x := 0) C dX1_init_53 (by omega) (okX1_k _ hk) (by decide) rfl inX1 tyX1_ok nmX1 (by decide) wd100 rfl rfl rfl rfl rfl (by decide) ?_
  have fz := Fz.up (c := c) (k := 7) (v := 0) fz (by omega)
  refine mw_aload_n 0 C dX1_init_56 rfl rfl ?_
  refine mw_bipush C dX1_init_57 bp_6 ?_
  refine mw_newA (n0 := (c + 1)) (t := 1) (ty := .int) C dX1_init_59 had hs (by omega) fz rfl (fun _ => rfl) (fun _ _ q => q) (okX1_f8 _ hk).1 (Or.inl ⟨by decide, rfl⟩) rfl (by decide) (by decide) wd58 ⟨by omega, by omega⟩ ?_
  have fz := Fz.mono (n' := (c + 6)) fz (by omega)
  refine mw_putF (k := 8) (T := TX1) (ty0 := tyX1) C dX1_init_61 hnm (by omega) (okX1_k _ hk) (by decide) rfl inX1 tyX1_ok nmX1 (by decide) wd102 rfl rfl rfl (fun _ => rfl) (fun _ => rfl) rfl ?_
  have fz := Fz.gup (c := c) (k := 8) (v := (c + 5)) fz (by omega)
  refine mw_aload_n 0 C dX1_init_64 rfl rfl ?_
  refine mw_bipush C dX1_init_65 bp_6 ?_
  refine mw_newA (n0 := (c + 1)) (t := 1) (ty := .int) C dX1_init_67 had hs (by omega) fz rfl (fun _ => rfl) (fun _ _ q => q) (okX1_f9 _ hk).1 (Or.inl ⟨by decide, rfl⟩) rfl (by decide) (by decide) wd58 ⟨by omega, by omega⟩ ?_
  have fz := Fz.mono (n' := (c + 7)) fz (by omega)
  refine mw_putF (k := 9) (T := TX1) (ty0 := tyX1) C dX1_init_69 hnm (by omega) (okX1_k _ hk) (by decide) rfl inX1 tyX1_ok nmX1 (by decide) wd105 rfl rfl rfl (fun _ => rfl) (fun _ => rfl) rfl ?_
  have fz := Fz.gup (c := c) (k := 9) (v := (c + 6)) fz (by omega)
  refine mw_aload_n 0 C dX1_init_72 rfl rfl ?_
  refine mw_bipush C dX1_init_73 bp_6 ?_
  refine mw_newA (n0 := (c + 1)) (t := 1) (ty := .int) C dX1_init_75 had hs (by omega) fz rfl (fun _ => rfl) (fun _ _ q => q) (okX1_f10 _ hk).1 (Or.inl ⟨by decide, rfl⟩) rfl (by decide) (by decide) wd58 ⟨by omega, by omega⟩ ?_
  have fz := Fz.mono (n' := (c + 8)) fz (by omega)
  refine mw_putF (k := 10) (T := TX1) (ty0 := tyX1) C dX1_init_77 hnm (by omega) (okX1_k _ hk) (by decide) rfl inX1 tyX1_ok nmX1 (by decide) wd109 rfl rfl rfl (fun _ => rfl) (fun _ => rfl) rfl ?_
  have fz := Fz.gup (c := c) (k := 10) (v := (c + 7)) fz (by omega)
  refine mw_aload_n 0 C dX1_init_80 rfl rfl ?_
  refine mw_bipush C dX1_init_81 bp_6 ?_
  refine mw_newA (n0 := (c + 1)) (t := 1) (ty := .int) C dX1_init_83 had hs (by omega) fz rfl (fun _ => rfl) (fun _ _ q => q) (okX1_f11 _ hk).1 (Or.inl ⟨by decide, rfl⟩) rfl (by decide) (by decide) wd58 ⟨by omega, by omega⟩ ?_
  have fz := Fz.mono (n' := (c + 9)) fz (by omega)
  refine mw_putF (k := 11) (T := TX1) (ty0 := tyX1) C dX1_init_85 hnm (by omega) (okX1_k _ hk) (by decide) rfl inX1 tyX1_ok nmX1 (by decide) wd111 rfl rfl rfl (fun _ => rfl) (fun _ => rfl) rfl ?_
  have fz := Fz.gup (c := c) (k := 11) (v := (c + 8)) fz (by omega)
  refine mw_aload_n 0 C dX1_init_88 rfl rfl ?_
  refine mw_bipush C dX1_init_89 bp_24 ?_
  refine mw_newA (n0 := (c + 1)) (t := 1) (ty := .int) C dX1_init_91 had hs (by omega) fz rfl (fun _ => rfl) (fun _ _ q => q) (okX1_f12 _ hk).1 (Or.inl ⟨by decide, rfl⟩) rfl (by decide) (by decide) wd58 ⟨by omega, by omega⟩ ?_
  have fz := Fz.mono (n' := (c + 10)) fz (by omega)
  refine mw_putF (k := 12) (T := TX1) (ty0 := tyX1) C dX1_init_93 hnm (by omega) (okX1_k _ hk) (by decide) rfl inX1 tyX1_ok nmX1 (by decide) wd113 rfl rfl rfl (fun _ => rfl) (fun _ => rfl) rfl ?_
  have fz := Fz.gup (c := c) (k := 12) (v := (c + 9)) fz (by omega)
  refine mw_aload_n 0 C dX1_init_96 rfl rfl ?_
  refine mw_bipush C dX1_init_97 bp_36 ?_
  refine mw_newA (n0 := (c + 1)) (t := 1) (ty := .int) C dX1_init_99 had hs (by omega) fz rfl (fun _ => rfl) (fun _ _ q => q) (okX1_f13 _ hk).1 (Or.inl ⟨by decide, rfl⟩) rfl (by decide) (by decide) wd58 ⟨by omega, by omega⟩ ?_
  have fz := Fz.mono (n' := (c + 11)) fz (by omega)
  refine mw_putF (k := 13) (T := TX1) (ty0 := tyX1) C dX1_init_101 hnm (by omega) (okX1_k _ hk) (by decide) rfl inX1 tyX1_ok nmX1 (by decide) wd115 rfl rfl rfl (fun _ => rfl) (fun _ => rfl) rfl ?_
  have fz := Fz.gup (c := c) (k := 13) (v := (c + 10)) fz (by omega)
  exact mw_vret C dX1_init_104 rfl rfl
def gI_X6 (c : Nat) (g : GH) : GH := (gup (gup (gup (gup g c 1 (c + 1)) c 2 (c + 2)) c 3 (c + 3)) c 4 (c + 4))
def hI_X6 (c : Nat) (h : MH) : MH := (hup h c 0 0)
theorem fzI_X6 (c : Nat) (hk : okX6 c) {g : GH} {h : MH} (fz : Fz (c + 1) g h) : Fz (c + 5) (gI_X6 c g) (hI_X6 c h) := by
  have fz := Fz.up (c := c) (k := 0) (v := 0) fz (by omega)
  have fz := Fz.mono (n' := (c + 2)) fz (by omega)
  have fz := Fz.gup (c := c) (k := 1) (v := (c + 1)) fz (by omega)
  have fz := Fz.mono (n' := (c + 3)) fz (by omega)
  have fz := Fz.gup (c := c) (k := 2) (v := (c + 2)) fz (by omega)
  have fz := Fz.mono (n' := (c + 4)) fz (by omega)
  have fz := Fz.gup (c := c) (k := 3) (v := (c + 3)) fz (by omega)
  have fz := Fz.mono (n' := (c + 5)) fz (by omega)
  have fz := Fz.gup (c := c) (k := 4) (v := (c + 4)) fz (by omega)
  exact fz
set_option maxRecDepth 100000 in
set_option maxHeartbeats 4000000 in
theorem I_X6 (l : Launch) (X : XT) (had : zAd X) (c : Nat) (hk : okX6 c) (g : GH) (h : MH) (fz : Fz (c + 1) g h) : CtI l X yX6_init cX6_init 1 1 [rfv (xd X) c] (c + 1) g h (c + 5) (gI_X6 c g) (hI_X6 c h) 4 120 := by
  refine CtI.head (by decide) (Nat.le_of_ble_eq_true rfl) (fun Z hX hl hcc hcs hnm hs hao C => ?_)
  subst hX
  subst hl
  refine mw_aload_n 0 C dX6_init_0 rfl rfl ?_
  refine mw_objInit C dX6_init_1 wd151 wd29 wd30 (by decide) (Nat.le_of_ble_eq_true rfl) ?_
  refine mw_aload_n 0 C dX6_init_4 rfl rfl ?_
  refine mw_iconst C dX6_init_5 ?_
  refine mw_put (k := 0) (T := TX6) (ty0 := tyX6) (x := 0) C dX6_init_6 (by omega) (okX6_k _ hk) (by decide) rfl inX6 tyX6_ok nmX6 (by decide) wd152 rfl rfl rfl rfl rfl (by decide) ?_
  have fz := Fz.up (c := c) (k := 0) (v := 0) fz (by omega)
  refine mw_aload_n 0 C dX6_init_9 rfl rfl ?_
  refine mw_bipush C dX6_init_10 bp_30 ?_
  refine mw_newA (n0 := (c + 1)) (t := 1) (ty := .int) C dX6_init_12 had hs (by omega) fz rfl (fun _ => rfl) (fun _ _ q => q) (okX6_f1 _ hk).1 (Or.inl ⟨by decide, rfl⟩) rfl (by decide) (by decide) wd58 ⟨by omega, by omega⟩ ?_
  have fz := Fz.mono (n' := (c + 2)) fz (by omega)
  refine mw_putF (k := 1) (T := TX6) (ty0 := tyX6) C dX6_init_14 hnm (by omega) (okX6_k _ hk) (by decide) rfl inX6 tyX6_ok nmX6 (by decide) wd156 rfl rfl rfl (fun _ => rfl) (fun _ => rfl) rfl ?_
  have fz := Fz.gup (c := c) (k := 1) (v := (c + 1)) fz (by omega)
  refine mw_aload_n 0 C dX6_init_17 rfl rfl ?_
  refine mw_bipush C dX6_init_18 bp_30 ?_
  refine mw_newA (n0 := (c + 1)) (t := 2) (ty := .long) C dX6_init_20 had hs (by omega) fz rfl (fun _ => rfl) (fun _ _ q => q) (okX6_f2 _ hk).1 (Or.inr ⟨rfl, rfl⟩) rfl (by decide) (by decide) wd57 ⟨by omega, by omega⟩ ?_
  have fz := Fz.mono (n' := (c + 3)) fz (by omega)
  refine mw_putF (k := 2) (T := TX6) (ty0 := tyX6) C dX6_init_22 hnm (by omega) (okX6_k _ hk) (by decide) rfl inX6 tyX6_ok nmX6 (by decide) wd159 rfl rfl rfl (fun _ => rfl) (fun _ => rfl) rfl ?_
  have fz := Fz.gup (c := c) (k := 2) (v := (c + 2)) fz (by omega)
  refine mw_aload_n 0 C dX6_init_25 rfl rfl ?_
  refine mw_bipush C dX6_init_26 bp_30 ?_
  refine mw_newA (n0 := (c + 1)) (t := 1) (ty := .int) C dX6_init_28 had hs (by omega) fz rfl (fun _ => rfl) (fun _ _ q => q) (okX6_f3 _ hk).1 (Or.inl ⟨by decide, rfl⟩) rfl (by decide) (by decide) wd58 ⟨by omega, by omega⟩ ?_
  have fz := Fz.mono (n' := (c + 4)) fz (by omega)
  refine mw_putF (k := 3) (T := TX6) (ty0 := tyX6) C dX6_init_30 hnm (by omega) (okX6_k _ hk) (by decide) rfl inX6 tyX6_ok nmX6 (by decide) wd162 rfl rfl rfl (fun _ => rfl) (fun _ => rfl) rfl ?_
  have fz := Fz.gup (c := c) (k := 3) (v := (c + 3)) fz (by omega)
  refine mw_aload_n 0 C dX6_init_33 rfl rfl ?_
  refine mw_bipush C dX6_init_34 bp_30 ?_
  refine mw_newA (n0 := (c + 1)) (t := 1) (ty := .int) C dX6_init_36 had hs (by omega) fz rfl (fun _ => rfl) (fun _ _ q => q) (okX6_f4 _ hk).1 (Or.inl ⟨by decide, rfl⟩) rfl (by decide) (by decide) wd58 ⟨by omega, by omega⟩ ?_
  have fz := Fz.mono (n' := (c + 5)) fz (by omega)
  refine mw_putF (k := 4) (T := TX6) (ty0 := tyX6) C dX6_init_38 hnm (by omega) (okX6_k _ hk) (by decide) rfl inX6 tyX6_ok nmX6 (by decide) wd165 rfl rfl rfl (fun _ => rfl) (fun _ => rfl) rfl ?_
  have fz := Fz.gup (c := c) (k := 4) (v := (c + 4)) fz (by omega)
  exact mw_vret C dX6_init_41 rfl rfl
def gI_X5 (c : Nat) (g : GH) : GH := (gup (gup (gup (gup (gI_X1 (c + 1) g) c 0 (c + 1)) c 1 (c + 12)) c 2 (c + 13)) c 3 (c + 14))
def hI_X5 (c : Nat) (h : MH) : MH := (hup (hI_X1 (c + 1) h) c 4 0)
theorem fzI_X5 (c : Nat) (hk : okX5 c) {g : GH} {h : MH} (fz : Fz (c + 1) g h) : Fz (c + 15) (gI_X5 c g) (hI_X5 c h) := by
  have fz := Fz.mono (n' := (c + 2)) fz (by omega)
  have fz := fzI_X1 (c + 1) (okX5_f0 _ hk) fz
  have fz := Fz.gup (c := c) (k := 0) (v := (c + 1)) fz (by omega)
  have fz := Fz.mono (n' := (c + 13)) fz (by omega)
  have fz := Fz.gup (c := c) (k := 1) (v := (c + 12)) fz (by omega)
  have fz := Fz.mono (n' := (c + 14)) fz (by omega)
  have fz := Fz.gup (c := c) (k := 2) (v := (c + 13)) fz (by omega)
  have fz := Fz.mono (n' := (c + 15)) fz (by omega)
  have fz := Fz.gup (c := c) (k := 3) (v := (c + 14)) fz (by omega)
  have fz := Fz.up (c := c) (k := 4) (v := 0) fz (by omega)
  exact fz
set_option maxRecDepth 100000 in
set_option maxHeartbeats 4000000 in
theorem I_X5 (l : Launch) (X : XT) (had : zAd X) (c : Nat) (hk : okX5 c) (g : GH) (h : MH) (fz : Fz (c + 1) g h) : CtI l X yX5_init cX5_init 1 2 [rfv (xd X) c] (c + 1) g h (c + 15) (gI_X5 c g) (hI_X5 c h) 14 183 := by
  refine CtI.head (by decide) (Nat.le_of_ble_eq_true rfl) (fun Z hX hl hcc hcs hnm hs hao C => ?_)
  subst hX
  subst hl
  refine mw_aload_n 0 C dX5_init_0 rfl rfl ?_
  refine mw_objInit C dX5_init_1 wd70 wd29 wd30 (by decide) (Nat.le_of_ble_eq_true rfl) ?_
  refine mw_aload_n 0 C dX5_init_4 rfl rfl ?_
  refine mw_new (n0 := (c + 1)) (ty0 := tyX1) C dX5_init_5 had hs (by omega) fz (okX1_k _ (okX5_f0 _ hk)) (by decide) rfl inX1 tyX1_ok dfX1 wd71 wd72 wd5 ⟨by omega, by omega⟩ ?_
  have fz := Fz.mono (n' := (c + 2)) fz (by omega)
  refine mw_dup C dX5_init_8 rfl ?_
  refine mw_callIN (n0 := (c + 1)) (c := (c + 1)) [] [rfv (xd (zX Z)) (c + 1), rfv (xd (zX Z)) c] C dX5_init_9 had hs (by omega) hao (I_X1 (zl Z) (zX Z) had (c + 1) (okX5_f0 _ hk) g h fz) rfl rfl zne_X5_11 wd73 wd5 wd74 hd_X1_init rfl (by decide) (by decide) (Nat.le_of_ble_eq_true rfl) ⟨by omega, by omega⟩ ?_
  have fz := fzI_X1 (c + 1) (okX5_f0 _ hk) fz
  refine mw_putF (k := 0) (T := TX5) (ty0 := tyX5) C dX5_init_12 hnm (by omega) (okX5_k _ hk) (by decide) rfl inX5 tyX5_ok nmX5 (by decide) wd117 rfl rfl rfl (fun _ => rfl) (fun _ => rfl) rfl ?_
  have fz := Fz.gup (c := c) (k := 0) (v := (c + 1)) fz (by omega)
  refine mw_aload_n 0 C dX5_init_15 rfl rfl ?_
  refine mw_bipush C dX5_init_16 bp_6 ?_
  refine mw_newA (n0 := (c + 1)) (t := 2) (ty := .long) C dX5_init_18 had hs (by omega) fz rfl (fun _ => rfl) (fun _ _ q => q) (okX5_f1 _ hk).1 (Or.inr ⟨rfl, rfl⟩) rfl (by decide) (by decide) wd57 ⟨by omega, by omega⟩ ?_
  have fz := Fz.mono (n' := (c + 13)) fz (by omega)
  refine mw_putF (k := 1) (T := TX5) (ty0 := tyX5) C dX5_init_20 hnm (by omega) (okX5_k _ hk) (by decide) rfl inX5 tyX5_ok nmX5 (by decide) wd122 rfl rfl rfl (fun _ => rfl) (fun _ => rfl) rfl ?_
  have fz := Fz.gup (c := c) (k := 1) (v := (c + 12)) fz (by omega)
  refine mw_aload_n 0 C dX5_init_23 rfl rfl ?_
  refine mw_bipush C dX5_init_24 bp_6 ?_
  refine mw_newA (n0 := (c + 1)) (t := 1) (ty := .int) C dX5_init_26 had hs (by omega) fz rfl (fun _ => rfl) (fun _ _ q => q) (okX5_f2 _ hk).1 (Or.inl ⟨by decide, rfl⟩) rfl (by decide) (by decide) wd58 ⟨by omega, by omega⟩ ?_
  have fz := Fz.mono (n' := (c + 14)) fz (by omega)
  refine mw_putF (k := 2) (T := TX5) (ty0 := tyX5) C dX5_init_28 hnm (by omega) (okX5_k _ hk) (by decide) rfl inX5 tyX5_ok nmX5 (by decide) wd124 rfl rfl rfl (fun _ => rfl) (fun _ => rfl) rfl ?_
  have fz := Fz.gup (c := c) (k := 2) (v := (c + 13)) fz (by omega)
  refine mw_aload_n 0 C dX5_init_31 rfl rfl ?_
  refine mw_bipush C dX5_init_32 bp_49 ?_
  refine mw_newA (n0 := (c + 1)) (t := 1) (ty := .int) C dX5_init_34 had hs (by omega) fz rfl (fun _ => rfl) (fun _ _ q => q) (okX5_f3 _ hk).1 (Or.inl ⟨by decide, rfl⟩) rfl (by decide) (by decide) wd58 ⟨by omega, by omega⟩ ?_
  have fz := Fz.mono (n' := (c + 15)) fz (by omega)
  refine mw_putF (k := 3) (T := TX5) (ty0 := tyX5) C dX5_init_36 hnm (by omega) (okX5_k _ hk) (by decide) rfl inX5 tyX5_ok nmX5 (by decide) wd128 rfl rfl rfl (fun _ => rfl) (fun _ => rfl) rfl ?_
  have fz := Fz.gup (c := c) (k := 3) (v := (c + 14)) fz (by omega)
  refine mw_aload_n 0 C dX5_init_39 rfl rfl ?_
  refine mw_iconst C dX5_init_40 ?_
  refine mw_put (k := 4) (T := TX5) (ty0 := tyX5) (x := 0) C dX5_init_41 (by omega) (okX5_k _ hk) (by decide) rfl inX5 tyX5_ok nmX5 (by decide) wd130 rfl rfl rfl rfl rfl (by decide) ?_
  have fz := Fz.up (c := c) (k := 4) (v := 0) fz (by omega)
  exact mw_vret C dX5_init_44 rfl rfl
def gI_X8 (g : GH) : GH := (gup g 8 0 9)
def hI_X8 (h : MH) : MH := (hup (hup (hup (hup (hup (hup (hup (hup (hup (hup h 8 1 0) 8 2 0) 8 3 0) 8 4 0) 8 5 0) 8 6 0) 8 7 0) 8 8 0) 8 9 (-1)) 8 10 (-1))
theorem fzI_X8 {g : GH} {h : MH} (fz : Fz 9 g h) : Fz 10 (gI_X8 g) (hI_X8 h) := by
  have fz := Fz.mono (n' := 10) fz (by decide)
  have fz := Fz.gup (c := 8) (k := 0) (v := 9) fz (by decide)
  have fz := Fz.up (c := 8) (k := 1) (v := 0) fz (by decide)
  have fz := Fz.up (c := 8) (k := 2) (v := 0) fz (by decide)
  have fz := Fz.up (c := 8) (k := 3) (v := 0) fz (by decide)
  have fz := Fz.up (c := 8) (k := 4) (v := 0) fz (by decide)
  have fz := Fz.up (c := 8) (k := 5) (v := 0) fz (by decide)
  have fz := Fz.up (c := 8) (k := 6) (v := 0) fz (by decide)
  have fz := Fz.up (c := 8) (k := 7) (v := 0) fz (by decide)
  have fz := Fz.up (c := 8) (k := 8) (v := 0) fz (by decide)
  have fz := Fz.up (c := 8) (k := 9) (v := (-1)) fz (by decide)
  have fz := Fz.up (c := 8) (k := 10) (v := (-1)) fz (by decide)
  exact fz
set_option maxRecDepth 100000 in
set_option maxHeartbeats 4000000 in
theorem I_X8 (l : Launch) (X : XT) (had : zAd X) (g : GH) (h : MH) (fz : Fz 9 g h) : CtI l X yX8_init cX8_init 1 1 [rfv (xd X) 8] 9 g h 10 (gI_X8 g) (hI_X8 h) 1 700 := by
  refine CtI.head (by decide) (Nat.le_of_ble_eq_true rfl) (fun Z hX hl hcc hcs hnm hs hao C => ?_)
  subst hX
  subst hl
  refine mw_aload_n 0 C dX8_init_0 rfl rfl ?_
  refine mw_objInit C dX8_init_1 wd36 wd29 wd30 (by decide) (Nat.le_of_ble_eq_true rfl) ?_
  refine mw_aload_n 0 C dX8_init_4 rfl rfl ?_
  refine mw_sipush C dX8_init_5 sp_700 ?_
  refine mw_newA (n0 := 9) (t := 0) (ty := .byte) C dX8_init_8 had hs (by omega) fz rfl (fun _ => rfl) (fun _ _ q => q) zk9 (Or.inl ⟨by decide, rfl⟩) rfl (by decide) (by decide) wd59 ⟨by omega, by omega⟩ ?_
  have fz := Fz.mono (n' := 10) fz (by decide)
  refine mw_putF (k := 0) (T := TX8) (ty0 := tyX8) C dX8_init_10 hnm (by decide) zk8 (by decide) rfl inX8 tyX8_ok nmX8 (by decide) wd37 rfl rfl rfl (fun _ => rfl) (fun _ => rfl) rfl ?_
  have fz := Fz.gup (c := 8) (k := 0) (v := 9) fz (by decide)
  refine mw_aload_n 0 C dX8_init_13 rfl rfl ?_
  refine mw_iconst C dX8_init_14 ?_
  refine mw_put (k := 1) (T := TX8) (ty0 := tyX8) (x := 0) C dX8_init_15 (by decide) zk8 (by decide) rfl inX8 tyX8_ok nmX8 (by decide) wd38 rfl rfl rfl rfl rfl (by decide) ?_
  have fz := Fz.up (c := 8) (k := 1) (v := 0) fz (by decide)
  refine mw_aload_n 0 C dX8_init_18 rfl rfl ?_
  refine mw_iconst C dX8_init_19 ?_
  refine mw_put (k := 2) (T := TX8) (ty0 := tyX8) (x := 0) C dX8_init_20 (by decide) zk8 (by decide) rfl inX8 tyX8_ok nmX8 (by decide) wd40 rfl rfl rfl rfl rfl (by decide) ?_
  have fz := Fz.up (c := 8) (k := 2) (v := 0) fz (by decide)
  refine mw_aload_n 0 C dX8_init_23 rfl rfl ?_
  refine mw_iconst C dX8_init_24 ?_
  refine mw_put (k := 3) (T := TX8) (ty0 := tyX8) (x := 0) C dX8_init_25 (by decide) zk8 (by decide) rfl inX8 tyX8_ok nmX8 (by decide) wd41 rfl rfl rfl rfl rfl (by decide) ?_
  have fz := Fz.up (c := 8) (k := 3) (v := 0) fz (by decide)
  refine mw_aload_n 0 C dX8_init_28 rfl rfl ?_
  refine mw_iconst C dX8_init_29 ?_
  refine mw_put (k := 4) (T := TX8) (ty0 := tyX8) (x := 0) C dX8_init_30 (by decide) zk8 (by decide) rfl inX8 tyX8_ok nmX8 (by decide) wd42 rfl rfl rfl rfl rfl (by decide) ?_
  have fz := Fz.up (c := 8) (k := 4) (v := 0) fz (by decide)
  refine mw_aload_n 0 C dX8_init_33 rfl rfl ?_
  refine mw_iconst C dX8_init_34 ?_
  refine mw_put (k := 5) (T := TX8) (ty0 := tyX8) (x := 0) C dX8_init_35 (by decide) zk8 (by decide) rfl inX8 tyX8_ok nmX8 (by decide) wd45 rfl rfl rfl rfl rfl (by decide) ?_
  have fz := Fz.up (c := 8) (k := 5) (v := 0) fz (by decide)
  refine mw_aload_n 0 C dX8_init_38 rfl rfl ?_
  refine mw_lconst (a := 0) C dX8_init_39 lc_0 ?_
  refine mw_put (k := 6) (T := TX8) (ty0 := tyX8) (x := 0) C dX8_init_40 (by decide) zk8 (by decide) rfl inX8 tyX8_ok nmX8 (by decide) wd46 rfl rfl rfl rfl rfl (by decide) ?_
  have fz := Fz.up (c := 8) (k := 6) (v := 0) fz (by decide)
  refine mw_aload_n 0 C dX8_init_43 rfl rfl ?_
  refine mw_iconst C dX8_init_44 ?_
  refine mw_put (k := 7) (T := TX8) (ty0 := tyX8) (x := 0) C dX8_init_45 (by decide) zk8 (by decide) rfl inX8 tyX8_ok nmX8 (by decide) wd49 rfl rfl rfl rfl rfl (by decide) ?_
  have fz := Fz.up (c := 8) (k := 7) (v := 0) fz (by decide)
  refine mw_aload_n 0 C dX8_init_48 rfl rfl ?_
  refine mw_iconst C dX8_init_49 ?_
  refine mw_put (k := 8) (T := TX8) (ty0 := tyX8) (x := 0) C dX8_init_50 (by decide) zk8 (by decide) rfl inX8 tyX8_ok nmX8 (by decide) wd50 rfl rfl rfl rfl rfl (by decide) ?_
  have fz := Fz.up (c := 8) (k := 8) (v := 0) fz (by decide)
  refine mw_aload_n 0 C dX8_init_53 rfl rfl ?_
  refine mw_iconst C dX8_init_54 ?_
  refine mw_put (k := 9) (T := TX8) (ty0 := tyX8) (x := (-1)) C dX8_init_55 (by decide) zk8 (by decide) rfl inX8 tyX8_ok nmX8 (by decide) wd53 rfl rfl rfl rfl rfl (by decide) ?_
  have fz := Fz.up (c := 8) (k := 9) (v := (-1)) fz (by decide)
  refine mw_aload_n 0 C dX8_init_58 rfl rfl ?_
  refine mw_iconst C dX8_init_59 ?_
  refine mw_put (k := 10) (T := TX8) (ty0 := tyX8) (x := (-1)) C dX8_init_60 (by decide) zk8 (by decide) rfl inX8 tyX8_ok nmX8 (by decide) wd55 rfl rfl rfl rfl rfl (by decide) ?_
  have fz := Fz.up (c := 8) (k := 10) (v := (-1)) fz (by decide)
  exact mw_vret C dX8_init_63 rfl rfl
def gI_X3 (g : GH) : GH := (gup (gup (gup (gI_X5 11 g) 10 1 11) 10 2 26) 10 0 8)
def hI_X3 (h : MH) : MH := (hup (hup (hup (hI_X5 11 h) 10 3 0) 10 4 0) 10 5 0)
theorem fzI_X3 {g : GH} {h : MH} (fz : Fz 11 g h) : Fz 27 (gI_X3 g) (hI_X3 h) := by
  have fz := Fz.mono (n' := 12) fz (by decide)
  have fz := fzI_X5 11 ok_11 fz
  have fz := Fz.gup (c := 10) (k := 1) (v := 11) fz (by decide)
  have fz := Fz.mono (n' := 27) fz (by decide)
  have fz := Fz.gup (c := 10) (k := 2) (v := 26) fz (by decide)
  have fz := Fz.up (c := 10) (k := 3) (v := 0) fz (by decide)
  have fz := Fz.up (c := 10) (k := 4) (v := 0) fz (by decide)
  have fz := Fz.up (c := 10) (k := 5) (v := 0) fz (by decide)
  have fz := Fz.gup (c := 10) (k := 0) (v := 8) fz (by decide)
  exact fz
set_option maxRecDepth 100000 in
set_option maxHeartbeats 4000000 in
theorem I_X3 (l : Launch) (X : XT) (had : zAd X) (g : GH) (h : MH) (fz : Fz 11 g h) : CtI l X yX3_init cX3_init 2 3 [rfv (xd X) 10, rfv (xd X) 8] 11 g h 27 (gI_X3 g) (hI_X3 h) 16 195 := by
  refine CtI.head (by decide) (Nat.le_of_ble_eq_true rfl) (fun Z hX hl hcc hcs hnm hs hao C => ?_)
  subst hX
  subst hl
  refine mw_aload_n 0 C dX3_init_0 rfl rfl ?_
  refine mw_objInit C dX3_init_1 wd65 wd29 wd30 (by decide) (Nat.le_of_ble_eq_true rfl) ?_
  refine mw_aload_n 0 C dX3_init_4 rfl rfl ?_
  refine mw_new (n0 := 11) (ty0 := tyX5) C dX3_init_5 had hs (by omega) fz zk11 (by decide) rfl inX5 tyX5_ok dfX5 wd66 wd67 wd4 ⟨by omega, by omega⟩ ?_
  have fz := Fz.mono (n' := 12) fz (by decide)
  refine mw_dup C dX3_init_8 rfl ?_
  refine mw_callIN (n0 := 11) (c := 11) [] [rfv (xd (zX Z)) 11, rfv (xd (zX Z)) 10] C dX3_init_9 had hs (by omega) hao (I_X5 (zl Z) (zX Z) had 11 ok_11 g h fz) rfl rfl zne_X3_11 wd68 wd4 wd69 hd_X5_init rfl (by decide) (by decide) (Nat.le_of_ble_eq_true rfl) ⟨by omega, by omega⟩ ?_
  have fz := fzI_X5 11 ok_11 fz
  refine mw_putF (k := 1) (T := TX3) (ty0 := tyX3) C dX3_init_12 hnm (by decide) zk10 (by decide) rfl inX3 tyX3_ok nmX3 (by decide) wd135 rfl rfl rfl (fun _ => rfl) (fun _ => rfl) rfl ?_
  have fz := Fz.gup (c := 10) (k := 1) (v := 11) fz (by decide)
  refine mw_aload_n 0 C dX3_init_15 rfl rfl ?_
  refine mw_bipush C dX3_init_16 bp_7 ?_
  refine mw_newA (n0 := 11) (t := 2) (ty := .long) C dX3_init_18 had hs (by omega) fz rfl (fun _ => rfl) (fun _ _ q => q) zk26 (Or.inr ⟨rfl, rfl⟩) rfl (by decide) (by decide) wd57 ⟨by omega, by omega⟩ ?_
  have fz := Fz.mono (n' := 27) fz (by decide)
  refine mw_putF (k := 2) (T := TX3) (ty0 := tyX3) C dX3_init_20 hnm (by decide) zk10 (by decide) rfl inX3 tyX3_ok nmX3 (by decide) wd137 rfl rfl rfl (fun _ => rfl) (fun _ => rfl) rfl ?_
  have fz := Fz.gup (c := 10) (k := 2) (v := 26) fz (by decide)
  refine mw_aload_n 0 C dX3_init_23 rfl rfl ?_
  refine mw_iconst C dX3_init_24 ?_
  refine mw_put (k := 3) (T := TX3) (ty0 := tyX3) (x := 0) C dX3_init_25 (by decide) zk10 (by decide) rfl inX3 tyX3_ok nmX3 (by decide) wd138 rfl rfl (nz_n (Or.inl rfl)) (nz_f (Or.inl rfl)) rfl (by decide) ?_
  have fz := Fz.up (c := 10) (k := 3) (v := 0) fz (by decide)
  refine mw_aload_n 0 C dX3_init_28 rfl rfl ?_
  refine mw_iconst C dX3_init_29 ?_
  refine mw_put (k := 4) (T := TX3) (ty0 := tyX3) (x := 0) C dX3_init_30 (by decide) zk10 (by decide) rfl inX3 tyX3_ok nmX3 (by decide) wd139 rfl rfl (nz_n (Or.inl rfl)) (nz_f (Or.inl rfl)) rfl (by decide) ?_
  have fz := Fz.up (c := 10) (k := 4) (v := 0) fz (by decide)
  refine mw_aload_n 0 C dX3_init_33 rfl rfl ?_
  refine mw_iconst C dX3_init_34 ?_
  refine mw_put (k := 5) (T := TX3) (ty0 := tyX3) (x := 0) C dX3_init_35 (by decide) zk10 (by decide) rfl inX3 tyX3_ok nmX3 (by decide) wd140 rfl rfl (nz_n (Or.inl rfl)) (nz_f (Or.inl rfl)) rfl (by decide) ?_
  have fz := Fz.up (c := 10) (k := 5) (v := 0) fz (by decide)
  refine mw_aload_n 0 C dX3_init_38 rfl rfl ?_
  refine mw_aload_n 1 C dX3_init_39 rfl rfl ?_
  refine mw_putF (k := 0) (T := TX3) (ty0 := tyX3) C dX3_init_40 hnm (by decide) zk10 (by decide) rfl inX3 tyX3_ok nmX3 (by decide) wd134 rfl rfl rfl (fun _ => rfl) (fun _ => rfl) rfl ?_
  have fz := Fz.gup (c := 10) (k := 0) (v := 8) fz (by decide)
  exact mw_vret C dX3_init_43 rfl rfl
def gI_X7 (g : GH) : GH := (gup (gup (gup (gI_X6 28 g) 27 1 28) 27 2 33) 27 0 8)
def hI_X7 (h : MH) : MH := (hup (hI_X6 28 h) 27 3 0)
theorem fzI_X7 {g : GH} {h : MH} (fz : Fz 28 g h) : Fz 34 (gI_X7 g) (hI_X7 h) := by
  have fz := Fz.mono (n' := 29) fz (by decide)
  have fz := fzI_X6 28 ok_28 fz
  have fz := Fz.gup (c := 27) (k := 1) (v := 28) fz (by decide)
  have fz := Fz.mono (n' := 34) fz (by decide)
  have fz := Fz.gup (c := 27) (k := 2) (v := 33) fz (by decide)
  have fz := Fz.up (c := 27) (k := 3) (v := 0) fz (by decide)
  have fz := Fz.gup (c := 27) (k := 0) (v := 8) fz (by decide)
  exact fz
set_option maxRecDepth 100000 in
set_option maxHeartbeats 4000000 in
theorem I_X7 (l : Launch) (X : XT) (had : zAd X) (g : GH) (h : MH) (fz : Fz 28 g h) : CtI l X yX7_init cX7_init 2 2 [rfv (xd X) 27, rfv (xd X) 8] 28 g h 34 (gI_X7 g) (hI_X7 h) 6 128 := by
  refine CtI.head (by decide) (Nat.le_of_ble_eq_true rfl) (fun Z hX hl hcc hcs hnm hs hao C => ?_)
  subst hX
  subst hl
  refine mw_aload_n 0 C dX7_init_0 rfl rfl ?_
  refine mw_objInit C dX7_init_1 wd146 wd29 wd30 (by decide) (Nat.le_of_ble_eq_true rfl) ?_
  refine mw_aload_n 0 C dX7_init_4 rfl rfl ?_
  refine mw_new (n0 := 28) (ty0 := tyX6) C dX7_init_5 had hs (by omega) fz zk28 (by decide) rfl inX6 tyX6_ok dfX6 wd147 wd148 wd7 ⟨by omega, by omega⟩ ?_
  have fz := Fz.mono (n' := 29) fz (by decide)
  refine mw_dup C dX7_init_8 rfl ?_
  refine mw_callIN (n0 := 28) (c := 28) [] [rfv (xd (zX Z)) 28, rfv (xd (zX Z)) 27] C dX7_init_9 had hs (by omega) hao (I_X6 (zl Z) (zX Z) had 28 ok_28 g h fz) rfl rfl zne_X7_11 wd149 wd7 wd150 hd_X6_init rfl (by decide) (by decide) (Nat.le_of_ble_eq_true rfl) ⟨by omega, by omega⟩ ?_
  have fz := fzI_X6 28 ok_28 fz
  refine mw_putF (k := 1) (T := TX7) (ty0 := tyX7) C dX7_init_12 hnm (by decide) zk27 (by decide) rfl inX7 tyX7_ok nmX7 (by decide) wd169 rfl rfl rfl (fun _ => rfl) (fun _ => rfl) rfl ?_
  have fz := Fz.gup (c := 27) (k := 1) (v := 28) fz (by decide)
  refine mw_aload_n 0 C dX7_init_15 rfl rfl ?_
  refine mw_iconst C dX7_init_16 ?_
  refine mw_newA (n0 := 28) (t := 1) (ty := .int) C dX7_init_17 had hs (by omega) fz rfl (fun _ => rfl) (fun _ _ q => q) zk33 (Or.inl ⟨by decide, rfl⟩) rfl (by decide) (by decide) wd58 ⟨by omega, by omega⟩ ?_
  have fz := Fz.mono (n' := 34) fz (by decide)
  refine mw_putF (k := 2) (T := TX7) (ty0 := tyX7) C dX7_init_19 hnm (by decide) zk27 (by decide) rfl inX7 tyX7_ok nmX7 (by decide) wd171 rfl rfl rfl (fun _ => rfl) (fun _ => rfl) rfl ?_
  have fz := Fz.gup (c := 27) (k := 2) (v := 33) fz (by decide)
  refine mw_aload_n 0 C dX7_init_22 rfl rfl ?_
  refine mw_iconst C dX7_init_23 ?_
  refine mw_put (k := 3) (T := TX7) (ty0 := tyX7) (x := 0) C dX7_init_24 (by decide) zk27 (by decide) rfl inX7 tyX7_ok nmX7 (by decide) wd172 rfl rfl rfl rfl rfl (by decide) ?_
  have fz := Fz.up (c := 27) (k := 3) (v := 0) fz (by decide)
  refine mw_aload_n 0 C dX7_init_27 rfl rfl ?_
  refine mw_aload_n 1 C dX7_init_28 rfl rfl ?_
  refine mw_putF (k := 0) (T := TX7) (ty0 := tyX7) C dX7_init_29 hnm (by decide) zk27 (by decide) rfl inX7 tyX7_ok nmX7 (by decide) wd168 rfl rfl rfl (fun _ => rfl) (fun _ => rfl) rfl ?_
  have fz := Fz.gup (c := 27) (k := 0) (v := 8) fz (by decide)
  exact mw_vret C dX7_init_32 rfl rfl
def gI_X9 (g : GH) : GH := (gup (gup (gup (gI_X1 57 g) 56 0 57) 56 4 68) 56 5 69)
def hI_X9 (h : MH) : MH := (hup (hup (hup (hup (hI_X1 57 h) 56 1 0) 56 2 0) 56 3 0) 56 6 0)
theorem fzI_X9 {g : GH} {h : MH} (fz : Fz 57 g h) : Fz 70 (gI_X9 g) (hI_X9 h) := by
  have fz := Fz.mono (n' := 58) fz (by decide)
  have fz := fzI_X1 57 ok_57 fz
  have fz := Fz.gup (c := 56) (k := 0) (v := 57) fz (by decide)
  have fz := Fz.up (c := 56) (k := 1) (v := 0) fz (by decide)
  have fz := Fz.up (c := 56) (k := 2) (v := 0) fz (by decide)
  have fz := Fz.up (c := 56) (k := 3) (v := 0) fz (by decide)
  have fz := Fz.mono (n' := 69) fz (by decide)
  have fz := Fz.gup (c := 56) (k := 4) (v := 68) fz (by decide)
  have fz := Fz.mono (n' := 70) fz (by decide)
  have fz := Fz.gup (c := 56) (k := 5) (v := 69) fz (by decide)
  have fz := Fz.up (c := 56) (k := 6) (v := 0) fz (by decide)
  exact fz
set_option maxRecDepth 100000 in
set_option maxHeartbeats 4000000 in
theorem I_X9 (l : Launch) (X : XT) (had : zAd X) (g : GH) (h : MH) (fz : Fz 57 g h) : CtI l X yX9_init cX9_init 1 2 [rfv (xd X) 56] 57 g h 70 (gI_X9 g) (hI_X9 h) 13 132 := by
  refine CtI.head (by decide) (Nat.le_of_ble_eq_true rfl) (fun Z hX hl hcc hcs hnm hs hao C => ?_)
  subst hX
  subst hl
  refine mw_aload_n 0 C dX9_init_0 rfl rfl ?_
  refine mw_objInit C dX9_init_1 wd179 wd29 wd30 (by decide) (Nat.le_of_ble_eq_true rfl) ?_
  refine mw_aload_n 0 C dX9_init_4 rfl rfl ?_
  refine mw_new (n0 := 57) (ty0 := tyX1) C dX9_init_5 had hs (by omega) fz zk57 (by decide) rfl inX1 tyX1_ok dfX1 wd180 wd72 wd5 ⟨by omega, by omega⟩ ?_
  have fz := Fz.mono (n' := 58) fz (by decide)
  refine mw_dup C dX9_init_8 rfl ?_
  refine mw_callIN (n0 := 57) (c := 57) [] [rfv (xd (zX Z)) 57, rfv (xd (zX Z)) 56] C dX9_init_9 had hs (by omega) hao (I_X1 (zl Z) (zX Z) had 57 ok_57 g h fz) rfl rfl zne_X9_11 wd73 wd5 wd74 hd_X1_init rfl (by decide) (by decide) (Nat.le_of_ble_eq_true rfl) ⟨by omega, by omega⟩ ?_
  have fz := fzI_X1 57 ok_57 fz
  refine mw_putF (k := 0) (T := TX9) (ty0 := tyX9) C dX9_init_12 hnm (by decide) zk56 (by decide) rfl inX9 tyX9_ok nmX9 (by decide) wd181 rfl rfl rfl (fun _ => rfl) (fun _ => rfl) rfl ?_
  have fz := Fz.gup (c := 56) (k := 0) (v := 57) fz (by decide)
  refine mw_aload_n 0 C dX9_init_15 rfl rfl ?_
  refine mw_iconst C dX9_init_16 ?_
  refine mw_put (k := 1) (T := TX9) (ty0 := tyX9) (x := 0) C dX9_init_17 (by decide) zk56 (by decide) rfl inX9 tyX9_ok nmX9 (by decide) wd182 rfl rfl (nz_n (Or.inl rfl)) (nz_f (Or.inl rfl)) rfl (by decide) ?_
  have fz := Fz.up (c := 56) (k := 1) (v := 0) fz (by decide)
  refine mw_aload_n 0 C dX9_init_20 rfl rfl ?_
  refine mw_iconst C dX9_init_21 ?_
  refine mw_put (k := 2) (T := TX9) (ty0 := tyX9) (x := 0) C dX9_init_22 (by decide) zk56 (by decide) rfl inX9 tyX9_ok nmX9 (by decide) wd184 rfl rfl rfl rfl rfl (by decide) ?_
  have fz := Fz.up (c := 56) (k := 2) (v := 0) fz (by decide)
  refine mw_aload_n 0 C dX9_init_25 rfl rfl ?_
  refine mw_iconst C dX9_init_26 ?_
  refine mw_put (k := 3) (T := TX9) (ty0 := tyX9) (x := 0) C dX9_init_27 (by decide) zk56 (by decide) rfl inX9 tyX9_ok nmX9 (by decide) wd186 rfl rfl rfl rfl rfl (by decide) ?_
  have fz := Fz.up (c := 56) (k := 3) (v := 0) fz (by decide)
  refine mw_aload_n 0 C dX9_init_30 rfl rfl ?_
  refine mw_iconst C dX9_init_31 ?_
  refine mw_newA (n0 := 57) (t := 1) (ty := .int) C dX9_init_32 had hs (by omega) fz rfl (fun _ => rfl) (fun _ _ q => q) zk68 (Or.inl ⟨by decide, rfl⟩) rfl (by decide) (by decide) wd58 ⟨by omega, by omega⟩ ?_
  have fz := Fz.mono (n' := 69) fz (by decide)
  refine mw_putF (k := 4) (T := TX9) (ty0 := tyX9) C dX9_init_34 hnm (by decide) zk56 (by decide) rfl inX9 tyX9_ok nmX9 (by decide) wd188 rfl rfl rfl (fun _ => rfl) (fun _ => rfl) rfl ?_
  have fz := Fz.gup (c := 56) (k := 4) (v := 68) fz (by decide)
  refine mw_aload_n 0 C dX9_init_37 rfl rfl ?_
  refine mw_iconst C dX9_init_38 ?_
  refine mw_newA (n0 := 57) (t := 1) (ty := .int) C dX9_init_39 had hs (by omega) fz rfl (fun _ => rfl) (fun _ _ q => q) zk69 (Or.inl ⟨by decide, rfl⟩) rfl (by decide) (by decide) wd58 ⟨by omega, by omega⟩ ?_
  have fz := Fz.mono (n' := 70) fz (by decide)
  refine mw_putF (k := 5) (T := TX9) (ty0 := tyX9) C dX9_init_41 hnm (by decide) zk56 (by decide) rfl inX9 tyX9_ok nmX9 (by decide) wd190 rfl rfl rfl (fun _ => rfl) (fun _ => rfl) rfl ?_
  have fz := Fz.gup (c := 56) (k := 5) (v := 69) fz (by decide)
  refine mw_aload_n 0 C dX9_init_44 rfl rfl ?_
  refine mw_iconst C dX9_init_45 ?_
  refine mw_put (k := 6) (T := TX9) (ty0 := tyX9) (x := 0) C dX9_init_46 (by decide) zk56 (by decide) rfl inX9 tyX9_ok nmX9 (by decide) wd191 rfl rfl rfl rfl rfl (by decide) ?_
  have fz := Fz.up (c := 56) (k := 6) (v := 0) fz (by decide)
  exact mw_vret C dX9_init_49 rfl rfl
def gI_X0 (g : GH) : GH := (gup (gup g 70 7 71) 70 8 72)
def hI_X0 (h : MH) : MH := (hup (hup (hup (hup (hup (hup (hup h 70 0 0) 70 1 0) 70 2 0) 70 3 0) 70 4 0) 70 5 0) 70 6 0)
theorem fzI_X0 {g : GH} {h : MH} (fz : Fz 71 g h) : Fz 73 (gI_X0 g) (hI_X0 h) := by
  have fz := Fz.up (c := 70) (k := 0) (v := 0) fz (by decide)
  have fz := Fz.up (c := 70) (k := 1) (v := 0) fz (by decide)
  have fz := Fz.up (c := 70) (k := 2) (v := 0) fz (by decide)
  have fz := Fz.up (c := 70) (k := 3) (v := 0) fz (by decide)
  have fz := Fz.up (c := 70) (k := 4) (v := 0) fz (by decide)
  have fz := Fz.up (c := 70) (k := 5) (v := 0) fz (by decide)
  have fz := Fz.up (c := 70) (k := 6) (v := 0) fz (by decide)
  have fz := Fz.mono (n' := 72) fz (by decide)
  have fz := Fz.gup (c := 70) (k := 7) (v := 71) fz (by decide)
  have fz := Fz.mono (n' := 73) fz (by decide)
  have fz := Fz.gup (c := 70) (k := 8) (v := 72) fz (by decide)
  exact fz
set_option maxRecDepth 100000 in
set_option maxHeartbeats 4000000 in
theorem I_X0 (l : Launch) (X : XT) (had : zAd X) (g : GH) (h : MH) (fz : Fz 71 g h) : CtI l X yX0_init cX0_init 1 1 [rfv (xd X) 70] 71 g h 73 (gI_X0 g) (hI_X0 h) 2 6 := by
  refine CtI.head (by decide) (Nat.le_of_ble_eq_true rfl) (fun Z hX hl hcc hcs hnm hs hao C => ?_)
  subst hX
  subst hl
  refine mw_aload_n 0 C dX0_init_0 rfl rfl ?_
  refine mw_objInit C dX0_init_1 wd196 wd29 wd30 (by decide) (Nat.le_of_ble_eq_true rfl) ?_
  refine mw_aload_n 0 C dX0_init_4 rfl rfl ?_
  refine mw_iconst C dX0_init_5 ?_
  refine mw_put (k := 0) (T := TX0) (ty0 := tyX0) (x := 0) C dX0_init_6 (by decide) zk70 (by decide) rfl inX0 tyX0_ok nmX0 (by decide) wd197 rfl rfl (nz_n (Or.inl rfl)) (nz_f (Or.inl rfl)) rfl (by decide) ?_
  have fz := Fz.up (c := 70) (k := 0) (v := 0) fz (by decide)
  refine mw_aload_n 0 C dX0_init_9 rfl rfl ?_
  refine mw_iconst C dX0_init_10 ?_
  refine mw_put (k := 1) (T := TX0) (ty0 := tyX0) (x := 0) C dX0_init_11 (by decide) zk70 (by decide) rfl inX0 tyX0_ok nmX0 (by decide) wd199 rfl rfl rfl rfl rfl (by decide) ?_
  have fz := Fz.up (c := 70) (k := 1) (v := 0) fz (by decide)
  refine mw_aload_n 0 C dX0_init_14 rfl rfl ?_
  refine mw_iconst C dX0_init_15 ?_
  refine mw_put (k := 2) (T := TX0) (ty0 := tyX0) (x := 0) C dX0_init_16 (by decide) zk70 (by decide) rfl inX0 tyX0_ok nmX0 (by decide) wd201 rfl rfl rfl rfl rfl (by decide) ?_
  have fz := Fz.up (c := 70) (k := 2) (v := 0) fz (by decide)
  refine mw_aload_n 0 C dX0_init_19 rfl rfl ?_
  refine mw_iconst C dX0_init_20 ?_
  refine mw_put (k := 3) (T := TX0) (ty0 := tyX0) (x := 0) C dX0_init_21 (by decide) zk70 (by decide) rfl inX0 tyX0_ok nmX0 (by decide) wd203 rfl rfl rfl rfl rfl (by decide) ?_
  have fz := Fz.up (c := 70) (k := 3) (v := 0) fz (by decide)
  refine mw_aload_n 0 C dX0_init_24 rfl rfl ?_
  refine mw_iconst C dX0_init_25 ?_
  refine mw_put (k := 4) (T := TX0) (ty0 := tyX0) (x := 0) C dX0_init_26 (by decide) zk70 (by decide) rfl inX0 tyX0_ok nmX0 (by decide) wd205 rfl rfl rfl rfl rfl (by decide) ?_
  have fz := Fz.up (c := 70) (k := 4) (v := 0) fz (by decide)
  refine mw_aload_n 0 C dX0_init_29 rfl rfl ?_
  refine mw_iconst C dX0_init_30 ?_
  refine mw_put (k := 5) (T := TX0) (ty0 := tyX0) (x := 0) C dX0_init_31 (by decide) zk70 (by decide) rfl inX0 tyX0_ok nmX0 (by decide) wd207 rfl rfl rfl rfl rfl (by decide) ?_
  have fz := Fz.up (c := 70) (k := 5) (v := 0) fz (by decide)
  refine mw_aload_n 0 C dX0_init_34 rfl rfl ?_
  refine mw_iconst C dX0_init_35 ?_
  refine mw_put (k := 6) (T := TX0) (ty0 := tyX0) (x := 0) C dX0_init_36 (by decide) zk70 (by decide) rfl inX0 tyX0_ok nmX0 (by decide) wd208 rfl rfl rfl rfl rfl (by decide) ?_
  have fz := Fz.up (c := 70) (k := 6) (v := 0) fz (by decide)
  refine mw_aload_n 0 C dX0_init_39 rfl rfl ?_
  refine mw_iconst C dX0_init_40 ?_
  refine mw_newA (n0 := 71) (t := 1) (ty := .int) C dX0_init_41 had hs (by omega) fz rfl (fun _ => rfl) (fun _ _ q => q) zk71 (Or.inl ⟨by decide, rfl⟩) rfl (by decide) (by decide) wd58 ⟨by omega, by omega⟩ ?_
  have fz := Fz.mono (n' := 72) fz (by decide)
  refine mw_putF (k := 7) (T := TX0) (ty0 := tyX0) C dX0_init_43 hnm (by decide) zk70 (by decide) rfl inX0 tyX0_ok nmX0 (by decide) wd209 rfl rfl rfl (fun _ => rfl) (fun _ => rfl) rfl ?_
  have fz := Fz.gup (c := 70) (k := 7) (v := 71) fz (by decide)
  refine mw_aload_n 0 C dX0_init_46 rfl rfl ?_
  refine mw_iconst C dX0_init_47 ?_
  refine mw_newA (n0 := 71) (t := 1) (ty := .int) C dX0_init_48 had hs (by omega) fz rfl (fun _ => rfl) (fun _ _ q => q) zk72 (Or.inl ⟨by decide, rfl⟩) rfl (by decide) (by decide) wd58 ⟨by omega, by omega⟩ ?_
  have fz := Fz.mono (n' := 73) fz (by decide)
  refine mw_putF (k := 8) (T := TX0) (ty0 := tyX0) C dX0_init_50 hnm (by decide) zk70 (by decide) rfl inX0 tyX0_ok nmX0 (by decide) wd210 rfl rfl rfl (fun _ => rfl) (fun _ => rfl) rfl ?_
  have fz := Fz.gup (c := 70) (k := 8) (v := 72) fz (by decide)
  exact mw_vret C dX0_init_53 rfl rfl
def gI_X2 (g : GH) : GH := (gup g 73 0 74)
def hI_X2 (h : MH) : MH := (hup (hup (hup (hup h 73 1 0) 73 2 0) 73 3 0) 73 4 0)
theorem fzI_X2 {g : GH} {h : MH} (fz : Fz 74 g h) : Fz 75 (gI_X2 g) (hI_X2 h) := by
  have fz := Fz.mono (n' := 75) fz (by decide)
  have fz := Fz.gup (c := 73) (k := 0) (v := 74) fz (by decide)
  have fz := Fz.up (c := 73) (k := 1) (v := 0) fz (by decide)
  have fz := Fz.up (c := 73) (k := 2) (v := 0) fz (by decide)
  have fz := Fz.up (c := 73) (k := 3) (v := 0) fz (by decide)
  have fz := Fz.up (c := 73) (k := 4) (v := 0) fz (by decide)
  exact fz
set_option maxRecDepth 100000 in
set_option maxHeartbeats 4000000 in
theorem I_X2 (l : Launch) (X : XT) (had : zAd X) (g : GH) (h : MH) (fz : Fz 74 g h) : CtI l X yX2_init cX2_init 1 1 [rfv (xd X) 73] 74 g h 75 (gI_X2 g) (hI_X2 h) 1 144 := by
  refine CtI.head (by decide) (Nat.le_of_ble_eq_true rfl) (fun Z hX hl hcc hcs hnm hs hao C => ?_)
  subst hX
  subst hl
  refine mw_aload_n 0 C dX2_init_0 rfl rfl ?_
  refine mw_objInit C dX2_init_1 wd215 wd29 wd30 (by decide) (Nat.le_of_ble_eq_true rfl) ?_
  refine mw_aload_n 0 C dX2_init_4 rfl rfl ?_
  refine mw_sipush C dX2_init_5 sp_144 ?_
  refine mw_newA (n0 := 74) (t := 2) (ty := .long) C dX2_init_8 had hs (by omega) fz rfl (fun _ => rfl) (fun _ _ q => q) zk74 (Or.inr ⟨rfl, rfl⟩) rfl (by decide) (by decide) wd57 ⟨by omega, by omega⟩ ?_
  have fz := Fz.mono (n' := 75) fz (by decide)
  refine mw_putF (k := 0) (T := TX2) (ty0 := tyX2) C dX2_init_10 hnm (by decide) zk73 (by decide) rfl inX2 tyX2_ok nmX2 (by decide) wd216 rfl rfl rfl (fun _ => rfl) (fun _ => rfl) rfl ?_
  have fz := Fz.gup (c := 73) (k := 0) (v := 74) fz (by decide)
  refine mw_aload_n 0 C dX2_init_13 rfl rfl ?_
  refine mw_iconst C dX2_init_14 ?_
  refine mw_put (k := 1) (T := TX2) (ty0 := tyX2) (x := 0) C dX2_init_15 (by decide) zk73 (by decide) rfl inX2 tyX2_ok nmX2 (by decide) wd217 rfl rfl rfl rfl rfl (by decide) ?_
  have fz := Fz.up (c := 73) (k := 1) (v := 0) fz (by decide)
  refine mw_aload_n 0 C dX2_init_18 rfl rfl ?_
  refine mw_iconst C dX2_init_19 ?_
  refine mw_put (k := 2) (T := TX2) (ty0 := tyX2) (x := 0) C dX2_init_20 (by decide) zk73 (by decide) rfl inX2 tyX2_ok nmX2 (by decide) wd219 rfl rfl rfl rfl rfl (by decide) ?_
  have fz := Fz.up (c := 73) (k := 2) (v := 0) fz (by decide)
  refine mw_aload_n 0 C dX2_init_23 rfl rfl ?_
  refine mw_iconst C dX2_init_24 ?_
  refine mw_put (k := 3) (T := TX2) (ty0 := tyX2) (x := 0) C dX2_init_25 (by decide) zk73 (by decide) rfl inX2 tyX2_ok nmX2 (by decide) wd221 rfl rfl rfl rfl rfl (by decide) ?_
  have fz := Fz.up (c := 73) (k := 3) (v := 0) fz (by decide)
  refine mw_aload_n 0 C dX2_init_28 rfl rfl ?_
  refine mw_iconst C dX2_init_29 ?_
  refine mw_put (k := 4) (T := TX2) (ty0 := tyX2) (x := 0) C dX2_init_30 (by decide) zk73 (by decide) rfl inX2 tyX2_ok nmX2 (by decide) wd223 rfl rfl rfl rfl rfl (by decide) ?_
  have fz := Fz.up (c := 73) (k := 4) (v := 0) fz (by decide)
  exact mw_vret C dX2_init_33 rfl rfl
def gI_X10 (g : GH) : GH := (gup (gup g 75 0 76) 75 1 77)
def hI_X10 (h : MH) : MH := (hup (hup h 75 2 0) 75 3 0)
theorem fzI_X10 {g : GH} {h : MH} (fz : Fz 76 g h) : Fz 78 (gI_X10 g) (hI_X10 h) := by
  have fz := Fz.mono (n' := 77) fz (by decide)
  have fz := Fz.gup (c := 75) (k := 0) (v := 76) fz (by decide)
  have fz := Fz.mono (n' := 78) fz (by decide)
  have fz := Fz.gup (c := 75) (k := 1) (v := 77) fz (by decide)
  have fz := Fz.up (c := 75) (k := 2) (v := 0) fz (by decide)
  have fz := Fz.up (c := 75) (k := 3) (v := 0) fz (by decide)
  exact fz
set_option maxRecDepth 100000 in
set_option maxHeartbeats 4000000 in
theorem I_X10 (l : Launch) (X : XT) (had : zAd X) (g : GH) (h : MH) (fz : Fz 76 g h) : CtI l X yX10_init cX10_init 1 1 [rfv (xd X) 75] 76 g h 78 (gI_X10 g) (hI_X10 h) 2 14 := by
  refine CtI.head (by decide) (Nat.le_of_ble_eq_true rfl) (fun Z hX hl hcc hcs hnm hs hao C => ?_)
  subst hX
  subst hl
  refine mw_aload_n 0 C dX10_init_0 rfl rfl ?_
  refine mw_objInit C dX10_init_1 wd229 wd29 wd30 (by decide) (Nat.le_of_ble_eq_true rfl) ?_
  refine mw_aload_n 0 C dX10_init_4 rfl rfl ?_
  refine mw_bipush C dX10_init_5 bp_7 ?_
  refine mw_newA (n0 := 76) (t := 1) (ty := .int) C dX10_init_7 had hs (by omega) fz rfl (fun _ => rfl) (fun _ _ q => q) zk76 (Or.inl ⟨by decide, rfl⟩) rfl (by decide) (by decide) wd58 ⟨by omega, by omega⟩ ?_
  have fz := Fz.mono (n' := 77) fz (by decide)
  refine mw_putF (k := 0) (T := TX10) (ty0 := tyX10) C dX10_init_9 hnm (by decide) zk75 (by decide) rfl inX10 tyX10_ok nmX10 (by decide) wd230 rfl rfl rfl (fun _ => rfl) (fun _ => rfl) rfl ?_
  have fz := Fz.gup (c := 75) (k := 0) (v := 76) fz (by decide)
  refine mw_aload_n 0 C dX10_init_12 rfl rfl ?_
  refine mw_bipush C dX10_init_13 bp_7 ?_
  refine mw_newA (n0 := 76) (t := 1) (ty := .int) C dX10_init_15 had hs (by omega) fz rfl (fun _ => rfl) (fun _ _ q => q) zk77 (Or.inl ⟨by decide, rfl⟩) rfl (by decide) (by decide) wd58 ⟨by omega, by omega⟩ ?_
  have fz := Fz.mono (n' := 78) fz (by decide)
  refine mw_putF (k := 1) (T := TX10) (ty0 := tyX10) C dX10_init_17 hnm (by decide) zk75 (by decide) rfl inX10 tyX10_ok nmX10 (by decide) wd231 rfl rfl rfl (fun _ => rfl) (fun _ => rfl) rfl ?_
  have fz := Fz.gup (c := 75) (k := 1) (v := 77) fz (by decide)
  refine mw_aload_n 0 C dX10_init_20 rfl rfl ?_
  refine mw_iconst C dX10_init_21 ?_
  refine mw_put (k := 2) (T := TX10) (ty0 := tyX10) (x := 0) C dX10_init_22 (by decide) zk75 (by decide) rfl inX10 tyX10_ok nmX10 (by decide) wd233 rfl rfl rfl rfl rfl (by decide) ?_
  have fz := Fz.up (c := 75) (k := 2) (v := 0) fz (by decide)
  refine mw_aload_n 0 C dX10_init_25 rfl rfl ?_
  refine mw_iconst C dX10_init_26 ?_
  refine mw_put (k := 3) (T := TX10) (ty0 := tyX10) (x := 0) C dX10_init_27 (by decide) zk75 (by decide) rfl inX10 tyX10_ok nmX10 (by decide) wd235 rfl rfl rfl rfl rfl (by decide) ?_
  have fz := Fz.up (c := 75) (k := 3) (v := 0) fz (by decide)
  exact mw_vret C dX10_init_30 rfl rfl
def gI_X4 (g : GH) : GH := (gup (gup g 78 0 79) 78 2 80)
def hI_X4 (h : MH) : MH := (hup h 78 1 0)
theorem fzI_X4 {g : GH} {h : MH} (fz : Fz 79 g h) : Fz 81 (gI_X4 g) (hI_X4 h) := by
  have fz := Fz.mono (n' := 80) fz (by decide)
  have fz := Fz.gup (c := 78) (k := 0) (v := 79) fz (by decide)
  have fz := Fz.up (c := 78) (k := 1) (v := 0) fz (by decide)
  have fz := Fz.mono (n' := 81) fz (by decide)
  have fz := Fz.gup (c := 78) (k := 2) (v := 80) fz (by decide)
  exact fz
set_option maxRecDepth 100000 in
set_option maxHeartbeats 4000000 in
theorem I_X4 (l : Launch) (X : XT) (had : zAd X) (g : GH) (h : MH) (fz : Fz 79 g h) : CtI l X yX4_init cX4_init 1 1 [rfv (xd X) 78] 79 g h 81 (gI_X4 g) (hI_X4 h) 2 16 := by
  refine CtI.head (by decide) (Nat.le_of_ble_eq_true rfl) (fun Z hX hl hcc hcs hnm hs hao C => ?_)
  subst hX
  subst hl
  refine mw_aload_n 0 C dX4_init_0 rfl rfl ?_
  refine mw_objInit C dX4_init_1 wd240 wd29 wd30 (by decide) (Nat.le_of_ble_eq_true rfl) ?_
  refine mw_aload_n 0 C dX4_init_4 rfl rfl ?_
  refine mw_bipush C dX4_init_5 bp_8 ?_
  refine mw_newA (n0 := 79) (t := 1) (ty := .int) C dX4_init_7 had hs (by omega) fz rfl (fun _ => rfl) (fun _ _ q => q) zk79 (Or.inl ⟨by decide, rfl⟩) rfl (by decide) (by decide) wd58 ⟨by omega, by omega⟩ ?_
  have fz := Fz.mono (n' := 80) fz (by decide)
  refine mw_putF (k := 0) (T := TX4) (ty0 := tyX4) C dX4_init_9 hnm (by decide) zk78 (by decide) rfl inX4 tyX4_ok nmX4 (by decide) wd241 rfl rfl rfl (fun _ => rfl) (fun _ => rfl) rfl ?_
  have fz := Fz.gup (c := 78) (k := 0) (v := 79) fz (by decide)
  refine mw_aload_n 0 C dX4_init_12 rfl rfl ?_
  refine mw_iconst C dX4_init_13 ?_
  refine mw_put (k := 1) (T := TX4) (ty0 := tyX4) (x := 0) C dX4_init_14 (by decide) zk78 (by decide) rfl inX4 tyX4_ok nmX4 (by decide) wd243 rfl rfl rfl rfl rfl (by decide) ?_
  have fz := Fz.up (c := 78) (k := 1) (v := 0) fz (by decide)
  refine mw_aload_n 0 C dX4_init_17 rfl rfl ?_
  refine mw_bipush C dX4_init_18 bp_8 ?_
  refine mw_newA (n0 := 79) (t := 2) (ty := .long) C dX4_init_20 had hs (by omega) fz rfl (fun _ => rfl) (fun _ _ q => q) zk80 (Or.inr ⟨rfl, rfl⟩) rfl (by decide) (by decide) wd57 ⟨by omega, by omega⟩ ?_
  have fz := Fz.mono (n' := 81) fz (by decide)
  refine mw_putF (k := 2) (T := TX4) (ty0 := tyX4) C dX4_init_22 hnm (by decide) zk78 (by decide) rfl inX4 tyX4_ok nmX4 (by decide) wd245 rfl rfl rfl (fun _ => rfl) (fun _ => rfl) rfl ?_
  have fz := Fz.gup (c := 78) (k := 2) (v := 80) fz (by decide)
  exact mw_vret C dX4_init_25 rfl rfl
def gI_X11 (g : GH) : GH := (gup (gI_X6 136 (gup (gI_X5 121 (gup (gI_X6 116 (gup (gI_X5 101 (gup (gI_X6 96 (gup (gI_X5 81 (gup (gI_X4 (gup (gI_X10 (gup (gI_X2 (gup (gI_X0 (gup (gI_X9 (gup (gup (gup (gI_X6 49 (gup (gI_X5 34 (gup (gI_X7 (gup (gI_X3 (gup (gI_X8 (gup (gup (gup (gmul g 1) 0 3 1) 0 4 6) 0 5 7)) 0 6 8)) 0 7 10)) 0 8 27)) 0 9 34)) 0 10 49) 0 11 54) 0 12 55)) 0 14 56)) 0 15 70)) 0 16 73)) 0 17 75)) 0 18 78)) 54 0 81)) 55 0 96)) 54 1 101)) 55 1 116)) 54 2 121)) 55 2 136)
def hI_X11 (h : MH) : MH := (hI_X6 136 (hI_X5 121 (hI_X6 116 (hI_X5 101 (hI_X6 96 (hI_X5 81 (hup (hup (hup (hup (hI_X4 (hI_X10 (hI_X2 (hI_X0 (hI_X9 (hup (hI_X6 49 (hI_X5 34 (hI_X7 (hI_X3 (hI_X8 (hup (hup (hup h 0 0 0) 0 1 0) 0 2 1)))))) 0 13 0)))))) 7 0 (-1)) 7 1 (-1)) 7 2 (-1)) 7 3 (-1))))))))
theorem fzI_X11 {g : GH} {h : MH} (fz : Fz 1 g h) : Fz 141 (gI_X11 g) (hI_X11 h) := by
  have fz := Fz.up (c := 0) (k := 0) (v := 0) fz (by decide)
  have fz := Fz.up (c := 0) (k := 1) (v := 0) fz (by decide)
  have fz := Fz.up (c := 0) (k := 2) (v := 1) fz (by decide)
  have fz := fz_mul (g := g) fz
  have fz := Fz.gup (c := 0) (k := 3) (v := 1) fz (by decide)
  have fz := Fz.mono (n' := 7) fz (by decide)
  have fz := Fz.gup (c := 0) (k := 4) (v := 6) fz (by decide)
  have fz := Fz.mono (n' := 8) fz (by decide)
  have fz := Fz.gup (c := 0) (k := 5) (v := 7) fz (by decide)
  have fz := Fz.mono (n' := 9) fz (by decide)
  have fz := fzI_X8 fz
  have fz := Fz.gup (c := 0) (k := 6) (v := 8) fz (by decide)
  have fz := Fz.mono (n' := 11) fz (by decide)
  have fz := fzI_X3 fz
  have fz := Fz.gup (c := 0) (k := 7) (v := 10) fz (by decide)
  have fz := Fz.mono (n' := 28) fz (by decide)
  have fz := fzI_X7 fz
  have fz := Fz.gup (c := 0) (k := 8) (v := 27) fz (by decide)
  have fz := Fz.mono (n' := 35) fz (by decide)
  have fz := fzI_X5 34 ok_34 fz
  have fz := Fz.gup (c := 0) (k := 9) (v := 34) fz (by decide)
  have fz := Fz.mono (n' := 50) fz (by decide)
  have fz := fzI_X6 49 ok_49 fz
  have fz := Fz.gup (c := 0) (k := 10) (v := 49) fz (by decide)
  have fz := Fz.mono (n' := 55) fz (by decide)
  have fz := Fz.gup (c := 0) (k := 11) (v := 54) fz (by decide)
  have fz := Fz.mono (n' := 56) fz (by decide)
  have fz := Fz.gup (c := 0) (k := 12) (v := 55) fz (by decide)
  have fz := Fz.up (c := 0) (k := 13) (v := 0) fz (by decide)
  have fz := Fz.mono (n' := 57) fz (by decide)
  have fz := fzI_X9 fz
  have fz := Fz.gup (c := 0) (k := 14) (v := 56) fz (by decide)
  have fz := Fz.mono (n' := 71) fz (by decide)
  have fz := fzI_X0 fz
  have fz := Fz.gup (c := 0) (k := 15) (v := 70) fz (by decide)
  have fz := Fz.mono (n' := 74) fz (by decide)
  have fz := fzI_X2 fz
  have fz := Fz.gup (c := 0) (k := 16) (v := 73) fz (by decide)
  have fz := Fz.mono (n' := 76) fz (by decide)
  have fz := fzI_X10 fz
  have fz := Fz.gup (c := 0) (k := 17) (v := 75) fz (by decide)
  have fz := Fz.mono (n' := 79) fz (by decide)
  have fz := fzI_X4 fz
  have fz := Fz.gup (c := 0) (k := 18) (v := 78) fz (by decide)
  have fz := Fz.up (c := 7) (k := 0) (v := (-1)) fz (by decide)
  have fz := Fz.up (c := 7) (k := 1) (v := (-1)) fz (by decide)
  have fz := Fz.up (c := 7) (k := 2) (v := (-1)) fz (by decide)
  have fz := Fz.up (c := 7) (k := 3) (v := (-1)) fz (by decide)
  have fz := Fz.mono (n' := 82) fz (by decide)
  have fz := fzI_X5 81 ok_81 fz
  have fz := Fz.gup (c := 54) (k := 0) (v := 81) fz (by decide)
  have fz := Fz.mono (n' := 97) fz (by decide)
  have fz := fzI_X6 96 ok_96 fz
  have fz := Fz.gup (c := 55) (k := 0) (v := 96) fz (by decide)
  have fz := Fz.mono (n' := 102) fz (by decide)
  have fz := fzI_X5 101 ok_101 fz
  have fz := Fz.gup (c := 54) (k := 1) (v := 101) fz (by decide)
  have fz := Fz.mono (n' := 117) fz (by decide)
  have fz := fzI_X6 116 ok_116 fz
  have fz := Fz.gup (c := 55) (k := 1) (v := 116) fz (by decide)
  have fz := Fz.mono (n' := 122) fz (by decide)
  have fz := fzI_X5 121 ok_121 fz
  have fz := Fz.gup (c := 54) (k := 2) (v := 121) fz (by decide)
  have fz := Fz.mono (n' := 137) fz (by decide)
  have fz := fzI_X6 136 ok_136 fz
  have fz := Fz.gup (c := 55) (k := 2) (v := 136) fz (by decide)
  exact fz
set_option maxRecDepth 100000 in
set_option maxHeartbeats 4000000 in
theorem I_X11 (l : Launch) (X : XT) (had : zAd X) (g : GH) (h : MH) (fz : Fz 1 g h) : CtI l X yX11_init cX11_init 2 4 [rfv (xd X) 0] 1 g h 141 (gI_X11 g) (hI_X11 h) 140 2894 := by
  refine CtI.head (by decide) (Nat.le_of_ble_eq_true rfl) (fun Z hX hl hcc hcs hnm hs hao C => ?_)
  subst hX
  subst hl
  refine mw_aload_n 0 C dX11_init_0 rfl rfl ?_
  refine mw_objInit C dX11_init_1 wd28 wd29 wd30 (by decide) (Nat.le_of_ble_eq_true rfl) ?_
  refine mw_aload_n 0 C dX11_init_4 rfl rfl ?_
  refine mw_iconst C dX11_init_5 ?_
  refine mw_put (k := 0) (T := TX11) (ty0 := tyX11) (x := 0) C dX11_init_6 (by decide) zk0 (by decide) rfl inX11 tyX11_ok nmX11 (by decide) wd249 rfl rfl rfl rfl rfl (by decide) ?_
  have fz := Fz.up (c := 0) (k := 0) (v := 0) fz (by decide)
  refine mw_aload_n 0 C dX11_init_9 rfl rfl ?_
  refine mw_lconst (a := 0) C dX11_init_10 lc_0 ?_
  refine mw_put (k := 1) (T := TX11) (ty0 := tyX11) (x := 0) C dX11_init_11 (by decide) zk0 (by decide) rfl inX11 tyX11_ok nmX11 (by decide) wd250 rfl rfl rfl rfl rfl (by decide) ?_
  have fz := Fz.up (c := 0) (k := 1) (v := 0) fz (by decide)
  refine mw_aload_n 0 C dX11_init_14 rfl rfl ?_
  refine mw_lconst (a := 1) C dX11_init_15 lc_1 ?_
  refine mw_put (k := 2) (T := TX11) (ty0 := tyX11) (x := 1) C dX11_init_16 (by decide) zk0 (by decide) rfl inX11 tyX11_ok nmX11 (by decide) wd251 rfl rfl rfl rfl rfl (by decide) ?_
  have fz := Fz.up (c := 0) (k := 2) (v := 1) fz (by decide)
  refine mw_aload_n 0 C dX11_init_19 rfl rfl ?_
  refine mw_iconst C dX11_init_20 ?_
  refine mw_bipush C dX11_init_21 bp_60 ?_
  refine mw_multi (n0 := 1) C dX11_init_23 had hs (by omega) hao fz zk1 (by decide +kernel) wd31 wd57 ⟨by omega, by omega⟩ ?_
  have fz := fz_mul (g := g) fz
  refine mw_putF (k := 3) (T := TX11) (ty0 := tyX11) C dX11_init_27 hnm (by decide) zk0 (by decide) rfl inX11 tyX11_ok nmX11 (by decide) wd252 rfl rfl rfl (fun _ => rfl) (fun _ => rfl) rfl ?_
  have fz := Fz.gup (c := 0) (k := 3) (v := 1) fz (by decide)
  refine mw_aload_n 0 C dX11_init_30 rfl rfl ?_
  refine mw_iconst C dX11_init_31 ?_
  refine mw_newA (n0 := 1) (t := 1) (ty := .int) C dX11_init_32 had hs (by omega) fz rfl (fun _ => rfl) (fun _ _ q => q) zk6 (Or.inl ⟨by decide, rfl⟩) rfl (by decide) (by decide) wd58 ⟨by omega, by omega⟩ ?_
  have fz := Fz.mono (n' := 7) fz (by decide)
  refine mw_putF (k := 4) (T := TX11) (ty0 := tyX11) C dX11_init_34 hnm (by decide) zk0 (by decide) rfl inX11 tyX11_ok nmX11 (by decide) wd253 rfl rfl rfl (fun _ => rfl) (fun _ => rfl) rfl ?_
  have fz := Fz.gup (c := 0) (k := 4) (v := 6) fz (by decide)
  refine mw_aload_n 0 C dX11_init_37 rfl rfl ?_
  refine mw_iconst C dX11_init_38 ?_
  refine mw_newA (n0 := 1) (t := 1) (ty := .int) C dX11_init_39 had hs (by omega) fz rfl (fun _ => rfl) (fun _ _ q => q) zk7 (Or.inl ⟨by decide, rfl⟩) rfl (by decide) (by decide) wd58 ⟨by omega, by omega⟩ ?_
  have fz := Fz.mono (n' := 8) fz (by decide)
  refine mw_putF (k := 5) (T := TX11) (ty0 := tyX11) C dX11_init_41 hnm (by decide) zk0 (by decide) rfl inX11 tyX11_ok nmX11 (by decide) wd254 rfl rfl rfl (fun _ => rfl) (fun _ => rfl) rfl ?_
  have fz := Fz.gup (c := 0) (k := 5) (v := 7) fz (by decide)
  refine mw_aload_n 0 C dX11_init_44 rfl rfl ?_
  refine mw_new (n0 := 1) (ty0 := tyX8) C dX11_init_45 had hs (by omega) fz zk8 (by decide) rfl inX8 tyX8_ok dfX8 wd32 wd33 wd2 ⟨by omega, by omega⟩ ?_
  have fz := Fz.mono (n' := 9) fz (by decide)
  refine mw_dup C dX11_init_48 rfl ?_
  refine mw_callIN (n0 := 1) (c := 8) [] [rfv (xd (zX Z)) 8, rfv (xd (zX Z)) 0] C dX11_init_49 had hs (by omega) hao (I_X8 (zl Z) (zX Z) had (gup (gup (gup (gmul g 1) 0 3 1) 0 4 6) 0 5 7) (hup (hup (hup h 0 0 0) 0 1 0) 0 2 1) fz) rfl rfl zne_X11_34 wd34 wd2 wd35 hd_X8_init rfl (by decide) (by decide) (Nat.le_of_ble_eq_true rfl) ⟨by omega, by omega⟩ ?_
  have fz := fzI_X8 fz
  refine mw_putF (k := 6) (T := TX11) (ty0 := tyX11) C dX11_init_52 hnm (by decide) zk0 (by decide) rfl inX11 tyX11_ok nmX11 (by decide) wd255 rfl rfl rfl (fun _ => rfl) (fun _ => rfl) rfl ?_
  have fz := Fz.gup (c := 0) (k := 6) (v := 8) fz (by decide)
  refine mw_aload_n 0 C dX11_init_55 rfl rfl ?_
  refine mw_new (n0 := 1) (ty0 := tyX3) C dX11_init_56 had hs (by omega) fz zk10 (by decide) rfl inX3 tyX3_ok dfX3 wd60 wd61 wd3 ⟨by omega, by omega⟩ ?_
  have fz := Fz.mono (n' := 11) fz (by decide)
  refine mw_dup C dX11_init_59 rfl ?_
  refine mw_aload_n 0 C dX11_init_60 rfl rfl ?_
  refine mw_get (k := 6) (T := TX11) (v := rfv (xd (zX Z)) 8) C dX11_init_61 (by decide) zk0 (by decide) rfl inX11 (by decide) wd255 rfl (zfv_r rfl rfl) ?_
  refine mw_callI (n0 := 1) (c := 10) [rfv (xd (zX Z)) 8] [rfv (xd (zX Z)) 10, rfv (xd (zX Z)) 0] C dX11_init_64 had hs (by omega) hao (I_X3 (zl Z) (zX Z) had (gup (gI_X8 (gup (gup (gup (gmul g 1) 0 3 1) 0 4 6) 0 5 7)) 0 6 8) (hI_X8 (hup (hup (hup h 0 0 0) 0 1 0) 0 2 1)) fz) rfl rfl wd62 wd63 wd3 wd64 hd_X3_init rfl (by decide) (by decide) (Nat.le_of_ble_eq_true rfl) ⟨by omega, by omega⟩ ?_
  have fz := fzI_X3 fz
  refine mw_putF (k := 7) (T := TX11) (ty0 := tyX11) C dX11_init_67 hnm (by decide) zk0 (by decide) rfl inX11 tyX11_ok nmX11 (by decide) wd256 rfl rfl rfl (fun _ => rfl) (fun _ => rfl) rfl ?_
  have fz := Fz.gup (c := 0) (k := 7) (v := 10) fz (by decide)
  refine mw_aload_n 0 C dX11_init_70 rfl rfl ?_
  refine mw_new (n0 := 1) (ty0 := tyX7) C dX11_init_71 had hs (by omega) fz zk27 (by decide) rfl inX7 tyX7_ok dfX7 wd141 wd142 wd6 ⟨by omega, by omega⟩ ?_
  have fz := Fz.mono (n' := 28) fz (by decide)
  refine mw_dup C dX11_init_74 rfl ?_
  refine mw_aload_n 0 C dX11_init_75 rfl rfl ?_
  refine mw_get (k := 6) (T := TX11) (v := rfv (xd (zX Z)) 8) C dX11_init_76 (by decide) zk0 (by decide) rfl inX11 (by decide) wd255 rfl (zfv_r rfl rfl) ?_
  refine mw_callI (n0 := 1) (c := 27) [rfv (xd (zX Z)) 8] [rfv (xd (zX Z)) 27, rfv (xd (zX Z)) 0] C dX11_init_79 had hs (by omega) hao (I_X7 (zl Z) (zX Z) had (gup (gI_X3 (gup (gI_X8 (gup (gup (gup (gmul g 1) 0 3 1) 0 4 6) 0 5 7)) 0 6 8)) 0 7 10) (hI_X3 (hI_X8 (hup (hup (hup h 0 0 0) 0 1 0) 0 2 1))) fz) rfl rfl wd143 wd144 wd6 wd145 hd_X7_init rfl (by decide) (by decide) (Nat.le_of_ble_eq_true rfl) ⟨by omega, by omega⟩ ?_
  have fz := fzI_X7 fz
  refine mw_putF (k := 8) (T := TX11) (ty0 := tyX11) C dX11_init_82 hnm (by decide) zk0 (by decide) rfl inX11 tyX11_ok nmX11 (by decide) wd257 rfl rfl rfl (fun _ => rfl) (fun _ => rfl) rfl ?_
  have fz := Fz.gup (c := 0) (k := 8) (v := 27) fz (by decide)
  refine mw_aload_n 0 C dX11_init_85 rfl rfl ?_
  refine mw_new (n0 := 1) (ty0 := tyX5) C dX11_init_86 had hs (by omega) fz zk34 (by decide) rfl inX5 tyX5_ok dfX5 wd173 wd67 wd4 ⟨by omega, by omega⟩ ?_
  have fz := Fz.mono (n' := 35) fz (by decide)
  refine mw_dup C dX11_init_89 rfl ?_
  refine mw_callIN (n0 := 1) (c := 34) [] [rfv (xd (zX Z)) 34, rfv (xd (zX Z)) 0] C dX11_init_90 had hs (by omega) hao (I_X5 (zl Z) (zX Z) had 34 ok_34 (gup (gI_X7 (gup (gI_X3 (gup (gI_X8 (gup (gup (gup (gmul g 1) 0 3 1) 0 4 6) 0 5 7)) 0 6 8)) 0 7 10)) 0 8 27) (hI_X7 (hI_X3 (hI_X8 (hup (hup (hup h 0 0 0) 0 1 0) 0 2 1)))) fz) rfl rfl zne_X11_57 wd68 wd4 wd69 hd_X5_init rfl (by decide) (by decide) (Nat.le_of_ble_eq_true rfl) ⟨by omega, by omega⟩ ?_
  have fz := fzI_X5 34 ok_34 fz
  refine mw_putF (k := 9) (T := TX11) (ty0 := tyX11) C dX11_init_93 hnm (by decide) zk0 (by decide) rfl inX11 tyX11_ok nmX11 (by decide) wd258 rfl rfl rfl (fun _ => rfl) (fun _ => rfl) rfl ?_
  have fz := Fz.gup (c := 0) (k := 9) (v := 34) fz (by decide)
  refine mw_aload_n 0 C dX11_init_96 rfl rfl ?_
  refine mw_new (n0 := 1) (ty0 := tyX6) C dX11_init_97 had hs (by omega) fz zk49 (by decide) rfl inX6 tyX6_ok dfX6 wd174 wd148 wd7 ⟨by omega, by omega⟩ ?_
  have fz := Fz.mono (n' := 50) fz (by decide)
  refine mw_dup C dX11_init_100 rfl ?_
  refine mw_callIN (n0 := 1) (c := 49) [] [rfv (xd (zX Z)) 49, rfv (xd (zX Z)) 0] C dX11_init_101 had hs (by omega) hao (I_X6 (zl Z) (zX Z) had 49 ok_49 (gup (gI_X5 34 (gup (gI_X7 (gup (gI_X3 (gup (gI_X8 (gup (gup (gup (gmul g 1) 0 3 1) 0 4 6) 0 5 7)) 0 6 8)) 0 7 10)) 0 8 27)) 0 9 34) (hI_X5 34 (hI_X7 (hI_X3 (hI_X8 (hup (hup (hup h 0 0 0) 0 1 0) 0 2 1))))) fz) rfl rfl zne_X11_64 wd149 wd7 wd150 hd_X6_init rfl (by decide) (by decide) (Nat.le_of_ble_eq_true rfl) ⟨by omega, by omega⟩ ?_
  have fz := fzI_X6 49 ok_49 fz
  refine mw_putF (k := 10) (T := TX11) (ty0 := tyX11) C dX11_init_104 hnm (by decide) zk0 (by decide) rfl inX11 tyX11_ok nmX11 (by decide) wd259 rfl rfl rfl (fun _ => rfl) (fun _ => rfl) rfl ?_
  have fz := Fz.gup (c := 0) (k := 10) (v := 49) fz (by decide)
  refine mw_aload_n 0 C dX11_init_107 rfl rfl ?_
  refine mw_iconst C dX11_init_108 ?_
  refine mw_newQ (n0 := 1) (t := 4) C dX11_init_109 had hs (by omega) fz (fun _ => rfl) zk54 (by decide) rfl (by decide) wd173 (Cond.arrayOver_alike (Vm.Alike.refl _) (hao _ (by simp [zOver]))) ⟨by omega, by omega⟩ ?_
  have fz := Fz.mono (n' := 55) fz (by decide)
  refine mw_putF (k := 11) (T := TX11) (ty0 := tyX11) C dX11_init_112 hnm (by decide) zk0 (by decide) rfl inX11 tyX11_ok nmX11 (by decide) wd260 rfl rfl rfl (fun _ => rfl) (fun _ => rfl) rfl ?_
  have fz := Fz.gup (c := 0) (k := 11) (v := 54) fz (by decide)
  refine mw_aload_n 0 C dX11_init_115 rfl rfl ?_
  refine mw_iconst C dX11_init_116 ?_
  refine mw_newQ (n0 := 1) (t := 5) C dX11_init_117 had hs (by omega) fz (fun _ => rfl) zk55 (by decide) rfl (by decide) wd174 (Cond.arrayOver_alike (Vm.Alike.refl _) (hao _ (by simp [zOver]))) ⟨by omega, by omega⟩ ?_
  have fz := Fz.mono (n' := 56) fz (by decide)
  refine mw_putF (k := 12) (T := TX11) (ty0 := tyX11) C dX11_init_120 hnm (by decide) zk0 (by decide) rfl inX11 tyX11_ok nmX11 (by decide) wd261 rfl rfl rfl (fun _ => rfl) (fun _ => rfl) rfl ?_
  have fz := Fz.gup (c := 0) (k := 12) (v := 55) fz (by decide)
  refine mw_aload_n 0 C dX11_init_123 rfl rfl ?_
  refine mw_iconst C dX11_init_124 ?_
  refine mw_put (k := 13) (T := TX11) (ty0 := tyX11) (x := 0) C dX11_init_125 (by decide) zk0 (by decide) rfl inX11 tyX11_ok nmX11 (by decide) wd262 rfl rfl rfl rfl rfl (by decide) ?_
  have fz := Fz.up (c := 0) (k := 13) (v := 0) fz (by decide)
  refine mw_aload_n 0 C dX11_init_128 rfl rfl ?_
  refine mw_new (n0 := 1) (ty0 := tyX9) C dX11_init_129 had hs (by omega) fz zk56 (by decide) rfl inX9 tyX9_ok dfX9 wd175 wd176 wd8 ⟨by omega, by omega⟩ ?_
  have fz := Fz.mono (n' := 57) fz (by decide)
  refine mw_dup C dX11_init_132 rfl ?_
  refine mw_callIN (n0 := 1) (c := 56) [] [rfv (xd (zX Z)) 56, rfv (xd (zX Z)) 0] C dX11_init_133 had hs (by omega) hao (I_X9 (zl Z) (zX Z) had (gup (gup (gup (gI_X6 49 (gup (gI_X5 34 (gup (gI_X7 (gup (gI_X3 (gup (gI_X8 (gup (gup (gup (gmul g 1) 0 3 1) 0 4 6) 0 5 7)) 0 6 8)) 0 7 10)) 0 8 27)) 0 9 34)) 0 10 49) 0 11 54) 0 12 55) (hup (hI_X6 49 (hI_X5 34 (hI_X7 (hI_X3 (hI_X8 (hup (hup (hup h 0 0 0) 0 1 0) 0 2 1)))))) 0 13 0) fz) rfl rfl zne_X11_82 wd177 wd8 wd178 hd_X9_init rfl (by decide) (by decide) (Nat.le_of_ble_eq_true rfl) ⟨by omega, by omega⟩ ?_
  have fz := fzI_X9 fz
  refine mw_putF (k := 14) (T := TX11) (ty0 := tyX11) C dX11_init_136 hnm (by decide) zk0 (by decide) rfl inX11 tyX11_ok nmX11 (by decide) wd263 rfl rfl rfl (fun _ => rfl) (fun _ => rfl) rfl ?_
  have fz := Fz.gup (c := 0) (k := 14) (v := 56) fz (by decide)
  refine mw_aload_n 0 C dX11_init_139 rfl rfl ?_
  refine mw_new (n0 := 1) (ty0 := tyX0) C dX11_init_140 had hs (by omega) fz zk70 (by decide) rfl inX0 tyX0_ok dfX0 wd192 wd193 wd9 ⟨by omega, by omega⟩ ?_
  have fz := Fz.mono (n' := 71) fz (by decide)
  refine mw_dup C dX11_init_143 rfl ?_
  refine mw_callIN (n0 := 1) (c := 70) [] [rfv (xd (zX Z)) 70, rfv (xd (zX Z)) 0] C dX11_init_144 had hs (by omega) hao (I_X0 (zl Z) (zX Z) had (gup (gI_X9 (gup (gup (gup (gI_X6 49 (gup (gI_X5 34 (gup (gI_X7 (gup (gI_X3 (gup (gI_X8 (gup (gup (gup (gmul g 1) 0 3 1) 0 4 6) 0 5 7)) 0 6 8)) 0 7 10)) 0 8 27)) 0 9 34)) 0 10 49) 0 11 54) 0 12 55)) 0 14 56) (hI_X9 (hup (hI_X6 49 (hI_X5 34 (hI_X7 (hI_X3 (hI_X8 (hup (hup (hup h 0 0 0) 0 1 0) 0 2 1)))))) 0 13 0)) fz) rfl rfl zne_X11_89 wd194 wd9 wd195 hd_X0_init rfl (by decide) (by decide) (Nat.le_of_ble_eq_true rfl) ⟨by omega, by omega⟩ ?_
  have fz := fzI_X0 fz
  refine mw_putF (k := 15) (T := TX11) (ty0 := tyX11) C dX11_init_147 hnm (by decide) zk0 (by decide) rfl inX11 tyX11_ok nmX11 (by decide) wd264 rfl rfl rfl (fun _ => rfl) (fun _ => rfl) rfl ?_
  have fz := Fz.gup (c := 0) (k := 15) (v := 70) fz (by decide)
  refine mw_aload_n 0 C dX11_init_150 rfl rfl ?_
  refine mw_new (n0 := 1) (ty0 := tyX2) C dX11_init_151 had hs (by omega) fz zk73 (by decide) rfl inX2 tyX2_ok dfX2 wd211 wd212 wd10 ⟨by omega, by omega⟩ ?_
  have fz := Fz.mono (n' := 74) fz (by decide)
  refine mw_dup C dX11_init_154 rfl ?_
  refine mw_callIN (n0 := 1) (c := 73) [] [rfv (xd (zX Z)) 73, rfv (xd (zX Z)) 0] C dX11_init_155 had hs (by omega) hao (I_X2 (zl Z) (zX Z) had (gup (gI_X0 (gup (gI_X9 (gup (gup (gup (gI_X6 49 (gup (gI_X5 34 (gup (gI_X7 (gup (gI_X3 (gup (gI_X8 (gup (gup (gup (gmul g 1) 0 3 1) 0 4 6) 0 5 7)) 0 6 8)) 0 7 10)) 0 8 27)) 0 9 34)) 0 10 49) 0 11 54) 0 12 55)) 0 14 56)) 0 15 70) (hI_X0 (hI_X9 (hup (hI_X6 49 (hI_X5 34 (hI_X7 (hI_X3 (hI_X8 (hup (hup (hup h 0 0 0) 0 1 0) 0 2 1)))))) 0 13 0))) fz) rfl rfl zne_X11_96 wd213 wd10 wd214 hd_X2_init rfl (by decide) (by decide) (Nat.le_of_ble_eq_true rfl) ⟨by omega, by omega⟩ ?_
  have fz := fzI_X2 fz
  refine mw_putF (k := 16) (T := TX11) (ty0 := tyX11) C dX11_init_158 hnm (by decide) zk0 (by decide) rfl inX11 tyX11_ok nmX11 (by decide) wd265 rfl rfl rfl (fun _ => rfl) (fun _ => rfl) rfl ?_
  have fz := Fz.gup (c := 0) (k := 16) (v := 73) fz (by decide)
  refine mw_aload_n 0 C dX11_init_161 rfl rfl ?_
  refine mw_new (n0 := 1) (ty0 := tyX10) C dX11_init_162 had hs (by omega) fz zk75 (by decide) rfl inX10 tyX10_ok dfX10 wd225 wd226 wd11 ⟨by omega, by omega⟩ ?_
  have fz := Fz.mono (n' := 76) fz (by decide)
  refine mw_dup C dX11_init_165 rfl ?_
  refine mw_callIN (n0 := 1) (c := 75) [] [rfv (xd (zX Z)) 75, rfv (xd (zX Z)) 0] C dX11_init_166 had hs (by omega) hao (I_X10 (zl Z) (zX Z) had (gup (gI_X2 (gup (gI_X0 (gup (gI_X9 (gup (gup (gup (gI_X6 49 (gup (gI_X5 34 (gup (gI_X7 (gup (gI_X3 (gup (gI_X8 (gup (gup (gup (gmul g 1) 0 3 1) 0 4 6) 0 5 7)) 0 6 8)) 0 7 10)) 0 8 27)) 0 9 34)) 0 10 49) 0 11 54) 0 12 55)) 0 14 56)) 0 15 70)) 0 16 73) (hI_X2 (hI_X0 (hI_X9 (hup (hI_X6 49 (hI_X5 34 (hI_X7 (hI_X3 (hI_X8 (hup (hup (hup h 0 0 0) 0 1 0) 0 2 1)))))) 0 13 0)))) fz) rfl rfl zne_X11_103 wd227 wd11 wd228 hd_X10_init rfl (by decide) (by decide) (Nat.le_of_ble_eq_true rfl) ⟨by omega, by omega⟩ ?_
  have fz := fzI_X10 fz
  refine mw_putF (k := 17) (T := TX11) (ty0 := tyX11) C dX11_init_169 hnm (by decide) zk0 (by decide) rfl inX11 tyX11_ok nmX11 (by decide) wd266 rfl rfl rfl (fun _ => rfl) (fun _ => rfl) rfl ?_
  have fz := Fz.gup (c := 0) (k := 17) (v := 75) fz (by decide)
  refine mw_aload_n 0 C dX11_init_172 rfl rfl ?_
  refine mw_new (n0 := 1) (ty0 := tyX4) C dX11_init_173 had hs (by omega) fz zk78 (by decide) rfl inX4 tyX4_ok dfX4 wd236 wd237 wd12 ⟨by omega, by omega⟩ ?_
  have fz := Fz.mono (n' := 79) fz (by decide)
  refine mw_dup C dX11_init_176 rfl ?_
  refine mw_callIN (n0 := 1) (c := 78) [] [rfv (xd (zX Z)) 78, rfv (xd (zX Z)) 0] C dX11_init_177 had hs (by omega) hao (I_X4 (zl Z) (zX Z) had (gup (gI_X10 (gup (gI_X2 (gup (gI_X0 (gup (gI_X9 (gup (gup (gup (gI_X6 49 (gup (gI_X5 34 (gup (gI_X7 (gup (gI_X3 (gup (gI_X8 (gup (gup (gup (gmul g 1) 0 3 1) 0 4 6) 0 5 7)) 0 6 8)) 0 7 10)) 0 8 27)) 0 9 34)) 0 10 49) 0 11 54) 0 12 55)) 0 14 56)) 0 15 70)) 0 16 73)) 0 17 75) (hI_X10 (hI_X2 (hI_X0 (hI_X9 (hup (hI_X6 49 (hI_X5 34 (hI_X7 (hI_X3 (hI_X8 (hup (hup (hup h 0 0 0) 0 1 0) 0 2 1)))))) 0 13 0))))) fz) rfl rfl zne_X11_110 wd238 wd12 wd239 hd_X4_init rfl (by decide) (by decide) (Nat.le_of_ble_eq_true rfl) ⟨by omega, by omega⟩ ?_
  have fz := fzI_X4 fz
  refine mw_putF (k := 18) (T := TX11) (ty0 := tyX11) C dX11_init_180 hnm (by decide) zk0 (by decide) rfl inX11 tyX11_ok nmX11 (by decide) wd267 rfl rfl rfl (fun _ => rfl) (fun _ => rfl) rfl ?_
  have fz := Fz.gup (c := 0) (k := 18) (v := 78) fz (by decide)
  refine mw_aload_n 0 C dX11_init_183 rfl rfl ?_
  refine mw_get (k := 5) (T := TX11) (v := rfv (xd (zX Z)) 7) C dX11_init_184 (by decide) zk0 (by decide) rfl inX11 (by decide) wd254 rfl (zfv_r rfl rfl) ?_
  refine mw_iconst C dX11_init_187 ?_
  refine mw_callS [rfv (xd (zX Z)) 7, iv (-1)] [] C dX11_init_188 (Tg_J7_fill_53178 (zl Z) (zX Z) 81 (gup (gI_X4 (gup (gI_X10 (gup (gI_X2 (gup (gI_X0 (gup (gI_X9 (gup (gup (gup (gI_X6 49 (gup (gI_X5 34 (gup (gI_X7 (gup (gI_X3 (gup (gI_X8 (gup (gup (gup (gmul g 1) 0 3 1) 0 4 6) 0 5 7)) 0 6 8)) 0 7 10)) 0 8 27)) 0 9 34)) 0 10 49) 0 11 54) 0 12 55)) 0 14 56)) 0 15 70)) 0 16 73)) 0 17 75)) 0 18 78) 7 4 (-1) ⟨zk7, by decide, by decide⟩ _ _ (fillx_7 (hI_X4 (hI_X10 (hI_X2 (hI_X0 (hI_X9 (hup (hI_X6 49 (hI_X5 34 (hI_X7 (hI_X3 (hI_X8 (hup (hup (hup h 0 0 0) 0 1 0) 0 2 1)))))) 0 13 0)))))))) rfl wd246 wd247 wd13 wd248 hd_J7_fill_53178 rfl (by decide) (by decide) (Nat.le_of_ble_eq_true rfl) ⟨by omega, by omega⟩ ?_
  have fz := Fz.up (c := 7) (k := 0) (v := (-1)) fz (by decide)
  have fz := Fz.up (c := 7) (k := 1) (v := (-1)) fz (by decide)
  have fz := Fz.up (c := 7) (k := 2) (v := (-1)) fz (by decide)
  have fz := Fz.up (c := 7) (k := 3) (v := (-1)) fz (by decide)
  refine mw_iconst C dX11_init_191 ?_
  refine mw_istore_n [(1, iv 0), (0, rfv (xd (zX Z)) 0)] C dX11_init_192 rfl (by decide) rfl ?_
  refine mw_iload_n 0 C dX11_init_193 rfl rfl ?_
  refine mw_iconst C dX11_init_194 ?_
  refine mw_icmp_ge_f (tgt := 230) C dX11_init_195 (by decide) (by decide) (by decide) (by decide) ?_
  refine mw_aload_n 1 C dX11_init_198 rfl rfl ?_
  refine mw_get (k := 11) (T := TX11) (v := rfv (xd (zX Z)) 54) C dX11_init_199 (by decide) zk0 (by decide) rfl inX11 (by decide) wd260 rfl (zfv_r rfl rfl) ?_
  refine mw_iload_n 0 C dX11_init_202 rfl rfl ?_
  refine mw_new (n0 := 1) (ty0 := tyX5) C dX11_init_203 had hs (by omega) fz zk81 (by decide) rfl inX5 tyX5_ok dfX5 wd173 wd67 wd4 ⟨by omega, by omega⟩ ?_
  have fz := Fz.mono (n' := 82) fz (by decide)
  refine mw_dup C dX11_init_206 rfl ?_
  refine mw_callIN (n0 := 1) (c := 81) [] [rfv (xd (zX Z)) 81, iv 0, rfv (xd (zX Z)) 54] C dX11_init_207 had hs (by omega) hao (I_X5 (zl Z) (zX Z) had 81 ok_81 (gup (gI_X4 (gup (gI_X10 (gup (gI_X2 (gup (gI_X0 (gup (gI_X9 (gup (gup (gup (gI_X6 49 (gup (gI_X5 34 (gup (gI_X7 (gup (gI_X3 (gup (gI_X8 (gup (gup (gup (gmul g 1) 0 3 1) 0 4 6) 0 5 7)) 0 6 8)) 0 7 10)) 0 8 27)) 0 9 34)) 0 10 49) 0 11 54) 0 12 55)) 0 14 56)) 0 15 70)) 0 16 73)) 0 17 75)) 0 18 78) (hup (hup (hup (hup (hI_X4 (hI_X10 (hI_X2 (hI_X0 (hI_X9 (hup (hI_X6 49 (hI_X5 34 (hI_X7 (hI_X3 (hI_X8 (hup (hup (hup h 0 0 0) 0 1 0) 0 2 1)))))) 0 13 0)))))) 7 0 (-1)) 7 1 (-1)) 7 2 (-1)) 7 3 (-1)) fz) rfl rfl zne_X11_57 wd68 wd4 wd69 hd_X5_init rfl (by decide) (by decide) (Nat.le_of_ble_eq_true rfl) ⟨by omega, by omega⟩ ?_
  have fz := fzI_X5 81 ok_81 fz
  refine mw_aast (t := 4) (c2 := 81) C dX11_init_210 (by decide) zk54 (by decide) (fun _ => rfl) (by decide) zk81 (by decide) rfl (by decide) (by decide) ?_
  have fz := Fz.gup (c := 54) (k := 0) (v := 81) fz (by decide)
  refine mw_aload_n 1 C dX11_init_211 rfl rfl ?_
  refine mw_get (k := 12) (T := TX11) (v := rfv (xd (zX Z)) 55) C dX11_init_212 (by decide) zk0 (by decide) rfl inX11 (by decide) wd261 rfl (zfv_r rfl rfl) ?_
  refine mw_iload_n 0 C dX11_init_215 rfl rfl ?_
  refine mw_new (n0 := 1) (ty0 := tyX6) C dX11_init_216 had hs (by omega) fz zk96 (by decide) rfl inX6 tyX6_ok dfX6 wd174 wd148 wd7 ⟨by omega, by omega⟩ ?_
  have fz := Fz.mono (n' := 97) fz (by decide)
  refine mw_dup C dX11_init_219 rfl ?_
  refine mw_callIN (n0 := 1) (c := 96) [] [rfv (xd (zX Z)) 96, iv 0, rfv (xd (zX Z)) 55] C dX11_init_220 had hs (by omega) hao (I_X6 (zl Z) (zX Z) had 96 ok_96 (gup (gI_X5 81 (gup (gI_X4 (gup (gI_X10 (gup (gI_X2 (gup (gI_X0 (gup (gI_X9 (gup (gup (gup (gI_X6 49 (gup (gI_X5 34 (gup (gI_X7 (gup (gI_X3 (gup (gI_X8 (gup (gup (gup (gmul g 1) 0 3 1) 0 4 6) 0 5 7)) 0 6 8)) 0 7 10)) 0 8 27)) 0 9 34)) 0 10 49) 0 11 54) 0 12 55)) 0 14 56)) 0 15 70)) 0 16 73)) 0 17 75)) 0 18 78)) 54 0 81) (hI_X5 81 (hup (hup (hup (hup (hI_X4 (hI_X10 (hI_X2 (hI_X0 (hI_X9 (hup (hI_X6 49 (hI_X5 34 (hI_X7 (hI_X3 (hI_X8 (hup (hup (hup h 0 0 0) 0 1 0) 0 2 1)))))) 0 13 0)))))) 7 0 (-1)) 7 1 (-1)) 7 2 (-1)) 7 3 (-1))) fz) rfl rfl zne_X11_64 wd149 wd7 wd150 hd_X6_init rfl (by decide) (by decide) (Nat.le_of_ble_eq_true rfl) ⟨by omega, by omega⟩ ?_
  have fz := fzI_X6 96 ok_96 fz
  refine mw_aast (t := 5) (c2 := 96) C dX11_init_223 (by decide) zk55 (by decide) (fun _ => rfl) (by decide) zk96 (by decide) rfl (by decide) (by decide) ?_
  have fz := Fz.gup (c := 55) (k := 0) (v := 96) fz (by decide)
  refine mw_iinc 0 [(1, iv (0 + 1)), (0, rfv (xd (zX Z)) 0)] C dX11_init_224 rfl (by decide) rfl ?_
  refine mw_eq (lvs' := [(1, iv 1), (0, rfv (xd (zX Z)) 0)]) rfl rfl rfl ?_
  refine mw_goto (tgt := 193) C dX11_init_227 (by decide) ?_
  refine mw_iload_n 0 C dX11_init_193 rfl rfl ?_
  refine mw_iconst C dX11_init_194 ?_
  refine mw_icmp_ge_f (tgt := 230) C dX11_init_195 (by decide) (by decide) (by decide) (by decide) ?_
  refine mw_aload_n 1 C dX11_init_198 rfl rfl ?_
  refine mw_get (k := 11) (T := TX11) (v := rfv (xd (zX Z)) 54) C dX11_init_199 (by decide) zk0 (by decide) rfl inX11 (by decide) wd260 rfl (zfv_r rfl rfl) ?_
  refine mw_iload_n 0 C dX11_init_202 rfl rfl ?_
  refine mw_new (n0 := 1) (ty0 := tyX5) C dX11_init_203 had hs (by omega) fz zk101 (by decide) rfl inX5 tyX5_ok dfX5 wd173 wd67 wd4 ⟨by omega, by omega⟩ ?_
  have fz := Fz.mono (n' := 102) fz (by decide)
  refine mw_dup C dX11_init_206 rfl ?_
  refine mw_callIN (n0 := 1) (c := 101) [] [rfv (xd (zX Z)) 101, iv 1, rfv (xd (zX Z)) 54] C dX11_init_207 had hs (by omega) hao (I_X5 (zl Z) (zX Z) had 101 ok_101 (gup (gI_X6 96 (gup (gI_X5 81 (gup (gI_X4 (gup (gI_X10 (gup (gI_X2 (gup (gI_X0 (gup (gI_X9 (gup (gup (gup (gI_X6 49 (gup (gI_X5 34 (gup (gI_X7 (gup (gI_X3 (gup (gI_X8 (gup (gup (gup (gmul g 1) 0 3 1) 0 4 6) 0 5 7)) 0 6 8)) 0 7 10)) 0 8 27)) 0 9 34)) 0 10 49) 0 11 54) 0 12 55)) 0 14 56)) 0 15 70)) 0 16 73)) 0 17 75)) 0 18 78)) 54 0 81)) 55 0 96) (hI_X6 96 (hI_X5 81 (hup (hup (hup (hup (hI_X4 (hI_X10 (hI_X2 (hI_X0 (hI_X9 (hup (hI_X6 49 (hI_X5 34 (hI_X7 (hI_X3 (hI_X8 (hup (hup (hup h 0 0 0) 0 1 0) 0 2 1)))))) 0 13 0)))))) 7 0 (-1)) 7 1 (-1)) 7 2 (-1)) 7 3 (-1)))) fz) rfl rfl zne_X11_57 wd68 wd4 wd69 hd_X5_init rfl (by decide) (by decide) (Nat.le_of_ble_eq_true rfl) ⟨by omega, by omega⟩ ?_
  have fz := fzI_X5 101 ok_101 fz
  refine mw_aast (t := 4) (c2 := 101) C dX11_init_210 (by decide) zk54 (by decide) (fun _ => rfl) (by decide) zk101 (by decide) rfl (by decide) (by decide) ?_
  have fz := Fz.gup (c := 54) (k := 1) (v := 101) fz (by decide)
  refine mw_aload_n 1 C dX11_init_211 rfl rfl ?_
  refine mw_get (k := 12) (T := TX11) (v := rfv (xd (zX Z)) 55) C dX11_init_212 (by decide) zk0 (by decide) rfl inX11 (by decide) wd261 rfl (zfv_r rfl rfl) ?_
  refine mw_iload_n 0 C dX11_init_215 rfl rfl ?_
  refine mw_new (n0 := 1) (ty0 := tyX6) C dX11_init_216 had hs (by omega) fz zk116 (by decide) rfl inX6 tyX6_ok dfX6 wd174 wd148 wd7 ⟨by omega, by omega⟩ ?_
  have fz := Fz.mono (n' := 117) fz (by decide)
  refine mw_dup C dX11_init_219 rfl ?_
  refine mw_callIN (n0 := 1) (c := 116) [] [rfv (xd (zX Z)) 116, iv 1, rfv (xd (zX Z)) 55] C dX11_init_220 had hs (by omega) hao (I_X6 (zl Z) (zX Z) had 116 ok_116 (gup (gI_X5 101 (gup (gI_X6 96 (gup (gI_X5 81 (gup (gI_X4 (gup (gI_X10 (gup (gI_X2 (gup (gI_X0 (gup (gI_X9 (gup (gup (gup (gI_X6 49 (gup (gI_X5 34 (gup (gI_X7 (gup (gI_X3 (gup (gI_X8 (gup (gup (gup (gmul g 1) 0 3 1) 0 4 6) 0 5 7)) 0 6 8)) 0 7 10)) 0 8 27)) 0 9 34)) 0 10 49) 0 11 54) 0 12 55)) 0 14 56)) 0 15 70)) 0 16 73)) 0 17 75)) 0 18 78)) 54 0 81)) 55 0 96)) 54 1 101) (hI_X5 101 (hI_X6 96 (hI_X5 81 (hup (hup (hup (hup (hI_X4 (hI_X10 (hI_X2 (hI_X0 (hI_X9 (hup (hI_X6 49 (hI_X5 34 (hI_X7 (hI_X3 (hI_X8 (hup (hup (hup h 0 0 0) 0 1 0) 0 2 1)))))) 0 13 0)))))) 7 0 (-1)) 7 1 (-1)) 7 2 (-1)) 7 3 (-1))))) fz) rfl rfl zne_X11_64 wd149 wd7 wd150 hd_X6_init rfl (by decide) (by decide) (Nat.le_of_ble_eq_true rfl) ⟨by omega, by omega⟩ ?_
  have fz := fzI_X6 116 ok_116 fz
  refine mw_aast (t := 5) (c2 := 116) C dX11_init_223 (by decide) zk55 (by decide) (fun _ => rfl) (by decide) zk116 (by decide) rfl (by decide) (by decide) ?_
  have fz := Fz.gup (c := 55) (k := 1) (v := 116) fz (by decide)
  refine mw_iinc 0 [(1, iv (1 + 1)), (0, rfv (xd (zX Z)) 0)] C dX11_init_224 rfl (by decide) rfl ?_
  refine mw_eq (lvs' := [(1, iv 2), (0, rfv (xd (zX Z)) 0)]) rfl rfl rfl ?_
  refine mw_goto (tgt := 193) C dX11_init_227 (by decide) ?_
  refine mw_iload_n 0 C dX11_init_193 rfl rfl ?_
  refine mw_iconst C dX11_init_194 ?_
  refine mw_icmp_ge_f (tgt := 230) C dX11_init_195 (by decide) (by decide) (by decide) (by decide) ?_
  refine mw_aload_n 1 C dX11_init_198 rfl rfl ?_
  refine mw_get (k := 11) (T := TX11) (v := rfv (xd (zX Z)) 54) C dX11_init_199 (by decide) zk0 (by decide) rfl inX11 (by decide) wd260 rfl (zfv_r rfl rfl) ?_
  refine mw_iload_n 0 C dX11_init_202 rfl rfl ?_
  refine mw_new (n0 := 1) (ty0 := tyX5) C dX11_init_203 had hs (by omega) fz zk121 (by decide) rfl inX5 tyX5_ok dfX5 wd173 wd67 wd4 ⟨by omega, by omega⟩ ?_
  have fz := Fz.mono (n' := 122) fz (by decide)
  refine mw_dup C dX11_init_206 rfl ?_
  refine mw_callIN (n0 := 1) (c := 121) [] [rfv (xd (zX Z)) 121, iv 2, rfv (xd (zX Z)) 54] C dX11_init_207 had hs (by omega) hao (I_X5 (zl Z) (zX Z) had 121 ok_121 (gup (gI_X6 116 (gup (gI_X5 101 (gup (gI_X6 96 (gup (gI_X5 81 (gup (gI_X4 (gup (gI_X10 (gup (gI_X2 (gup (gI_X0 (gup (gI_X9 (gup (gup (gup (gI_X6 49 (gup (gI_X5 34 (gup (gI_X7 (gup (gI_X3 (gup (gI_X8 (gup (gup (gup (gmul g 1) 0 3 1) 0 4 6) 0 5 7)) 0 6 8)) 0 7 10)) 0 8 27)) 0 9 34)) 0 10 49) 0 11 54) 0 12 55)) 0 14 56)) 0 15 70)) 0 16 73)) 0 17 75)) 0 18 78)) 54 0 81)) 55 0 96)) 54 1 101)) 55 1 116) (hI_X6 116 (hI_X5 101 (hI_X6 96 (hI_X5 81 (hup (hup (hup (hup (hI_X4 (hI_X10 (hI_X2 (hI_X0 (hI_X9 (hup (hI_X6 49 (hI_X5 34 (hI_X7 (hI_X3 (hI_X8 (hup (hup (hup h 0 0 0) 0 1 0) 0 2 1)))))) 0 13 0)))))) 7 0 (-1)) 7 1 (-1)) 7 2 (-1)) 7 3 (-1)))))) fz) rfl rfl zne_X11_57 wd68 wd4 wd69 hd_X5_init rfl (by decide) (by decide) (Nat.le_of_ble_eq_true rfl) ⟨by omega, by omega⟩ ?_
  have fz := fzI_X5 121 ok_121 fz
  refine mw_aast (t := 4) (c2 := 121) C dX11_init_210 (by decide) zk54 (by decide) (fun _ => rfl) (by decide) zk121 (by decide) rfl (by decide) (by decide) ?_
  have fz := Fz.gup (c := 54) (k := 2) (v := 121) fz (by decide)
  refine mw_aload_n 1 C dX11_init_211 rfl rfl ?_
  refine mw_get (k := 12) (T := TX11) (v := rfv (xd (zX Z)) 55) C dX11_init_212 (by decide) zk0 (by decide) rfl inX11 (by decide) wd261 rfl (zfv_r rfl rfl) ?_
  refine mw_iload_n 0 C dX11_init_215 rfl rfl ?_
  refine mw_new (n0 := 1) (ty0 := tyX6) C dX11_init_216 had hs (by omega) fz zk136 (by decide) rfl inX6 tyX6_ok dfX6 wd174 wd148 wd7 ⟨by omega, by omega⟩ ?_
  have fz := Fz.mono (n' := 137) fz (by decide)
  refine mw_dup C dX11_init_219 rfl ?_
  refine mw_callIN (n0 := 1) (c := 136) [] [rfv (xd (zX Z)) 136, iv 2, rfv (xd (zX Z)) 55] C dX11_init_220 had hs (by omega) hao (I_X6 (zl Z) (zX Z) had 136 ok_136 (gup (gI_X5 121 (gup (gI_X6 116 (gup (gI_X5 101 (gup (gI_X6 96 (gup (gI_X5 81 (gup (gI_X4 (gup (gI_X10 (gup (gI_X2 (gup (gI_X0 (gup (gI_X9 (gup (gup (gup (gI_X6 49 (gup (gI_X5 34 (gup (gI_X7 (gup (gI_X3 (gup (gI_X8 (gup (gup (gup (gmul g 1) 0 3 1) 0 4 6) 0 5 7)) 0 6 8)) 0 7 10)) 0 8 27)) 0 9 34)) 0 10 49) 0 11 54) 0 12 55)) 0 14 56)) 0 15 70)) 0 16 73)) 0 17 75)) 0 18 78)) 54 0 81)) 55 0 96)) 54 1 101)) 55 1 116)) 54 2 121) (hI_X5 121 (hI_X6 116 (hI_X5 101 (hI_X6 96 (hI_X5 81 (hup (hup (hup (hup (hI_X4 (hI_X10 (hI_X2 (hI_X0 (hI_X9 (hup (hI_X6 49 (hI_X5 34 (hI_X7 (hI_X3 (hI_X8 (hup (hup (hup h 0 0 0) 0 1 0) 0 2 1)))))) 0 13 0)))))) 7 0 (-1)) 7 1 (-1)) 7 2 (-1)) 7 3 (-1))))))) fz) rfl rfl zne_X11_64 wd149 wd7 wd150 hd_X6_init rfl (by decide) (by decide) (Nat.le_of_ble_eq_true rfl) ⟨by omega, by omega⟩ ?_
  have fz := fzI_X6 136 ok_136 fz
  refine mw_aast (t := 5) (c2 := 136) C dX11_init_223 (by decide) zk55 (by decide) (fun _ => rfl) (by decide) zk136 (by decide) rfl (by decide) (by decide) ?_
  have fz := Fz.gup (c := 55) (k := 2) (v := 136) fz (by decide)
  refine mw_iinc 0 [(1, iv (2 + 1)), (0, rfv (xd (zX Z)) 0)] C dX11_init_224 rfl (by decide) rfl ?_
  refine mw_eq (lvs' := [(1, iv 3), (0, rfv (xd (zX Z)) 0)]) rfl rfl rfl ?_
  refine mw_goto (tgt := 193) C dX11_init_227 (by decide) ?_
  refine mw_iload_n 0 C dX11_init_193 rfl rfl ?_
  refine mw_iconst C dX11_init_194 ?_
  refine mw_icmp_ge_t (tgt := 230) C dX11_init_195 (by decide) (by decide) (by decide) (by decide) ?_
  exact mw_vret C dX11_init_230 rfl rfl
def gI_X12 (g : GH) : GH := (gup (gup (gup (gup (gup (gup (gup (gup (gup (gup (gup (gup (gup (gup (gup (gup (gup (gup (gup (gup (gup (gup (gup (gup g 141 0 142) 141 4 143) 141 5 144) 141 6 145) 141 7 146) 141 8 147) 141 18 148) 141 19 149) 141 20 150) 141 25 151) 141 26 152) 141 28 153) 141 33 154) 141 34 155) 141 35 156) 141 36 157) 141 37 158) 141 38 159) 141 42 160) 141 43 161) 141 44 162) 141 46 163) 141 47 164) 141 48 165)
def hI_X12 (h : MH) : MH := (hup (hup (hup (hup (hup (hup (hup (hup (hup h 141 3 1) 144 0 (-1)) 144 1 (-1)) 144 2 (-1)) 144 3 (-1)) 141 15 (-1)) 141 16 (-1)) 141 30 (-1)) 141 41 (-1))
theorem fzI_X12 {g : GH} {h : MH} (fz : Fz 142 g h) : Fz 166 (gI_X12 g) (hI_X12 h) := by
  have fz := Fz.mono (n' := 143) fz (by decide)
  have fz := Fz.gup (c := 141) (k := 0) (v := 142) fz (by decide)
  have fz := Fz.up (c := 141) (k := 3) (v := 1) fz (by decide)
  have fz := Fz.mono (n' := 144) fz (by decide)
  have fz := Fz.gup (c := 141) (k := 4) (v := 143) fz (by decide)
  have fz := Fz.mono (n' := 145) fz (by decide)
  have fz := Fz.up (c := 144) (k := 0) (v := (-1)) fz (by decide)
  have fz := Fz.up (c := 144) (k := 1) (v := (-1)) fz (by decide)
  have fz := Fz.up (c := 144) (k := 2) (v := (-1)) fz (by decide)
  have fz := Fz.up (c := 144) (k := 3) (v := (-1)) fz (by decide)
  have fz := Fz.gup (c := 141) (k := 5) (v := 144) fz (by decide)
  have fz := Fz.mono (n' := 146) fz (by decide)
  have fz := Fz.gup (c := 141) (k := 6) (v := 145) fz (by decide)
  have fz := Fz.mono (n' := 147) fz (by decide)
  have fz := Fz.gup (c := 141) (k := 7) (v := 146) fz (by decide)
  have fz := Fz.mono (n' := 148) fz (by decide)
  have fz := Fz.gup (c := 141) (k := 8) (v := 147) fz (by decide)
  have fz := Fz.up (c := 141) (k := 15) (v := (-1)) fz (by decide)
  have fz := Fz.up (c := 141) (k := 16) (v := (-1)) fz (by decide)
  have fz := Fz.mono (n' := 149) fz (by decide)
  have fz := Fz.gup (c := 141) (k := 18) (v := 148) fz (by decide)
  have fz := Fz.mono (n' := 150) fz (by decide)
  have fz := Fz.gup (c := 141) (k := 19) (v := 149) fz (by decide)
  have fz := Fz.mono (n' := 151) fz (by decide)
  have fz := Fz.gup (c := 141) (k := 20) (v := 150) fz (by decide)
  have fz := Fz.mono (n' := 152) fz (by decide)
  have fz := Fz.gup (c := 141) (k := 25) (v := 151) fz (by decide)
  have fz := Fz.mono (n' := 153) fz (by decide)
  have fz := Fz.gup (c := 141) (k := 26) (v := 152) fz (by decide)
  have fz := Fz.mono (n' := 154) fz (by decide)
  have fz := Fz.gup (c := 141) (k := 28) (v := 153) fz (by decide)
  have fz := Fz.up (c := 141) (k := 30) (v := (-1)) fz (by decide)
  have fz := Fz.mono (n' := 155) fz (by decide)
  have fz := Fz.gup (c := 141) (k := 33) (v := 154) fz (by decide)
  have fz := Fz.mono (n' := 156) fz (by decide)
  have fz := Fz.gup (c := 141) (k := 34) (v := 155) fz (by decide)
  have fz := Fz.mono (n' := 157) fz (by decide)
  have fz := Fz.gup (c := 141) (k := 35) (v := 156) fz (by decide)
  have fz := Fz.mono (n' := 158) fz (by decide)
  have fz := Fz.gup (c := 141) (k := 36) (v := 157) fz (by decide)
  have fz := Fz.mono (n' := 159) fz (by decide)
  have fz := Fz.gup (c := 141) (k := 37) (v := 158) fz (by decide)
  have fz := Fz.mono (n' := 160) fz (by decide)
  have fz := Fz.gup (c := 141) (k := 38) (v := 159) fz (by decide)
  have fz := Fz.up (c := 141) (k := 41) (v := (-1)) fz (by decide)
  have fz := Fz.mono (n' := 161) fz (by decide)
  have fz := Fz.gup (c := 141) (k := 42) (v := 160) fz (by decide)
  have fz := Fz.mono (n' := 162) fz (by decide)
  have fz := Fz.gup (c := 141) (k := 43) (v := 161) fz (by decide)
  have fz := Fz.mono (n' := 163) fz (by decide)
  have fz := Fz.gup (c := 141) (k := 44) (v := 162) fz (by decide)
  have fz := Fz.mono (n' := 164) fz (by decide)
  have fz := Fz.gup (c := 141) (k := 46) (v := 163) fz (by decide)
  have fz := Fz.mono (n' := 165) fz (by decide)
  have fz := Fz.gup (c := 141) (k := 47) (v := 164) fz (by decide)
  have fz := Fz.mono (n' := 166) fz (by decide)
  have fz := Fz.gup (c := 141) (k := 48) (v := 165) fz (by decide)
  exact fz
set_option maxRecDepth 100000 in
set_option maxHeartbeats 4000000 in
theorem I_X12 (l : Launch) (X : XT) (had : zAd X) (g : GH) (h : MH) (fz : Fz 142 g h) : CtI l X yX12_init cX12_init 1 1 [rfv (xd X) 141] 142 g h 166 (gI_X12 g) (hI_X12 h) 24 26044 := by
  refine CtI.head (by decide) (Nat.le_of_ble_eq_true rfl) (fun Z hX hl hcc hcs hnm hs hao C => ?_)
  subst hX
  subst hl
  refine mw_aload_n 0 C dX12_init_0 rfl rfl ?_
  refine mw_objInit C dX12_init_1 wd888 wd29 wd30 (by decide) (Nat.le_of_ble_eq_true rfl) ?_
  refine mw_aload_n 0 C dX12_init_4 rfl rfl ?_
  refine mw_sipush C dX12_init_5 sp_2640 ?_
  refine mw_newA (n0 := 142) (t := 2) (ty := .long) C dX12_init_8 had hs (by omega) fz rfl (fun _ => rfl) (fun _ _ q => q) zk142 (Or.inr ⟨rfl, rfl⟩) rfl (by decide) (by decide) wd57 ⟨by omega, by omega⟩ ?_
  have fz := Fz.mono (n' := 143) fz (by decide)
  refine mw_putF (k := 0) (T := TX12) (ty0 := tyX12) C dX12_init_10 hnm (by decide) zk141 (by decide) rfl inX12 tyX12_ok nmX12 (by decide) wd889 rfl rfl rfl (fun _ => rfl) (fun _ => rfl) rfl ?_
  have fz := Fz.gup (c := 141) (k := 0) (v := 142) fz (by decide)
  refine mw_aload_n 0 C dX12_init_13 rfl rfl ?_
  refine mw_lconst (a := 1) C dX12_init_14 lc_1 ?_
  refine mw_put (k := 3) (T := TX12) (ty0 := tyX12) (x := 1) C dX12_init_15 (by decide) zk141 (by decide) rfl inX12 tyX12_ok nmX12 (by decide) wd892 rfl rfl rfl rfl rfl (by decide) ?_
  have fz := Fz.up (c := 141) (k := 3) (v := 1) fz (by decide)
  refine mw_aload_n 0 C dX12_init_18 rfl rfl ?_
  refine mw_iconst C dX12_init_19 ?_
  refine mw_newA (n0 := 142) (t := 1) (ty := .int) C dX12_init_20 had hs (by omega) fz rfl (fun _ => rfl) (fun _ _ q => q) zk143 (Or.inl ⟨by decide, rfl⟩) rfl (by decide) (by decide) wd58 ⟨by omega, by omega⟩ ?_
  have fz := Fz.mono (n' := 144) fz (by decide)
  refine mw_putF (k := 4) (T := TX12) (ty0 := tyX12) C dX12_init_22 hnm (by decide) zk141 (by decide) rfl inX12 tyX12_ok nmX12 (by decide) wd893 rfl rfl rfl (fun _ => rfl) (fun _ => rfl) rfl ?_
  have fz := Fz.gup (c := 141) (k := 4) (v := 143) fz (by decide)
  refine mw_aload_n 0 C dX12_init_25 rfl rfl ?_
  refine mw_iconst C dX12_init_26 ?_
  refine mw_newA (n0 := 142) (t := 1) (ty := .int) C dX12_init_27 had hs (by omega) fz rfl (fun _ => rfl) (fun _ _ q => q) zk144 (Or.inl ⟨by decide, rfl⟩) rfl (by decide) (by decide) wd58 ⟨by omega, by omega⟩ ?_
  have fz := Fz.mono (n' := 145) fz (by decide)
  refine mw_dup C dX12_init_29 rfl ?_
  refine mw_iconst C dX12_init_30 ?_
  refine mw_iconst C dX12_init_31 ?_
  refine mw_iast C dX12_init_32 (by decide) zk144 (by decide) (by decide) ?_
  have fz := Fz.up (c := 144) (k := 0) (v := (-1)) fz (by decide)
  refine mw_dup C dX12_init_33 rfl ?_
  refine mw_iconst C dX12_init_34 ?_
  refine mw_iconst C dX12_init_35 ?_
  refine mw_iast C dX12_init_36 (by decide) zk144 (by decide) (by decide) ?_
  have fz := Fz.up (c := 144) (k := 1) (v := (-1)) fz (by decide)
  refine mw_dup C dX12_init_37 rfl ?_
  refine mw_iconst C dX12_init_38 ?_
  refine mw_iconst C dX12_init_39 ?_
  refine mw_iast C dX12_init_40 (by decide) zk144 (by decide) (by decide) ?_
  have fz := Fz.up (c := 144) (k := 2) (v := (-1)) fz (by decide)
  refine mw_dup C dX12_init_41 rfl ?_
  refine mw_iconst C dX12_init_42 ?_
  refine mw_iconst C dX12_init_43 ?_
  refine mw_iast C dX12_init_44 (by decide) zk144 (by decide) (by decide) ?_
  have fz := Fz.up (c := 144) (k := 3) (v := (-1)) fz (by decide)
  refine mw_putF (k := 5) (T := TX12) (ty0 := tyX12) C dX12_init_45 hnm (by decide) zk141 (by decide) rfl inX12 tyX12_ok nmX12 (by decide) wd894 rfl rfl rfl (fun _ => rfl) (fun _ => rfl) rfl ?_
  have fz := Fz.gup (c := 141) (k := 5) (v := 144) fz (by decide)
  refine mw_aload_n 0 C dX12_init_48 rfl rfl ?_
  refine mw_sipush C dX12_init_49 sp_240 ?_
  refine mw_newA (n0 := 142) (t := 2) (ty := .long) C dX12_init_52 had hs (by omega) fz rfl (fun _ => rfl) (fun _ _ q => q) zk145 (Or.inr ⟨rfl, rfl⟩) rfl (by decide) (by decide) wd57 ⟨by omega, by omega⟩ ?_
  have fz := Fz.mono (n' := 146) fz (by decide)
  refine mw_putF (k := 6) (T := TX12) (ty0 := tyX12) C dX12_init_54 hnm (by decide) zk141 (by decide) rfl inX12 tyX12_ok nmX12 (by decide) wd895 rfl rfl rfl (fun _ => rfl) (fun _ => rfl) rfl ?_
  have fz := Fz.gup (c := 141) (k := 6) (v := 145) fz (by decide)
  refine mw_aload_n 0 C dX12_init_57 rfl rfl ?_
  refine mw_sipush C dX12_init_58 sp_700 ?_
  refine mw_newA (n0 := 142) (t := 0) (ty := .byte) C dX12_init_61 had hs (by omega) fz rfl (fun _ => rfl) (fun _ _ q => q) zk146 (Or.inl ⟨by decide, rfl⟩) rfl (by decide) (by decide) wd59 ⟨by omega, by omega⟩ ?_
  have fz := Fz.mono (n' := 147) fz (by decide)
  refine mw_putF (k := 7) (T := TX12) (ty0 := tyX12) C dX12_init_63 hnm (by decide) zk141 (by decide) rfl inX12 tyX12_ok nmX12 (by decide) wd896 rfl rfl rfl (fun _ => rfl) (fun _ => rfl) rfl ?_
  have fz := Fz.gup (c := 141) (k := 7) (v := 146) fz (by decide)
  refine mw_aload_n 0 C dX12_init_66 rfl rfl ?_
  refine mw_sipush C dX12_init_67 sp_700 ?_
  refine mw_newA (n0 := 142) (t := 0) (ty := .byte) C dX12_init_70 had hs (by omega) fz rfl (fun _ => rfl) (fun _ _ q => q) zk147 (Or.inl ⟨by decide, rfl⟩) rfl (by decide) (by decide) wd59 ⟨by omega, by omega⟩ ?_
  have fz := Fz.mono (n' := 148) fz (by decide)
  refine mw_putF (k := 8) (T := TX12) (ty0 := tyX12) C dX12_init_72 hnm (by decide) zk141 (by decide) rfl inX12 tyX12_ok nmX12 (by decide) wd897 rfl rfl rfl (fun _ => rfl) (fun _ => rfl) rfl ?_
  have fz := Fz.gup (c := 141) (k := 8) (v := 147) fz (by decide)
  refine mw_aload_n 0 C dX12_init_75 rfl rfl ?_
  refine mw_iconst C dX12_init_76 ?_
  refine mw_put (k := 15) (T := TX12) (ty0 := tyX12) (x := (-1)) C dX12_init_77 (by decide) zk141 (by decide) rfl inX12 tyX12_ok nmX12 (by decide) wd904 rfl rfl rfl rfl rfl (by decide) ?_
  have fz := Fz.up (c := 141) (k := 15) (v := (-1)) fz (by decide)
  refine mw_aload_n 0 C dX12_init_80 rfl rfl ?_
  refine mw_iconst C dX12_init_81 ?_
  refine mw_put (k := 16) (T := TX12) (ty0 := tyX12) (x := (-1)) C dX12_init_82 (by decide) zk141 (by decide) rfl inX12 tyX12_ok nmX12 (by decide) wd905 rfl rfl rfl rfl rfl (by decide) ?_
  have fz := Fz.up (c := 141) (k := 16) (v := (-1)) fz (by decide)
  refine mw_aload_n 0 C dX12_init_85 rfl rfl ?_
  refine mw_bipush C dX12_init_86 bp_7 ?_
  refine mw_newA (n0 := 142) (t := 2) (ty := .long) C dX12_init_88 had hs (by omega) fz rfl (fun _ => rfl) (fun _ _ q => q) zk148 (Or.inr ⟨rfl, rfl⟩) rfl (by decide) (by decide) wd57 ⟨by omega, by omega⟩ ?_
  have fz := Fz.mono (n' := 149) fz (by decide)
  refine mw_putF (k := 18) (T := TX12) (ty0 := tyX12) C dX12_init_90 hnm (by decide) zk141 (by decide) rfl inX12 tyX12_ok nmX12 (by decide) wd907 rfl rfl rfl (fun _ => rfl) (fun _ => rfl) rfl ?_
  have fz := Fz.gup (c := 141) (k := 18) (v := 148) fz (by decide)
  refine mw_aload_n 0 C dX12_init_93 rfl rfl ?_
  refine mw_bipush C dX12_init_94 bp_49 ?_
  refine mw_newA (n0 := 142) (t := 3) (ty := .boolean) C dX12_init_96 had hs (by omega) fz rfl (fun _ => rfl) (fun _ _ q => q) zk149 (Or.inl ⟨by decide, rfl⟩) rfl (by decide) (by decide) wd940 ⟨by omega, by omega⟩ ?_
  have fz := Fz.mono (n' := 150) fz (by decide)
  refine mw_putF (k := 19) (T := TX12) (ty0 := tyX12) C dX12_init_98 hnm (by decide) zk141 (by decide) rfl inX12 tyX12_ok nmX12 (by decide) wd908 rfl rfl rfl (fun _ => rfl) (fun _ => rfl) rfl ?_
  have fz := Fz.gup (c := 141) (k := 19) (v := 149) fz (by decide)
  refine mw_aload_n 0 C dX12_init_101 rfl rfl ?_
  refine mw_iconst C dX12_init_102 ?_
  refine mw_newA (n0 := 142) (t := 1) (ty := .int) C dX12_init_103 had hs (by omega) fz rfl (fun _ => rfl) (fun _ _ q => q) zk150 (Or.inl ⟨by decide, rfl⟩) rfl (by decide) (by decide) wd58 ⟨by omega, by omega⟩ ?_
  have fz := Fz.mono (n' := 151) fz (by decide)
  refine mw_putF (k := 20) (T := TX12) (ty0 := tyX12) C dX12_init_105 hnm (by decide) zk141 (by decide) rfl inX12 tyX12_ok nmX12 (by decide) wd909 rfl rfl rfl (fun _ => rfl) (fun _ => rfl) rfl ?_
  have fz := Fz.gup (c := 141) (k := 20) (v := 150) fz (by decide)
  refine mw_aload_n 0 C dX12_init_108 rfl rfl ?_
  refine mw_iconst C dX12_init_109 ?_
  refine mw_newA (n0 := 142) (t := 1) (ty := .int) C dX12_init_110 had hs (by omega) fz rfl (fun _ => rfl) (fun _ _ q => q) zk151 (Or.inl ⟨by decide, rfl⟩) rfl (by decide) (by decide) wd58 ⟨by omega, by omega⟩ ?_
  have fz := Fz.mono (n' := 152) fz (by decide)
  refine mw_putF (k := 25) (T := TX12) (ty0 := tyX12) C dX12_init_112 hnm (by decide) zk141 (by decide) rfl inX12 tyX12_ok nmX12 (by decide) wd914 rfl rfl rfl (fun _ => rfl) (fun _ => rfl) rfl ?_
  have fz := Fz.gup (c := 141) (k := 25) (v := 151) fz (by decide)
  refine mw_aload_n 0 C dX12_init_115 rfl rfl ?_
  refine mw_iconst C dX12_init_116 ?_
  refine mw_newA (n0 := 142) (t := 1) (ty := .int) C dX12_init_117 had hs (by omega) fz rfl (fun _ => rfl) (fun _ _ q => q) zk152 (Or.inl ⟨by decide, rfl⟩) rfl (by decide) (by decide) wd58 ⟨by omega, by omega⟩ ?_
  have fz := Fz.mono (n' := 153) fz (by decide)
  refine mw_putF (k := 26) (T := TX12) (ty0 := tyX12) C dX12_init_119 hnm (by decide) zk141 (by decide) rfl inX12 tyX12_ok nmX12 (by decide) wd915 rfl rfl rfl (fun _ => rfl) (fun _ => rfl) rfl ?_
  have fz := Fz.gup (c := 141) (k := 26) (v := 152) fz (by decide)
  refine mw_aload_n 0 C dX12_init_122 rfl rfl ?_
  refine mw_bipush C dX12_init_123 bp_64 ?_
  refine mw_newA (n0 := 142) (t := 1) (ty := .int) C dX12_init_125 had hs (by omega) fz rfl (fun _ => rfl) (fun _ _ q => q) zk153 (Or.inl ⟨by decide, rfl⟩) rfl (by decide) (by decide) wd58 ⟨by omega, by omega⟩ ?_
  have fz := Fz.mono (n' := 154) fz (by decide)
  refine mw_putF (k := 28) (T := TX12) (ty0 := tyX12) C dX12_init_127 hnm (by decide) zk141 (by decide) rfl inX12 tyX12_ok nmX12 (by decide) wd917 rfl rfl rfl (fun _ => rfl) (fun _ => rfl) rfl ?_
  have fz := Fz.gup (c := 141) (k := 28) (v := 153) fz (by decide)
  refine mw_aload_n 0 C dX12_init_130 rfl rfl ?_
  refine mw_iconst C dX12_init_131 ?_
  refine mw_put (k := 30) (T := TX12) (ty0 := tyX12) (x := (-1)) C dX12_init_132 (by decide) zk141 (by decide) rfl inX12 tyX12_ok nmX12 (by decide) wd919 rfl rfl rfl rfl rfl (by decide) ?_
  have fz := Fz.up (c := 141) (k := 30) (v := (-1)) fz (by decide)
  refine mw_aload_n 0 C dX12_init_135 rfl rfl ?_
  refine mw_sipush C dX12_init_136 sp_10000 ?_
  refine mw_newA (n0 := 142) (t := 3) (ty := .boolean) C dX12_init_139 had hs (by omega) fz rfl (fun _ => rfl) (fun _ _ q => q) zk154 (Or.inl ⟨by decide, rfl⟩) rfl (by decide) (by decide) wd940 ⟨by omega, by omega⟩ ?_
  have fz := Fz.mono (n' := 155) fz (by decide)
  refine mw_putF (k := 33) (T := TX12) (ty0 := tyX12) C dX12_init_141 hnm (by decide) zk141 (by decide) rfl inX12 tyX12_ok nmX12 (by decide) wd922 rfl rfl rfl (fun _ => rfl) (fun _ => rfl) rfl ?_
  have fz := Fz.gup (c := 141) (k := 33) (v := 154) fz (by decide)
  refine mw_aload_n 0 C dX12_init_144 rfl rfl ?_
  refine mw_sipush C dX12_init_145 sp_144 ?_
  refine mw_newA (n0 := 142) (t := 1) (ty := .int) C dX12_init_148 had hs (by omega) fz rfl (fun _ => rfl) (fun _ _ q => q) zk155 (Or.inl ⟨by decide, rfl⟩) rfl (by decide) (by decide) wd58 ⟨by omega, by omega⟩ ?_
  have fz := Fz.mono (n' := 156) fz (by decide)
  refine mw_putF (k := 34) (T := TX12) (ty0 := tyX12) C dX12_init_150 hnm (by decide) zk141 (by decide) rfl inX12 tyX12_ok nmX12 (by decide) wd923 rfl rfl rfl (fun _ => rfl) (fun _ => rfl) rfl ?_
  have fz := Fz.gup (c := 141) (k := 34) (v := 155) fz (by decide)
  refine mw_aload_n 0 C dX12_init_153 rfl rfl ?_
  refine mw_sipush C dX12_init_154 sp_144 ?_
  refine mw_newA (n0 := 142) (t := 1) (ty := .int) C dX12_init_157 had hs (by omega) fz rfl (fun _ => rfl) (fun _ _ q => q) zk156 (Or.inl ⟨by decide, rfl⟩) rfl (by decide) (by decide) wd58 ⟨by omega, by omega⟩ ?_
  have fz := Fz.mono (n' := 157) fz (by decide)
  refine mw_putF (k := 35) (T := TX12) (ty0 := tyX12) C dX12_init_159 hnm (by decide) zk141 (by decide) rfl inX12 tyX12_ok nmX12 (by decide) wd924 rfl rfl rfl (fun _ => rfl) (fun _ => rfl) rfl ?_
  have fz := Fz.gup (c := 141) (k := 35) (v := 156) fz (by decide)
  refine mw_aload_n 0 C dX12_init_162 rfl rfl ?_
  refine mw_sipush C dX12_init_163 sp_144 ?_
  refine mw_newA (n0 := 142) (t := 1) (ty := .int) C dX12_init_166 had hs (by omega) fz rfl (fun _ => rfl) (fun _ _ q => q) zk157 (Or.inl ⟨by decide, rfl⟩) rfl (by decide) (by decide) wd58 ⟨by omega, by omega⟩ ?_
  have fz := Fz.mono (n' := 158) fz (by decide)
  refine mw_putF (k := 36) (T := TX12) (ty0 := tyX12) C dX12_init_168 hnm (by decide) zk141 (by decide) rfl inX12 tyX12_ok nmX12 (by decide) wd925 rfl rfl rfl (fun _ => rfl) (fun _ => rfl) rfl ?_
  have fz := Fz.gup (c := 141) (k := 36) (v := 157) fz (by decide)
  refine mw_aload_n 0 C dX12_init_171 rfl rfl ?_
  refine mw_bipush C dX12_init_172 bp_60 ?_
  refine mw_newA (n0 := 142) (t := 1) (ty := .int) C dX12_init_174 had hs (by omega) fz rfl (fun _ => rfl) (fun _ _ q => q) zk158 (Or.inl ⟨by decide, rfl⟩) rfl (by decide) (by decide) wd58 ⟨by omega, by omega⟩ ?_
  have fz := Fz.mono (n' := 159) fz (by decide)
  refine mw_putF (k := 37) (T := TX12) (ty0 := tyX12) C dX12_init_176 hnm (by decide) zk141 (by decide) rfl inX12 tyX12_ok nmX12 (by decide) wd926 rfl rfl rfl (fun _ => rfl) (fun _ => rfl) rfl ?_
  have fz := Fz.gup (c := 141) (k := 37) (v := 158) fz (by decide)
  refine mw_aload_n 0 C dX12_init_179 rfl rfl ?_
  refine mw_iconst C dX12_init_180 ?_
  refine mw_newA (n0 := 142) (t := 1) (ty := .int) C dX12_init_181 had hs (by omega) fz rfl (fun _ => rfl) (fun _ _ q => q) zk159 (Or.inl ⟨by decide, rfl⟩) rfl (by decide) (by decide) wd58 ⟨by omega, by omega⟩ ?_
  have fz := Fz.mono (n' := 160) fz (by decide)
  refine mw_putF (k := 38) (T := TX12) (ty0 := tyX12) C dX12_init_183 hnm (by decide) zk141 (by decide) rfl inX12 tyX12_ok nmX12 (by decide) wd927 rfl rfl rfl (fun _ => rfl) (fun _ => rfl) rfl ?_
  have fz := Fz.gup (c := 141) (k := 38) (v := 159) fz (by decide)
  refine mw_aload_n 0 C dX12_init_186 rfl rfl ?_
  refine mw_iconst C dX12_init_187 ?_
  refine mw_put (k := 41) (T := TX12) (ty0 := tyX12) (x := (-1)) C dX12_init_188 (by decide) zk141 (by decide) rfl inX12 tyX12_ok nmX12 (by decide) wd930 rfl rfl rfl rfl rfl (by decide) ?_
  have fz := Fz.up (c := 141) (k := 41) (v := (-1)) fz (by decide)
  refine mw_aload_n 0 C dX12_init_191 rfl rfl ?_
  refine mw_sipush C dX12_init_192 sp_10200 ?_
  refine mw_newA (n0 := 142) (t := 3) (ty := .boolean) C dX12_init_195 had hs (by omega) fz rfl (fun _ => rfl) (fun _ _ q => q) zk160 (Or.inl ⟨by decide, rfl⟩) rfl (by decide) (by decide) wd940 ⟨by omega, by omega⟩ ?_
  have fz := Fz.mono (n' := 161) fz (by decide)
  refine mw_putF (k := 42) (T := TX12) (ty0 := tyX12) C dX12_init_197 hnm (by decide) zk141 (by decide) rfl inX12 tyX12_ok nmX12 (by decide) wd931 rfl rfl rfl (fun _ => rfl) (fun _ => rfl) rfl ?_
  have fz := Fz.gup (c := 141) (k := 42) (v := 160) fz (by decide)
  refine mw_aload_n 0 C dX12_init_200 rfl rfl ?_
  refine mw_sipush C dX12_init_201 sp_896 ?_
  refine mw_newA (n0 := 142) (t := 1) (ty := .int) C dX12_init_204 had hs (by omega) fz rfl (fun _ => rfl) (fun _ _ q => q) zk161 (Or.inl ⟨by decide, rfl⟩) rfl (by decide) (by decide) wd58 ⟨by omega, by omega⟩ ?_
  have fz := Fz.mono (n' := 162) fz (by decide)
  refine mw_putF (k := 43) (T := TX12) (ty0 := tyX12) C dX12_init_206 hnm (by decide) zk141 (by decide) rfl inX12 tyX12_ok nmX12 (by decide) wd932 rfl rfl rfl (fun _ => rfl) (fun _ => rfl) rfl ?_
  have fz := Fz.gup (c := 141) (k := 43) (v := 161) fz (by decide)
  refine mw_aload_n 0 C dX12_init_209 rfl rfl ?_
  refine mw_bipush C dX12_init_210 bp_7 ?_
  refine mw_newA (n0 := 142) (t := 1) (ty := .int) C dX12_init_212 had hs (by omega) fz rfl (fun _ => rfl) (fun _ _ q => q) zk162 (Or.inl ⟨by decide, rfl⟩) rfl (by decide) (by decide) wd58 ⟨by omega, by omega⟩ ?_
  have fz := Fz.mono (n' := 163) fz (by decide)
  refine mw_putF (k := 44) (T := TX12) (ty0 := tyX12) C dX12_init_214 hnm (by decide) zk141 (by decide) rfl inX12 tyX12_ok nmX12 (by decide) wd933 rfl rfl rfl (fun _ => rfl) (fun _ => rfl) rfl ?_
  have fz := Fz.gup (c := 141) (k := 44) (v := 162) fz (by decide)
  refine mw_aload_n 0 C dX12_init_217 rfl rfl ?_
  refine mw_bipush C dX12_init_218 bp_8 ?_
  refine mw_newA (n0 := 142) (t := 1) (ty := .int) C dX12_init_220 had hs (by omega) fz rfl (fun _ => rfl) (fun _ _ q => q) zk163 (Or.inl ⟨by decide, rfl⟩) rfl (by decide) (by decide) wd58 ⟨by omega, by omega⟩ ?_
  have fz := Fz.mono (n' := 164) fz (by decide)
  refine mw_putF (k := 46) (T := TX12) (ty0 := tyX12) C dX12_init_222 hnm (by decide) zk141 (by decide) rfl inX12 tyX12_ok nmX12 (by decide) wd935 rfl rfl rfl (fun _ => rfl) (fun _ => rfl) rfl ?_
  have fz := Fz.gup (c := 141) (k := 46) (v := 163) fz (by decide)
  refine mw_aload_n 0 C dX12_init_225 rfl rfl ?_
  refine mw_bipush C dX12_init_226 bp_8 ?_
  refine mw_newA (n0 := 142) (t := 1) (ty := .int) C dX12_init_228 had hs (by omega) fz rfl (fun _ => rfl) (fun _ _ q => q) zk164 (Or.inl ⟨by decide, rfl⟩) rfl (by decide) (by decide) wd58 ⟨by omega, by omega⟩ ?_
  have fz := Fz.mono (n' := 165) fz (by decide)
  refine mw_putF (k := 47) (T := TX12) (ty0 := tyX12) C dX12_init_230 hnm (by decide) zk141 (by decide) rfl inX12 tyX12_ok nmX12 (by decide) wd936 rfl rfl rfl (fun _ => rfl) (fun _ => rfl) rfl ?_
  have fz := Fz.gup (c := 141) (k := 47) (v := 164) fz (by decide)
  refine mw_aload_n 0 C dX12_init_233 rfl rfl ?_
  refine mw_bipush C dX12_init_234 bp_8 ?_
  refine mw_newA (n0 := 142) (t := 1) (ty := .int) C dX12_init_236 had hs (by omega) fz rfl (fun _ => rfl) (fun _ _ q => q) zk165 (Or.inl ⟨by decide, rfl⟩) rfl (by decide) (by decide) wd58 ⟨by omega, by omega⟩ ?_
  have fz := Fz.mono (n' := 166) fz (by decide)
  refine mw_putF (k := 48) (T := TX12) (ty0 := tyX12) C dX12_init_238 hnm (by decide) zk141 (by decide) rfl inX12 tyX12_ok nmX12 (by decide) wd937 rfl rfl rfl (fun _ => rfl) (fun _ => rfl) rfl ?_
  have fz := Fz.gup (c := 141) (k := 48) (v := 165) fz (by decide)
  exact mw_vret C dX12_init_241 rfl rfl
