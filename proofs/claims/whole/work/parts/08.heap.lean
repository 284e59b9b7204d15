/-! ===== rows of the heap: fields, arrays; calls; returns; switches; library members ===== -/
section MWH
variable {Z : ZT} {Q : State → Prop} {cc : ByteArray} {nL : Nat} {own : String} {dd : Nat} {rt : Option FieldType} {n : Nat} {g : GH} {h : MH} {ce sl pc : Nat} {lvs : List (Nat × Value)} {rest : List Value}
/-- a field is read: of class number ci, its place k -/
theorem mw_get {c ci nf k idx : Nat} {CN : String} {T : u_T} {v : Value} (C : Cx Z cc nL own dd rt) (d : decode cc pc = .ok (.getfield idx, 3)) (hcn : c < n) (hK : zK c = (ci, nf)) (hci : ci < 13) (hc : vwCl[ci]? = some (CN, T, nf)) (hin : ∀ w ∈ u_ws CN T nf, w ∈ lwg) (hk : k < nf) (hw : Cond.fieldLink own idx CN (T k).2.1 (T k).2.2.1 ∈ lwg) (hT : (T k).1 = CN) (hv : zfv (xd (zX Z)) ci k c g h = v)
    (kk : MW Z Q nL n g h ce sl (pc + 3) lvs (v :: rest)) : MW Z Q nL n g h ce sl pc lvs (rfv (xd (zX Z)) c :: rest) :=
  fun H locs ls hP hS hl => va_get (D := xD (zX Z)) (C := CN) (T := T) (N := nf) (ref := CN) C.hx C.hb C.hts hin C.hown C.hK hP.1 c ((zW_at hcn).trans (by rw [zE_o hK hci])) hc k hk (C.hts _ hw) (fun x hx => by rw [hT] at hx; exact hx) (v := v) (by rw [List.getElem?_map, List.getElem?_range hk]; exact congrArg some hv) d (kk H locs ls hP hS hl)
theorem zfv_up {ad : Nat → Nat} {h : MH} {c ci k j : Nat} {x : Int} {v : Value} (hv : v = (if zfk (zft ci k) = 0 then iv x else lvv x)) (h2 : zfk (zft ci k) ≠ 2) : (if j = k then v else zfv ad ci j c g h) = zfv ad ci j c g (hup h c k x) := by
  by_cases hj : j = k
  · subst hj
    rw [if_pos rfl, hv]
    generalize hq : zfk (zft ci j) = q at h2 ⊢
    unfold zfv
    rw [hq]
    match q, h2 with
    | 0, _ => simp [hup]
    | 1, _ => simp [hup]
    | 2, h2 => exact absurd rfl h2
    | q + 3, _ => exfalso; revert hq; cases zft ci j <;> simp [zfk]
  · rw [if_neg hj]
    simp [zfv, hup, hj]
theorem zfl_set {ad : Nat → Nat} {h : MH} {c ci k nf : Nat} {x : Int} {v : Value} (hv : v = (if zfk (zft ci k) = 0 then iv x else lvv x)) (h2 : zfk (zft ci k) ≠ 2) : ((List.range nf).map fun j => zfv ad ci j c g h).set k v = (List.range nf).map fun j => zfv ad ci j c g (hup h c k x) := by
  apply List.ext_getElem?
  intro i
  by_cases hn : i < nf
  · rw [List.getElem?_map, List.getElem?_range hn]
    by_cases hi : k = i
    · subst hi
      rw [List.getElem?_set_self (by simpa using hn)]
      have := zfv_up (g := g) (ad := ad) (h := h) (c := c) (j := k) hv h2
      rw [if_pos rfl] at this
      exact congrArg some this
    · rw [List.getElem?_set_ne hi, List.getElem?_map, List.getElem?_range hn]
      have := zfv_up (g := g) (ad := ad) (h := h) (c := c) (j := i) hv h2
      rw [if_neg (fun q => hi q.symm)] at this
      exact congrArg some this
  · rw [List.getElem?_eq_none (by simp; omega), List.getElem?_eq_none (by simp; omega)]
/-- a field is written, not final, a whole number -/
theorem mw_put {c ci nf k idx : Nat} {CN : String} {T : u_T} {ty0 : Nat → FieldType} {v : Value} {x : Int} (C : Cx Z cc nL own dd rt) (d : decode cc pc = .ok (.putfield idx, 3)) (hcn : c < n) (hK : zK c = (ci, nf)) (hci : ci < 13) (hc : vwCl[ci]? = some (CN, T, nf)) (hin : ∀ w ∈ u_ws CN T nf, w ∈ lwg) (hty : ∀ k, k < nf → parseFieldDescriptor (T k).2.2.1 = some (ty0 k)) (hnm : ∀ a, a < nf → ∀ b, b < nf → a ≠ b → (T a).2.1 ≠ (T b).2.1) (hk : k < nf) (hw : Cond.fieldLink own idx CN (T k).2.1 (T k).2.2.1 ∈ lwg) (hT : (T k).1 = CN) (hfin : (T k).2.2.2 = false) (hn : narrow (ty0 k) v = v) (hfit : fits (ty0 k) v = true) (hv : v = (if zfk (zft ci k) = 0 then iv x else lvv x)) (h2 : zfk (zft ci k) ≠ 2)
    (kk : MW Z Q nL n g (hup h c k x) ce sl (pc + 3) lvs rest) : MW Z Q nL n g h ce sl pc lvs (v :: rfv (xd (zX Z)) c :: rest) :=
  fun H locs ls hP hS hl => va_put (D := xD (zX Z)) (A := zA (zX Z)) (C := CN) (T := T) (N := nf) (ref := CN) C.hx C.hb C.hts hin ty0 hty hnm C.hown C.hK hP.1 (zW_D hP.2) hS c ((zW_at hcn).trans (by rw [zE_o hK hci])) hc k hk (C.hts _ hw) (fun x hx => by rw [hT] at hx; exact hx) hfin (hty k hk) hn hfit (by simpa using hk) d (fun H1 locs1 hP1 hz hS1 => kk H1 locs1 ls ⟨by
    rw [zfl_set hv h2, zW_set (g' := g) (h' := hup h c k x) hcn (by rw [zE_o hK hci]) (fun c' hc' => zE_ne hc')] at hP1
    exact hP1, hP.2⟩ hS1 hl)
theorem zup_i {h : MH} {c i : Nat} {v : Int} : upd (fun j => Int32.ofInt (h c j)) i (Int32.ofInt v) = fun j => Int32.ofInt (hup h c i v c j) := by
  funext j
  by_cases hj : j = i
  · subst hj; simp [upd, hup]
  · simp [upd, hup, hj]
theorem zup_l {h : MH} {c i : Nat} {v : Int} : vp_updL (fun j => Int64.ofInt (h c j)) i (Int64.ofInt v) = fun j => Int64.ofInt (hup h c i v c j) := by
  funext j
  by_cases hj : j = i
  · subst hj; simp [vp_updL, hup]
  · simp [vp_updL, hup, hj]
theorem nar_z {v : Int} (hv : v = 0 ∨ v = 1) : vp_nar .boolean (Int32.ofInt v) = Int32.ofInt v := by
  rcases hv with rfl | rfl <;> decide +kernel
theorem nar_b (v : Int) : vp_nar .byte (Int32.ofInt v) = Int32.ofInt (w8 v) := by rw [vp_nar_byte, i_i2b]
theorem mw_iald {c len : Nat} {x : Int} (C : Cx Z cc nL own dd rt) (d : decode cc pc = .ok (.iaload, 1)) (hcn : c < n) (hK : zK c = (21, len)) (hlen : len < 2147483648) (hi : 0 ≤ x ∧ x < (len : Int)) (k : MW Z Q nL n g h ce sl (pc + 1) lvs (iv (h c x.toNat) :: rest)) : MW Z Q nL n g h ce sl pc lvs (iv x :: rfv (xd (zX Z)) c :: rest) :=
  fun H locs ls hP hS hl => va_iald C.hx C.hb C.hK hP.1 c 1 ((zW_at hcn).trans (by rw [zE_i (t := 1) hK (by decide)])) rfl (i_in hi hlen) d (by rw [i_cl (by omega)]; exact k H locs ls hP hS hl)
theorem mw_bald {c len : Nat} {x : Int} (C : Cx Z cc nL own dd rt) (d : decode cc pc = .ok (.baload, 1)) (hcn : c < n) (hK : zK c = (20, len)) (hlen : len < 2147483648) (hi : 0 ≤ x ∧ x < (len : Int)) (k : MW Z Q nL n g h ce sl (pc + 1) lvs (iv (h c x.toNat) :: rest)) : MW Z Q nL n g h ce sl pc lvs (iv x :: rfv (xd (zX Z)) c :: rest) :=
  fun H locs ls hP hS hl => va_bald C.hx C.hb C.hK hP.1 c 0 ((zW_at hcn).trans (by rw [zE_i (t := 0) hK (by decide)])) rfl (i_in hi hlen) d (by rw [i_cl (by omega)]; exact k H locs ls hP hS hl)
theorem mw_zald {c len : Nat} {x : Int} (C : Cx Z cc nL own dd rt) (d : decode cc pc = .ok (.baload, 1)) (hcn : c < n) (hK : zK c = (23, len)) (hlen : len < 2147483648) (hi : 0 ≤ x ∧ x < (len : Int)) (k : MW Z Q nL n g h ce sl (pc + 1) lvs (iv (h c x.toNat) :: rest)) : MW Z Q nL n g h ce sl pc lvs (iv x :: rfv (xd (zX Z)) c :: rest) :=
  fun H locs ls hP hS hl => va_zald C.hx C.hb C.hK hP.1 c 3 ((zW_at hcn).trans (by rw [zE_i (t := 3) hK (by decide)])) rfl (i_in hi hlen) d (by rw [i_cl (by omega)]; exact k H locs ls hP hS hl)
theorem mw_lald {c len : Nat} {x : Int} (C : Cx Z cc nL own dd rt) (d : decode cc pc = .ok (.laload, 1)) (hcn : c < n) (hK : zK c = (22, len)) (hlen : len < 2147483648) (hi : 0 ≤ x ∧ x < (len : Int)) (k : MW Z Q nL n g h ce sl (pc + 1) lvs (lvv (h c x.toNat) :: rest)) : MW Z Q nL n g h ce sl pc lvs (iv x :: rfv (xd (zX Z)) c :: rest) :=
  fun H locs ls hP hS hl => va_lald C.hx C.hb C.hK hP.1 c 2 ((zW_at hcn).trans (by rw [zE_l hK])) rfl (i_in hi hlen) d (by rw [i_cl (by omega)]; exact k H locs ls hP hS hl)
theorem mw_iast {c len : Nat} {x v : Int} (C : Cx Z cc nL own dd rt) (d : decode cc pc = .ok (.iastore, 1)) (hcn : c < n) (hK : zK c = (21, len)) (hlen : len < 2147483648) (hi : 0 ≤ x ∧ x < (len : Int)) (k : MW Z Q nL n g (hup h c x.toNat v) ce sl (pc + 1) lvs rest) : MW Z Q nL n g h ce sl pc lvs (iv v :: iv x :: rfv (xd (zX Z)) c :: rest) :=
  fun H locs ls hP hS hl => va_iast C.hx C.hb C.hK hP.1 (zW_D hP.2) hS c 1 ((zW_at hcn).trans (by rw [zE_i (t := 1) hK (by decide)])) rfl (i_in hi hlen) d (fun H1 locs1 hP1 _ hS1 => k H1 locs1 ls ⟨by
    rw [i_cl (by omega), zup_i, zW_set (g' := g) (h' := hup h c x.toNat v) hcn (by rw [zE_i (t := 1) hK (by decide)]) (fun c' hc' => zE_ne hc')] at hP1
    exact hP1, hP.2⟩ hS1 hl)
theorem mw_last {c len : Nat} {x v : Int} (C : Cx Z cc nL own dd rt) (d : decode cc pc = .ok (.lastore, 1)) (hcn : c < n) (hK : zK c = (22, len)) (hlen : len < 2147483648) (hi : 0 ≤ x ∧ x < (len : Int)) (k : MW Z Q nL n g (hup h c x.toNat v) ce sl (pc + 1) lvs rest) : MW Z Q nL n g h ce sl pc lvs (lvv v :: iv x :: rfv (xd (zX Z)) c :: rest) :=
  fun H locs ls hP hS hl => va_last C.hx C.hb C.hK hP.1 (zW_D hP.2) hS c 2 ((zW_at hcn).trans (by rw [zE_l hK])) rfl (i_in hi hlen) d (fun H1 locs1 hP1 _ hS1 => k H1 locs1 ls ⟨by
    rw [i_cl (by omega), zup_l, zW_set (g' := g) (h' := hup h c x.toNat v) hcn (by rw [zE_l hK]) (fun c' hc' => zE_ne hc')] at hP1
    exact hP1, hP.2⟩ hS1 hl)
theorem mw_bast {c len : Nat} {x v : Int} (C : Cx Z cc nL own dd rt) (d : decode cc pc = .ok (.bastore, 1)) (hcn : c < n) (hK : zK c = (20, len)) (hlen : len < 2147483648) (hi : 0 ≤ x ∧ x < (len : Int)) (k : MW Z Q nL n g (hup h c x.toNat (w8 v)) ce sl (pc + 1) lvs rest) : MW Z Q nL n g h ce sl pc lvs (iv v :: iv x :: rfv (xd (zX Z)) c :: rest) :=
  fun H locs ls hP hS hl => va_bast C.hx C.hb C.hK hP.1 (zW_D hP.2) hS c 0 ((zW_at hcn).trans (by rw [zE_i (t := 0) hK (by decide)])) rfl (i_in hi hlen) d (fun H1 locs1 hP1 _ hS1 => k H1 locs1 ls ⟨by
    rw [i_cl (by omega), nar_b, zup_i, zW_set (g' := g) (h' := hup h c x.toNat (w8 v)) hcn (by rw [zE_i (t := 0) hK (by decide)]) (fun c' hc' => zE_ne hc')] at hP1
    exact hP1, hP.2⟩ hS1 hl)
theorem mw_zast {c len : Nat} {x v : Int} (C : Cx Z cc nL own dd rt) (d : decode cc pc = .ok (.bastore, 1)) (hcn : c < n) (hK : zK c = (23, len)) (hlen : len < 2147483648) (hi : 0 ≤ x ∧ x < (len : Int)) (hv : v = 0 ∨ v = 1) (k : MW Z Q nL n g (hup h c x.toNat v) ce sl (pc + 1) lvs rest) : MW Z Q nL n g h ce sl pc lvs (iv v :: iv x :: rfv (xd (zX Z)) c :: rest) :=
  fun H locs ls hP hS hl => va_zast C.hx C.hb C.hK hP.1 (zW_D hP.2) hS c 3 ((zW_at hcn).trans (by rw [zE_i (t := 3) hK (by decide)])) rfl (i_in hi hlen) d (fun H1 locs1 hP1 _ hS1 => k H1 locs1 ls ⟨by
    rw [i_cl (by omega), nar_z hv, zup_i, zW_set (g' := g) (h' := hup h c x.toNat v) hcn (by rw [zE_i (t := 3) hK (by decide)]) (fun c' hc' => zE_ne hc')] at hP1
    exact hP1, hP.2⟩ hS1 hl)
theorem mw_alenI {c len : Nat} (C : Cx Z cc nL own dd rt) (d : decode cc pc = .ok (.arraylength, 1)) (hcn : c < n) (hK : zK c = (21, len)) (k : MW Z Q nL n g h ce sl (pc + 1) lvs (iv (len : Int) :: rest)) : MW Z Q nL n g h ce sl pc lvs (rfv (xd (zX Z)) c :: rest) :=
  fun H locs ls hP hS hl => va_alen (v := Int32.ofInt (len : Int)) C.hx C.hb C.hK hP.1 c 1 ((zW_at hcn).trans (by rw [zE_i (t := 1) hK (by decide)])) rfl Int32.ofInt_eq_ofNat.symm d (k H locs ls hP hS hl)
theorem mw_alenL {c len : Nat} (C : Cx Z cc nL own dd rt) (d : decode cc pc = .ok (.arraylength, 1)) (hcn : c < n) (hK : zK c = (22, len)) (k : MW Z Q nL n g h ce sl (pc + 1) lvs (iv (len : Int) :: rest)) : MW Z Q nL n g h ce sl pc lvs (rfv (xd (zX Z)) c :: rest) :=
  fun H locs ls hP hS hl => va_alen (v := Int32.ofInt (len : Int)) C.hx C.hb C.hK hP.1 c 2 ((zW_at hcn).trans (by rw [zE_l hK])) rfl Int32.ofInt_eq_ofNat.symm d (k H locs ls hP hS hl)
/-- an element of an array of arrays, or of objects -/
theorem mw_aald {c len t c2 : Nat} {ty : FieldType} {x : Int} (C : Cx Z cc nL own dd rt) (d : decode cc pc = .ok (.aaload, 1)) (hcn : c < n) (hK : zK c = (20 + t, len)) (ht4 : 4 ≤ t) (ht : ∀ cy, (zTys cy)[t]? = some (cy t, ty)) (hty : ty.isReference = true) (hlen : len < 2147483648) (hi : 0 ≤ x ∧ x < (len : Int)) (hg : g c x.toNat = some c2) (k : MW Z Q nL n g h ce sl (pc + 1) lvs (rfv (xd (zX Z)) c2 :: rest)) : MW Z Q nL n g h ce sl pc lvs (iv x :: rfv (xd (zX Z)) c :: rest) := by
  intro H locs ls hP hS hl
  have ha : (zW (xd (zX Z)) (xy (zX Z)) n g h)[c]? = some (xd (zX Z) c, .inl (xy (zX Z) t, len, .inr (.inr (.inr (.inr fun j => (g c j).map (xd (zX Z))))))) := (zW_at hcn).trans (by rw [zE_q hK ht4])
  have hcl : (Int32.ofInt x).toNatClampNeg = x.toNat := i_cl (by omega)
  have hlt : (Int32.ofInt x).toNatClampNeg < len := by rw [hcl]; omega
  exact W.aald (v := rfv (xd (zX Z)) c2) (ty := ty) C.hx C.hb (hP.1 c _ ha) ((C.hK.2 t _ (ht _)).1 len (fun j => va_rf ((g c j).map (xd (zX Z))))) hty (fun q => by cases q) (by show ¬ (Int32.ofInt x < 0 ∨ (arrV _ _ _).slots.size ≤ _); rw [arrV_size]; exact i_in hi hlen) (by show (arrV _ _ _).slots[_]? = _; rw [arrV_read _ _ hlt, hcl]; show some (va_rf (Option.map _ (g c x.toNat))) = _; rw [hg]; rfl) rfl rfl d (k H locs ls hP hS hl)
/-! returns -/
theorem mw_iret {v : Int} {r : Option Value} {h1 : MH} (C : Cx Z cc nL own dd (some .int)) (d : decode cc pc = .ok (.ireturn, 1)) (er : some (iv v) = r) (eh : h = h1) : MW Z (Qm Z r n g h1 ce sl) nL n g h ce sl pc lvs [iv v] := by
  subst er; subst eh
  exact fun H locs ls hP hS hl => W.iret C.hx C.hb C.hr (fun t ht _ => ⟨⟨rfl, by rw [ht]; exact hP.1⟩, hS.F ht⟩) hS.2.2 d C.hlk
theorem mw_zret {v : Int} {r : Option Value} {h1 : MH} (C : Cx Z cc nL own dd (some .boolean)) (d : decode cc pc = .ok (.ireturn, 1)) (hv : v = 0 ∨ v = 1) (er : some (iv v) = r) (eh : h = h1) : MW Z (Qm Z r n g h1 ce sl) nL n g h ce sl pc lvs [iv v] := by
  subst er; subst eh
  exact fun H locs ls hP hS hl => W.zret C.hx C.hb C.hr (by rcases hv with rfl | rfl <;> decide +kernel) (fun t ht _ => ⟨⟨rfl, by rw [ht]; exact hP.1⟩, hS.F ht⟩) hS.2.2 d C.hlk
theorem mw_lret {v : Int} {r : Option Value} {h1 : MH} (C : Cx Z cc nL own dd (some .long)) (d : decode cc pc = .ok (.lreturn, 1)) (er : some (lvv v) = r) (eh : h = h1) : MW Z (Qm Z r n g h1 ce sl) nL n g h ce sl pc lvs [lvv v] := by
  subst er; subst eh
  exact fun H locs ls hP hS hl => W.lret C.hx C.hb C.hr (fun t ht _ => ⟨⟨rfl, by rw [ht]; exact hP.1⟩, hS.F ht⟩) hS.2.2 d C.hlk
theorem mw_vret {r : Option Value} {h1 : MH} (C : Cx Z cc nL own dd none) (d : decode cc pc = .ok (.return_, 1)) (er : none = r) (eh : h = h1) : MW Z (Qm Z r n g h1 ce sl) nL n g h ce sl pc lvs [] := by
  subst er; subst eh
  exact fun H locs ls hP hS hl => W.vret C.hx C.hb C.hr (fun t ht _ => ⟨⟨rfl, by rw [ht]; exact hP.1⟩, hS.F ht⟩) hS.2.2 d C.hlk
/-! calls -/
theorem mw_pre {H : Heap} {locs : List Loc} {av : List Value} (C : Cx Z cc nL own dd rt) (hP : Wd (zX Z) n g h H) (hS : va_S (zA (zX Z)) (zs Z).heap H locs) : ∀ U : State, U.heap = H → (zs Z).WarmedH U.vm → va_Pc av (Bw (zX Z) n g h) av.toArray U := by
  intro U hU hW
  refine ⟨rfl, ⟨by rw [hU]; exact hP.1, hP.2⟩, va_K.moved hW.alike C.hK, ?_, ?_⟩
  · rw [hU]; exact zEX.moved hW hS.2.1 C.hE
  · rw [hU]; exact Nat.le_trans C.2.2.2.2.2.2.2.1 hS.1
theorem mw_after {H : Heap} {locs : List Loc} {ls : Array Slot} {st0 : List Value} {r : Option Value} {h1 : MH} {a : Array Value} (hr : va_Run (zp Z) (zl Z) (ze Z) (zR Z) (zs Z) (zm Z) (za Z) (zw Z) (zh Z) (zc Z) H locs ce sl 0 0 (F0 (zm Z) pc ls st0) rest (mQ (zX Z) r n g h1 a) (zA (zX Z))) (hI : zInj (xd (zX Z)) (zA (zX Z)) n) (hS : va_S (zA (zX Z)) (zs Z).heap H locs) (hl : lv_has ls nL lvs) (k : MW Z Q nL n g h1 ce sl (pc + 3) lvs (r.toList ++ rest)) : W (zp Z) (zl Z) (ze Z) (zR Z) (zs Z) (zm Z) (za Z) (zw Z) (zh Z) (zc Z) H locs ce sl Q (F0 (zm Z) pc ls st0) := by
  intro T hT Xs
  obtain ⟨v, st₀, t, T', L, h0, X', hL, e1, e2, ⟨⟨hv, hp⟩, hz, hk⟩, st⟩ := hr T hT Xs
  cases hv
  rw [h0] at hz hk
  obtain ⟨t2, a1, b1⟩ := k T'.heap (locs ++ L) ls ⟨by rw [e1]; exact hp, hI⟩ ⟨Nat.le_trans hS.1 (by rw [e1]; exact hz), fun q q1 q2 => by rw [e1, hk q (Nat.lt_of_lt_of_le q1 hS.1) q2]; exact hS.2.1 q q1 q2, fun q hq => by
      rcases List.mem_append.mp hq with q1 | q1
      · exact hS.2.2 q q1
      · exact hL q q1⟩ hl T' rfl X'
  exact ⟨t2, st t2 a1, b1⟩
theorem gd_wsM {y : MethodName} {bytes : ByteArray} {maxL : Nat} {ret : Option FieldType} (hc : Cond.code y bytes maxL ret ∈ lwg) : GoodIn lwg (wsM y bytes maxL ret) := by
  intro w hw
  rcases List.mem_cons.mp hw with rfl | q
  · exact ⟨hc, lwg_good _ hc⟩
  · exact ⟨q, lwg_good _ q⟩
theorem gd_app {ws ws2 : List Cond} (h1 : ∀ w ∈ ws, w ∈ lwg) (h2 : GoodIn lwg ws2) : GoodIn lwg (ws ++ ws2) := by
  intro w hw
  rcases List.mem_append.mp hw with q | q
  · exact ⟨h1 w q, lwg_good _ (h1 w q)⟩
  · exact h2 w q
theorem rm_ok {dc maxL : Nat} (C : Cx Z cc nL own dd rt) (hd : dc + 1 ≤ dd) (hm : maxL ≤ 20) : (rmD dc 0 0).frames + 1 ≤ (zR Z).frames ∧ 8 + (maxL + 11) + (rmD dc 0 0).locals ≤ (zR Z).locals := by
  obtain ⟨h1, h2⟩ := C.hR
  refine ⟨Nat.le_trans hd h1, Nat.le_trans ?_ h2⟩
  show 8 + (maxL + 11) + 40 * dc ≤ 40 * dd
  omega
/-- a call of a method of an object, by its contract -/
theorem mw_callV {y : MethodName} {bytes : ByteArray} {maxL dc idx c ci nf na : Nat} {ret : Option FieldType} {T : u_T} {r : Option Value} {h1 : MH} (As : List Value) (rest : List Value) {st0 : List Value} (C : Cx Z cc nL own dd rt) (d : decode cc pc = .ok (.invokevirtual idx, 3)) (hM : Ct (zl Z) (zX Z) y bytes maxL ret dc (rfv (xd (zX Z)) c :: As) n g h r n g h1 0 0) (hst : st0 = As.reverse ++ rfv (xd (zX Z)) c :: rest)
    (hcn : c < n) (hK : zK c = (ci, nf)) (hci : ci < 13) (hc : vwCl[ci]? = some (y.cls, T, nf)) (hw1 : Cond.methodLink own idx y ∈ lwg) (hw2 : Cond.instanceMethod y ∈ lwg) (hw3 : Cond.selects y.cls y y ∈ lwg) (hw4 : Cond.initialized y.cls ∈ lwg) (hw5 : Cond.code y bytes maxL ret ∈ lwg)
    (hd : y.cls ≠ "java/lang/invoke/MethodHandle" ∧ y.cls ≠ "java/lang/invoke/VarHandle" ∧ (parseMethodDescriptor y.desc).map (fun d => d.parameters.length) = some na) (hna : As.length = na) (hdd : dc + 1 ≤ dd) (hm : maxL ≤ 20) (hrm : (rest.map fun v => v.category).sum ≤ 8) (hce : ce ≤ (zR Z).cells ∧ sl ≤ (zR Z).slots)
    (k : MW Z Q nL n g h1 ce sl (pc + 3) lvs (r.toList ++ rest)) : MW Z Q nL n g h ce sl pc lvs st0 := by
  intro H locs ls hP hS hl
  have hG : GoodIn lwg (wsV own idx y.cls y (wsM y bytes maxL ret)) := gd_app (fun w hw => by
    simp only [List.mem_cons, List.not_mem_nil, or_false] at hw
    rcases hw with rfl | rfl | rfl | rfl <;> assumption) (gd_wsM hw5)
  refine mw_after (va_runV (Ts := lwg) (own := own) (C := y.cls) (As := As) (rest := rest) ⟨C.hx, C.hb, C.hml, C.hown, C.hts⟩ hM (cwV na C.hts hG rfl rfl rfl ⟨rfl, hd⟩ (rm_ok C hdd hm)) ⟨FBw, va_recv C.hK hP.1 hc ((zW_at hcn).trans (by rw [zE_o hK hci])), mw_pre C hP hS⟩ rfl hna hl.1 hst (lv_room hrm) d hce) hP.2 hS hl k
theorem mw_callS {y : MethodName} {bytes : ByteArray} {maxL dc idx na : Nat} {ret : Option FieldType} {r : Option Value} {h1 : MH} (As : List Value) (rest : List Value) {st0 : List Value} (C : Cx Z cc nL own dd rt) (d : decode cc pc = .ok (.invokestatic idx, 3)) (hM : Ct (zl Z) (zX Z) y bytes maxL ret dc As n g h r n g h1 0 0) (hst : st0 = As.reverse ++ rest)
    (hw1 : Cond.methodLink own idx y ∈ lwg) (hw2 : Cond.static y ∈ lwg) (hw4 : Cond.initialized y.cls ∈ lwg) (hw5 : Cond.code y bytes maxL ret ∈ lwg)
    (hd : y.cls ≠ "java/lang/invoke/MethodHandle" ∧ y.cls ≠ "java/lang/invoke/VarHandle" ∧ (parseMethodDescriptor y.desc).map (fun d => d.parameters.length) = some na) (hna : As.length = na) (hdd : dc + 1 ≤ dd) (hm : maxL ≤ 20) (hrm : (rest.map fun v => v.category).sum ≤ 8) (hce : ce ≤ (zR Z).cells ∧ sl ≤ (zR Z).slots)
    (k : MW Z Q nL n g h1 ce sl (pc + 3) lvs (r.toList ++ rest)) : MW Z Q nL n g h ce sl pc lvs st0 := by
  intro H locs ls hP hS hl
  have hG : GoodIn lwg (va_wsS own idx y (wsM y bytes maxL ret)) := gd_app (fun w hw => by
    simp only [List.mem_cons, List.not_mem_nil, or_false] at hw
    rcases hw with rfl | rfl | rfl <;> assumption) (gd_wsM hw5)
  exact mw_after (va_runS (Ts := lwg) (own := own) (As := As) (rest := rest) ⟨C.hx, C.hb, C.hml, C.hown, C.hts⟩ hM (va_cwS na C.hts hG rfl rfl rfl hd (rm_ok C hdd hm)) ⟨FBw, mw_pre C hP hS⟩ rfl hna hl.1 hst (lv_room hrm) d hce) hP.2 hS hl k
theorem mw_callSN {y : MethodName} {bytes : ByteArray} {host : String} {maxL dc idx na : Nat} {ret : Option FieldType} {r : Option Value} {h1 : MH} (As : List Value) (rest : List Value) {st0 : List Value} (C : Cx Z cc nL own dd rt) (d : decode cc pc = .ok (.invokestatic idx, 3)) (hM : Ct (zl Z) (zX Z) y bytes maxL ret dc As n g h r n g h1 0 0) (hst : st0 = As.reverse ++ rest)
    (hw1 : Cond.methodLinkNest own idx y host ∈ zNest) (hw2 : Cond.static y ∈ lwg) (hw4 : Cond.initialized y.cls ∈ lwg) (hw5 : Cond.code y bytes maxL ret ∈ lwg)
    (hd : y.cls ≠ "java/lang/invoke/MethodHandle" ∧ y.cls ≠ "java/lang/invoke/VarHandle" ∧ (parseMethodDescriptor y.desc).map (fun d => d.parameters.length) = some na) (hna : As.length = na) (hdd : dc + 1 ≤ dd) (hm : maxL ≤ 20) (hrm : (rest.map fun v => v.category).sum ≤ 8) (hce : ce ≤ (zR Z).cells ∧ sl ≤ (zR Z).slots)
    (k : MW Z Q nL n g h1 ce sl (pc + 3) lvs (r.toList ++ rest)) : MW Z Q nL n g h ce sl pc lvs st0 := by
  intro H locs ls hP hS hl
  exact mw_after (va_runSN (Ts := lwg) (own := own) (host := host) (As := As) (rest := rest) ⟨C.hx, C.hb, C.hml, C.hown, C.hts⟩ hM ⟨va_cnB na C.hts (gd_wsM hw5) rfl rfl rfl (C.hE.1 _ hw1) (C.hts _ hw4) hd (rm_ok C hdd hm), C.hts _ hw2, trivial⟩ ⟨FBw, mw_pre C hP hS⟩ rfl hna hl.1 hst (lv_room hrm) d hce) hP.2 hS hl k
/-! switches -/
theorem mw_tabO {dflt lo hi : Int} {offs : Array Int} {len tgt : Nat} {x : Int} (C : Cx Z cc nL own dd rt) (d : decode cc pc = .ok (.tableswitch dflt lo hi offs, len)) (hx : in32 x) (hc : x < lo ∨ hi < x) (ht : (pc : Int) + dflt = (tgt : Int)) (k : MW Z Q nL n g h ce sl tgt lvs rest) : MW Z Q nL n g h ce sl pc lvs (iv x :: rest) :=
  fun H locs ls hP hS hl => lv_tableOut C.hx C.hb d (by rw [i_toInt hx]; exact hc) ht (k H locs ls hP hS hl)
theorem mw_tabI {dflt lo hi : Int} {offs : Array Int} {len tgt : Nat} {x off : Int} (j : Int) (C : Cx Z cc nL own dd rt) (d : decode cc pc = .ok (.tableswitch dflt lo hi offs, len)) (hj : in32 j) (hc : x = j) (h1 : ¬ j < lo) (h2 : ¬ hi < j) (ho : offs[(j - lo).toNat]? = some off) (ht : (pc : Int) + off = (tgt : Int)) (k : MW Z Q nL n g h ce sl tgt lvs rest) : MW Z Q nL n g h ce sl pc lvs (iv x :: rest) := by
  subst hc
  exact fun H locs ls hP hS hl => lv_tableIn C.hx C.hb d (by rw [i_toInt hj]; exact h1) (by rw [i_toInt hj]; exact h2) (by rw [i_toInt hj]; exact ho) ht (k H locs ls hP hS hl)
theorem mw_look {dflt : Int} {ps : Array (Int × Int)} {len tgt : Nat} {x off : Int} (C : Cx Z cc nL own dd rt) (d : decode cc pc = .ok (.lookupswitch dflt ps, len)) (hx : in32 x) (hp : (ps.toList.zip (ps.toList.drop 1)).all (fun (a, next) => a.1 < next.1) = true) (ho : Op.lookupswitch.offset ps.toList dflt x = off) (ht : (pc : Int) + off = (tgt : Int)) (k : MW Z Q nL n g h ce sl tgt lvs rest) : MW Z Q nL n g h ce sl pc lvs (iv x :: rest) :=
  fun H locs ls hP hS hl => lv_lookup C.hx C.hb d hp (by rw [i_toInt hx]; exact ho) ht (k H locs ls hP hS hl)
/-! library members -/
theorem mw_mmax {idx : Nat} {x y : Int} (C : Cx Z cc nL own dd rt) (d : decode cc pc = .ok (.invokestatic idx, 3)) (hw1 : Cond.methodLink own idx Lib.Math.max.name ∈ lwg) (hw2 : Cond.static Lib.Math.max.name ∈ lwg) (hw3 : Cond.initialized "java/lang/Math" ∈ lwg) (hw4 : Cond.code Lib.Math.max.name Lib.Math.max.code 2 (some .int) ∈ lwg) (hdd : 1 ≤ dd) (hrm : (rest.map fun v => v.category).sum ≤ 8) (hce : ce ≤ (zR Z).cells ∧ sl ≤ (zR Z).slots) (hx : in32 x) (hy : in32 y) (k : MW Z Q nL n g h ce sl (pc + 3) lvs (iv (max x y) :: rest)) : MW Z Q nL n g h ce sl pc lvs (iv y :: iv x :: rest) :=
  fun H locs ls hP hS hl => va_mmax C.hx C.hb (C.hml.trans hl.1.symm) C.hown (C.hts _ hw1) (C.hts _ hw2) (C.hts _ hw3) (C.hts _ hw4) (Nat.le_trans hdd C.hR.1) (Nat.le_trans (by omega) C.hR.2) hce.1 hce.2 d (by
    have e : (if Int32.ofInt x < Int32.ofInt y then Int32.ofInt y else Int32.ofInt x) = Int32.ofInt (max x y) := by
      simp only [i_lt hx hy]
      by_cases q : x < y
      · rw [if_pos q, show max x y = y by omega]
      · rw [if_neg q, show max x y = x by omega]
    rw [e]; exact k H locs ls hP hS hl)
theorem mw_mmin {idx : Nat} {x y : Int} (C : Cx Z cc nL own dd rt) (d : decode cc pc = .ok (.invokestatic idx, 3)) (hw1 : Cond.methodLink own idx Lib.Math.min.name ∈ lwg) (hw2 : Cond.static Lib.Math.min.name ∈ lwg) (hw3 : Cond.initialized "java/lang/Math" ∈ lwg) (hw4 : Cond.code Lib.Math.min.name Lib.Math.min.code 2 (some .int) ∈ lwg) (hdd : 1 ≤ dd) (hrm : (rest.map fun v => v.category).sum ≤ 8) (hce : ce ≤ (zR Z).cells ∧ sl ≤ (zR Z).slots) (hx : in32 x) (hy : in32 y) (k : MW Z Q nL n g h ce sl (pc + 3) lvs (iv (min x y) :: rest)) : MW Z Q nL n g h ce sl pc lvs (iv y :: iv x :: rest) :=
  fun H locs ls hP hS hl => va_mmin C.hx C.hb (C.hml.trans hl.1.symm) C.hown (C.hts _ hw1) (C.hts _ hw2) (C.hts _ hw3) (C.hts _ hw4) (Nat.le_trans hdd C.hR.1) (Nat.le_trans (by omega) C.hR.2) hce.1 hce.2 d (by
    have e : (if Int32.ofInt y < Int32.ofInt x then Int32.ofInt y else Int32.ofInt x) = Int32.ofInt (min x y) := by
      simp only [i_lt hy hx]
      by_cases q : y < x
      · rw [if_pos q, show min x y = y by omega]
      · rw [if_neg q, show min x y = x by omega]
    rw [e]; exact k H locs ls hP hS hl)
theorem mw_mmaxL {idx : Nat} {x y : Int} (C : Cx Z cc nL own dd rt) (d : decode cc pc = .ok (.invokestatic idx, 3)) (hw1 : Cond.methodLink own idx Lib.MathLoose.max_long.x ∈ lwg) (hw2 : Cond.static Lib.MathLoose.max_long.x ∈ lwg) (hw3 : Cond.initialized "java/lang/Math" ∈ lwg) (hw4 : Cond.code Lib.MathLoose.max_long.x Lib.MathLoose.max_long.code 4 (some .long) ∈ lwg) (hdd : 1 ≤ dd) (hrm : (rest.map fun v => v.category).sum ≤ 8) (hce : ce ≤ (zR Z).cells ∧ sl ≤ (zR Z).slots) (hx : in64 x) (hy : in64 y) (k : MW Z Q nL n g h ce sl (pc + 3) lvs (lvv (max x y) :: rest)) : MW Z Q nL n g h ce sl pc lvs (lvv y :: lvv x :: rest) :=
  fun H locs ls hP hS hl => va_mmax_long C.hx C.hb (C.hml.trans hl.1.symm) C.hown (C.hts _ hw1) (C.hts _ hw2) (C.hts _ hw3) (C.hts _ hw4) (Nat.le_trans hdd C.hR.1) (Nat.le_trans (by omega) C.hR.2) hce.1 hce.2 d (by
    have e : (if Int64.ofInt y < Int64.ofInt x then Int64.ofInt x else Int64.ofInt y) = Int64.ofInt (max x y) := by
      simp only [l_lt hy hx]
      by_cases q : y < x
      · rw [if_pos q, show max x y = x by omega]
      · rw [if_neg q, show max x y = y by omega]
    rw [e]; exact k H locs ls hP hS hl)
theorem mw_mminL {idx : Nat} {x y : Int} (C : Cx Z cc nL own dd rt) (d : decode cc pc = .ok (.invokestatic idx, 3)) (hw1 : Cond.methodLink own idx Lib.MathLoose.min_long.x ∈ lwg) (hw2 : Cond.static Lib.MathLoose.min_long.x ∈ lwg) (hw3 : Cond.initialized "java/lang/Math" ∈ lwg) (hw4 : Cond.code Lib.MathLoose.min_long.x Lib.MathLoose.min_long.code 4 (some .long) ∈ lwg) (hdd : 1 ≤ dd) (hrm : (rest.map fun v => v.category).sum ≤ 8) (hce : ce ≤ (zR Z).cells ∧ sl ≤ (zR Z).slots) (hx : in64 x) (hy : in64 y) (k : MW Z Q nL n g h ce sl (pc + 3) lvs (lvv (min x y) :: rest)) : MW Z Q nL n g h ce sl pc lvs (lvv y :: lvv x :: rest) :=
  fun H locs ls hP hS hl => va_mmin_long C.hx C.hb (C.hml.trans hl.1.symm) C.hown (C.hts _ hw1) (C.hts _ hw2) (C.hts _ hw3) (C.hts _ hw4) (Nat.le_trans hdd C.hR.1) (Nat.le_trans (by omega) C.hR.2) hce.1 hce.2 d (by
    have e : (if Int64.ofInt y < Int64.ofInt x then Int64.ofInt y else Int64.ofInt x) = Int64.ofInt (min x y) := by
      simp only [l_lt hy hx]
      by_cases q : y < x
      · rw [if_pos q, show min x y = y by omega]
      · rw [if_neg q, show min x y = x by omega]
    rw [e]; exact k H locs ls hP hS hl)
theorem mw_mabsL {idx : Nat} {x : Int} (C : Cx Z cc nL own dd rt) (d : decode cc pc = .ok (.invokestatic idx, 3)) (hw1 : Cond.methodLink own idx Lib.MathLoose.abs_long.x ∈ lwg) (hw2 : Cond.static Lib.MathLoose.abs_long.x ∈ lwg) (hw3 : Cond.initialized "java/lang/Math" ∈ lwg) (hw4 : Cond.code Lib.MathLoose.abs_long.x Lib.MathLoose.abs_long.code 2 (some .long) ∈ lwg) (hdd : 1 ≤ dd) (hrm : (rest.map fun v => v.category).sum ≤ 8) (hce : ce ≤ (zR Z).cells ∧ sl ≤ (zR Z).slots) (hx : in64 x) (k : MW Z Q nL n g h ce sl (pc + 3) lvs (lvv (if 0 < x then x else -x) :: rest)) : MW Z Q nL n g h ce sl pc lvs (lvv x :: rest) :=
  fun H locs ls hP hS hl => va_mabs_long C.hx C.hb (C.hml.trans hl.1.symm) C.hown (C.hts _ hw1) (C.hts _ hw2) (C.hts _ hw3) (C.hts _ hw4) (Nat.le_trans hdd C.hR.1) (Nat.le_trans (by omega) C.hR.2) hce.1 hce.2 d (by
    have e : (if 0 < Int64.ofInt x then Int64.ofInt x else - Int64.ofInt x) = Int64.ofInt (if 0 < x then x else -x) := by
      have q0 : (0 : Int64) < Int64.ofInt x ↔ 0 < x := by
        have := l_lt (x := 0) (y := x) (by decide) hx
        rw [l_0] at this; exact this
      simp only [q0]
      by_cases q : 0 < x
      · rw [if_pos q, if_pos q]
      · rw [if_neg q, if_neg q, Int64.neg_ofInt]
    rw [e]; exact k H locs ls hP hS hl)
theorem i_nlt0 {x : Int} (h : 0 ≤ x) (hx : in32 x) : ¬ Int32.ofInt x < 0 := fun q => by
  have := (i_lt hx in32_0).mp (i_0 ▸ q)
  omega
theorem zcp_i {h : MH} {c1 c2 p1 p2 m : Nat} : va_cpy (fun j => Int32.ofInt (h c1 j)) (fun j => Int32.ofInt (h c2 j)) p1 p2 m = fun j => Int32.ofInt (hcp h c1 p1 c2 p2 m c2 j) := by
  funext j
  unfold va_cpy hcp
  by_cases q : p2 ≤ j ∧ j < p2 + m
  · rw [if_pos q, if_pos ⟨rfl, q⟩]
  · rw [if_neg q, if_neg (fun z => q z.2)]
theorem zcp_l {h : MH} {c1 c2 p1 p2 m : Nat} : va_cpy (fun j => Int64.ofInt (h c1 j)) (fun j => Int64.ofInt (h c2 j)) p1 p2 m = fun j => Int64.ofInt (hcp h c1 p1 c2 p2 m c2 j) := by
  funext j
  unfold va_cpy hcp
  by_cases q : p2 ≤ j ∧ j < p2 + m
  · rw [if_pos q, if_pos ⟨rfl, q⟩]
  · rw [if_neg q, if_neg (fun z => q z.2)]
theorem zE_cp {ad : Nat → Nat} {cy : Nat → ClassId} {c1 c2 p1 p2 m c' : Nat} (hc : c' ≠ c2) : zE ad cy g (hcp h c1 p1 c2 p2 m) c' = zE ad cy g h c' := by
  simp [zE, zfv, hcp, hc]
theorem mw_copyI {idx c1 c2 l1 l2 : Nat} {p1 p2 m : Int} (C : Cx Z cc nL own dd rt) (d : decode cc pc = .ok (.invokestatic idx, 3)) (hw1 : Cond.methodLink own idx arraycopyName ∈ lwg) (hw2 : Cond.static arraycopyName ∈ lwg) (hw3 : Cond.initialized "java/lang/System" ∈ lwg) (hw4 : Cond.native arraycopyName ∈ lwg) (hdd : 1 ≤ dd) (hrm : (rest.map fun v => v.category).sum ≤ 8) (hn1 : c1 < n) (hn2 : c2 < n) (hK1 : zK c1 = (21, l1)) (hK2 : zK c2 = (21, l2)) (hl1 : l1 < 2147483648) (hl2 : l2 < 2147483648) (hp : (0 ≤ p1 ∧ 0 ≤ p2 ∧ 0 ≤ m) ∧ p1 + m ≤ (l1 : Int) ∧ p2 + m ≤ (l2 : Int)) (k : MW Z Q nL n g (hcp h c1 p1.toNat c2 p2.toNat m.toNat) ce sl (pc + 3) lvs rest) : MW Z Q nL n g h ce sl pc lvs (iv m :: iv p2 :: rfv (xd (zX Z)) c2 :: iv p1 :: rfv (xd (zX Z)) c1 :: rest) := by
  intro H locs ls hP hS hl
  have e1 : in32 p1 := by omega
  have e2 : in32 p2 := by omega
  have e3 : in32 m := by omega
  refine va_copyi C.hx C.hb (C.hml.trans hl.1.symm) C.hown (C.hts _ hw1) (C.hts _ hw4) (C.hts _ hw2) (C.hts _ hw3) C.hK hP.1 (zW_D hP.2) hS c1 c2 1 1 ((zW_at hn1).trans (by rw [zE_i (t := 1) hK1 (by decide)])) ((zW_at hn2).trans (by rw [zE_i (t := 1) hK2 (by decide)])) rfl rfl rfl (i_nlt0 hp.1.1 e1) (i_nlt0 hp.1.2.1 e2) (i_nlt0 hp.1.2.2 e3) (by rw [i_cl e1, i_cl e3]; omega) (by rw [i_cl e2, i_cl e3]; omega) (fun _ _ => rfl) (Nat.le_trans hdd C.hR.1) (Nat.le_trans (show _ + (nativeFrameWords "java/lang/System" "arraycopy" 5 + 11) ≤ 40 * dd from ?_) C.hR.2) d (fun H1 locs1 hP1 _ hS1 => k H1 locs1 ls ⟨?_, hP.2⟩ hS1 hl)
  · have : nativeFrameWords "java/lang/System" "arraycopy" 5 ≤ 20 := by decide +kernel
    omega
  · rw [i_cl e1, i_cl e2, i_cl e3, zcp_i, zW_set (g' := g) (h' := hcp h c1 p1.toNat c2 p2.toNat m.toNat) hn2 (by rw [zE_i (t := 1) hK2 (by decide)]) (fun c' hc' => zE_cp hc')] at hP1
    exact hP1
theorem mw_copyL {idx c1 c2 l1 l2 : Nat} {p1 p2 m : Int} (C : Cx Z cc nL own dd rt) (d : decode cc pc = .ok (.invokestatic idx, 3)) (hw1 : Cond.methodLink own idx arraycopyName ∈ lwg) (hw2 : Cond.static arraycopyName ∈ lwg) (hw3 : Cond.initialized "java/lang/System" ∈ lwg) (hw4 : Cond.native arraycopyName ∈ lwg) (hdd : 1 ≤ dd) (hrm : (rest.map fun v => v.category).sum ≤ 8) (hn1 : c1 < n) (hn2 : c2 < n) (hK1 : zK c1 = (22, l1)) (hK2 : zK c2 = (22, l2)) (hl1 : l1 < 2147483648) (hl2 : l2 < 2147483648) (hp : (0 ≤ p1 ∧ 0 ≤ p2 ∧ 0 ≤ m) ∧ p1 + m ≤ (l1 : Int) ∧ p2 + m ≤ (l2 : Int)) (k : MW Z Q nL n g (hcp h c1 p1.toNat c2 p2.toNat m.toNat) ce sl (pc + 3) lvs rest) : MW Z Q nL n g h ce sl pc lvs (iv m :: iv p2 :: rfv (xd (zX Z)) c2 :: iv p1 :: rfv (xd (zX Z)) c1 :: rest) := by
  intro H locs ls hP hS hl
  have e1 : in32 p1 := by omega
  have e2 : in32 p2 := by omega
  have e3 : in32 m := by omega
  refine va_copyl C.hx C.hb (C.hml.trans hl.1.symm) C.hown (C.hts _ hw1) (C.hts _ hw4) (C.hts _ hw2) (C.hts _ hw3) C.hK hP.1 (zW_D hP.2) hS c1 c2 2 2 ((zW_at hn1).trans (by rw [zE_l hK1])) ((zW_at hn2).trans (by rw [zE_l hK2])) rfl rfl rfl (i_nlt0 hp.1.1 e1) (i_nlt0 hp.1.2.1 e2) (i_nlt0 hp.1.2.2 e3) (by rw [i_cl e1, i_cl e3]; omega) (by rw [i_cl e2, i_cl e3]; omega) (fun _ _ => rfl) (Nat.le_trans hdd C.hR.1) (Nat.le_trans (show _ + (nativeFrameWords "java/lang/System" "arraycopy" 5 + 11) ≤ 40 * dd from ?_) C.hR.2) d (fun H1 locs1 hP1 _ hS1 => k H1 locs1 ls ⟨?_, hP.2⟩ hS1 hl)
  · have : nativeFrameWords "java/lang/System" "arraycopy" 5 ≤ 20 := by decide +kernel
    omega
  · rw [i_cl e1, i_cl e2, i_cl e3, zcp_l, zW_set (g' := g) (h' := hcp h c1 p1.toNat c2 p2.toNat m.toNat) hn2 (by rw [zE_l hK2]) (fun c' hc' => zE_cp hc')] at hP1
    exact hP1
end MWH
