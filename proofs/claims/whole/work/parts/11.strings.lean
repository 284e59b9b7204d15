/-! ===== String.length(), String.charAt(int) of the constants ===== -/
section STR
variable {Z : ZT} {Q : State → Prop} {cc : ByteArray} {nL : Nat} {own : String} {dd : Nat} {rt : Option FieldType} {n : Nat} {g : GH} {h : MH} {ce sl pc : Nat} {lvs : List (Nat × Value)} {rest : List Value}
theorem sl_small : ∀ i, i < 21 → (zsB.getD i []).length < 1000 := by decide +kernel
theorem sch_ok : ∀ i, i < 21 → ∀ b ∈ zsB.getD i [], 0 ≤ b ∧ b < 128 := by decide +kernel
theorem in32_sl {i : Nat} {x : Int} (hi : i < 21) (h : 0 ≤ x ∧ x < slen i) : in32 x := by
  have := sl_small i hi
  unfold slen at h
  omega
theorem sch_in {i k : Nat} (hi : i < 21) (hk : k < (zsB.getD i []).length) : 0 ≤ sch i k ∧ sch i k < 128 := by
  refine sch_ok i hi _ ?_
  unfold sch
  generalize zsB.getD i [] = l at hk ⊢
  rw [List.getD_eq_getElem?_getD, List.getElem?_eq_getElem hk]
  exact List.getElem_mem hk
theorem mw_sgetV {i idx : Nat} (C : Cx Z cc nL own dd rt) (d : decode cc pc = .ok (.getfield idx, 3)) (hi : i < 21) (hw : Cond.fieldLink own idx "java/lang/String" "value" "[B" ∈ lwg) (k : MW Z Q nL n g h ce sl (pc + 3) lvs (.ref (xv (zX Z) i) :: rest)) : MW Z Q nL n g h ce sl pc lvs (.ref (xa (zX Z) i) :: rest) :=
  fun H locs ls hP hS hl => vk_getf C.hx C.hb (C.hE.2.2 i hi).2.2.2.1 hS C.hown (C.hts _ hw) (fun _ q => q) d (k H locs ls hP hS hl)
theorem mw_sgetC {i idx : Nat} (C : Cx Z cc nL own dd rt) (d : decode cc pc = .ok (.getfield idx, 3)) (hi : i < 21) (hw : Cond.fieldLink own idx "java/lang/String" "coder" "B" ∈ lwg) (k : MW Z Q nL n g h ce sl (pc + 3) lvs (iv 0 :: rest)) : MW Z Q nL n g h ce sl pc lvs (.ref (xa (zX Z) i) :: rest) :=
  fun H locs ls hP hS hl => vk_getf C.hx C.hb (C.hE.2.2 i hi).2.2.1 hS C.hown (C.hts _ hw) (fun _ q => q) d (k H locs ls hP hS hl)
theorem mw_sgets {idx : Nat} (C : Cx Z cc nL own dd rt) (d : decode cc pc = .ok (.getstatic idx, 3)) (hw : Cond.fieldLink own idx "java/lang/String" "COMPACT_STRINGS" "Z" ∈ lwg) (k : MW Z Q nL n g h ce sl (pc + 3) lvs (iv 1 :: rest)) : MW Z Q nL n g h ce sl pc lvs rest :=
  fun H locs ls hP hS hl => va_gets C.hx C.hb C.hE.2.1.1 hS C.hown (C.hts _ hw) (fun _ q => q) d (k H locs ls hP hS hl)
theorem mw_sgetF {idx : Nat} (C : Cx Z cc nL own dd rt) (d : decode cc pc = .ok (.getstatic idx, 3)) (hw : Cond.fieldLink own idx "jdk/internal/util/Preconditions" "SIOOBE_FORMATTER" "Ljava/util/function/BiFunction;" ∈ lwg) (k : ∀ w : Value, w.category = 1 → MW Z Q nL n g h ce sl (pc + 3) lvs (w :: rest)) : MW Z Q nL n g h ce sl pc lvs rest := by
  intro H locs ls hP hS hl
  rcases C.hE.2.1.2 with q | ⟨t, q⟩
  · exact va_gets C.hx C.hb q hS C.hown (C.hts _ hw) (fun _ q => q) d (k _ rfl H locs ls hP hS hl)
  · exact va_gets C.hx C.hb q hS C.hown (C.hts _ hw) (fun _ q => q) d (k _ rfl H locs ls hP hS hl)
theorem mw_tlen {i : Nat} (C : Cx Z cc nL own dd rt) (d : decode cc pc = .ok (.arraylength, 1)) (hi : i < 21) (k : MW Z Q nL n g h ce sl (pc + 1) lvs (iv (slen i) :: rest)) : MW Z Q nL n g h ce sl pc lvs (.ref (xv (zX Z) i) :: rest) :=
  fun H locs ls hP hS hl => va_tlen C.hx C.hb (C.hE.2.2 i hi).2.2.2.2 hS (v := Int32.ofInt (slen i)) Int32.ofInt_eq_ofNat.symm d (k H locs ls hP hS hl)
theorem mw_tb {i : Nat} {x : Int} (C : Cx Z cc nL own dd rt) (d : decode cc pc = .ok (.baload, 1)) (hi : i < 21) (hx : 0 ≤ x ∧ x < slen i) (k : MW Z Q nL n g h ce sl (pc + 1) lvs (iv (sch i x.toNat) :: rest)) : MW Z Q nL n g h ce sl pc lvs (iv x :: .ref (xv (zX Z) i) :: rest) :=
  fun H locs ls hP hS hl => va_tb C.hx C.hb (C.hE.2.2 i hi).2.2.2.2 hS (i_in hx (by have := sl_small i hi; omega)) (v := iv (sch i x.toNat)) (by rw [i_cl (in32_sl hi hx)]; rfl) d (k H locs ls hP hS hl)
theorem mw_nret {v : Int} {ty : FieldType} {r : Option Value} {h1 : MH} (C : Cx Z cc nL own dd (some ty)) (d : decode cc pc = .ok (.ireturn, 1)) (hv : narrow ty (iv v) = iv v) (er : some (iv v) = r) (eh : h = h1) : MW Z (Qm Z r n g h1 ce sl) nL n g h ce sl pc lvs [iv v] := by
  subst er; subst eh
  exact fun H locs ls hP hS hl => W.zret C.hx C.hb C.hr hv (fun t ht _ => ⟨⟨rfl, by rw [ht]; exact hP.1⟩, hS.F ht⟩) hS.2.2 d C.hlk
/-- a call of a String's own method -/
theorem mw_callT {y : MethodName} {bytes : ByteArray} {maxL dc idx i na : Nat} {ret : Option FieldType} {r : Option Value} {h1 : MH} (As : List Value) (rest : List Value) {st0 : List Value} (C : Cx Z cc nL own dd rt) (d : decode cc pc = .ok (.invokevirtual idx, 3)) (hM : Ct (zl Z) (zX Z) y bytes maxL ret dc (.ref (xa (zX Z) i) :: As) n g h r n g h1 0 0) (hst : st0 = As.reverse ++ .ref (xa (zX Z) i) :: rest)
    (hi : i < 21) (hyc : y.cls = "java/lang/String") (hw1 : Cond.methodLink own idx y ∈ lwg) (hw2 : Cond.instanceMethod y ∈ lwg) (hw3 : Cond.selects y.cls y y ∈ lwg) (hw4 : Cond.initialized y.cls ∈ lwg) (hw5 : Cond.code y bytes maxL ret ∈ lwg)
    (hd : y.cls ≠ "java/lang/invoke/MethodHandle" ∧ y.cls ≠ "java/lang/invoke/VarHandle" ∧ (parseMethodDescriptor y.desc).map (fun d => d.parameters.length) = some na) (hna : As.length = na) (hdd : dc + 1 ≤ dd) (hm : maxL ≤ 20) (hrm : (rest.map fun v => v.category).sum ≤ 8) (hce : ce ≤ (zR Z).cells ∧ sl ≤ (zR Z).slots)
    (k : MW Z Q nL n g h1 ce sl (pc + 3) lvs (r.toList ++ rest)) : MW Z Q nL n g h ce sl pc lvs st0 := by
  intro H locs ls hP hS hl
  have hG : GoodIn lwg (wsV own idx y.cls y (wsM y bytes maxL ret)) := gd_app (fun w hw => by
    simp only [List.mem_cons, List.not_mem_nil, or_false] at hw
    rcases hw with rfl | rfl | rfl | rfl <;> assumption) (gd_wsM hw5)
  have hrc : ∃ cell : Cell, H[xa (zX Z) i]? = some cell ∧ cell.vm.isStatics = false ∧ (zs Z).vm.findClass y.cls = some cell.cls := by
    obtain ⟨cell, h1, h2, h3, -⟩ := ((C.hE.2.2 i hi).2.1).kept hS.2.1
    exact ⟨cell, h1, h2, by rw [hyc]; exact h3⟩
  refine mw_after (va_runV (Ts := lwg) (own := own) (C := y.cls) (As := As) (rest := rest) ⟨C.hx, C.hb, C.hml, C.hown, C.hts⟩ hM (cwV na C.hts hG rfl rfl rfl ⟨rfl, hd⟩ (rm_ok C hdd hm)) ⟨FBw, hrc, mw_pre C hP hS⟩ rfl hna hl.1 hst (lv_room hrm) d hce) hP.2 hS hl k
end STR
theorem T_coder (l : Launch) (X : XT) (n : Nat) (g : GH) (h : MH) (i : Nat) (hi : i < 21) : Ct l X yJ0_coder_7d493 cJ0_coder_7d493 1 (some .byte) 1 [.ref (xa X i)] n g h (some (iv 0)) n g h 0 0 := by
  refine Ct.head (by decide) (Nat.le_of_ble_eq_true rfl) (fun Z hX hl hc1 hs1 _ C => ?_)
  subst hX
  subst hl
  refine mw_sgets C dJ0_coder_7d493_0 wd383 ?_
  refine mw_if_eq_f (tgt := 13) C dJ0_coder_7d493_3 (by decide) (by decide) (by decide) ?_
  refine mw_aload_n 0 C dJ0_coder_7d493_6 rfl rfl ?_
  refine mw_sgetC C dJ0_coder_7d493_7 hi wd1307 ?_
  refine mw_goto (tgt := 14) C dJ0_coder_7d493_10 (by decide) ?_
  exact mw_nret C dJ0_coder_7d493_14 (by decide +kernel) rfl rfl
theorem T_isLatin1 (l : Launch) (X : XT) (n : Nat) (g : GH) (h : MH) (i : Nat) (hi : i < 21) : Ct l X yJ0_isLatin1_aae02 cJ0_isLatin1_aae02 1 (some .boolean) 1 [.ref (xa X i)] n g h (some (iv 1)) n g h 0 0 := by
  refine Ct.head (by decide) (Nat.le_of_ble_eq_true rfl) (fun Z hX hl hc1 hs1 _ C => ?_)
  subst hX
  subst hl
  refine mw_sgets C dJ0_isLatin1_aae02_0 wd383 ?_
  refine mw_if_eq_f (tgt := 17) C dJ0_isLatin1_aae02_3 (by decide) (by decide) (by decide) ?_
  refine mw_aload_n 0 C dJ0_isLatin1_aae02_6 rfl rfl ?_
  refine mw_sgetC C dJ0_isLatin1_aae02_7 hi wd1307 ?_
  refine mw_if_ne_f (tgt := 17) C dJ0_isLatin1_aae02_10 (by decide) (by decide) (by decide) ?_
  refine mw_iconst C dJ0_isLatin1_aae02_13 ?_
  refine mw_goto (tgt := 18) C dJ0_isLatin1_aae02_14 (by decide) ?_
  exact mw_zret C dJ0_isLatin1_aae02_18 (Or.inr rfl) rfl rfl
theorem shr_0 (x : Int) (hx : in32 x) : shr32 x 0 = x := by
  unfold shr32
  have e : Int32.ofInt x >>> (Int32.ofInt 0 &&& 31) = Int32.ofInt x := sb_shr0 _
  rw [e, i_toInt hx]
theorem T_length (l : Launch) (X : XT) (n : Nat) (g : GH) (h : MH) (i : Nat) (hi : i < 21) : Ct l X yJ0_length_8abf5 cJ0_length_8abf5 1 (some .int) 2 [.ref (xa X i)] n g h (some (iv (slen i))) n g h 0 0 := by
  refine Ct.head (by decide) (Nat.le_of_ble_eq_true rfl) (fun Z hX hl hc1 hs1 _ C => ?_)
  subst hX
  subst hl
  refine mw_aload_n 0 C dJ0_length_8abf5_0 rfl rfl ?_
  refine mw_sgetV C dJ0_length_8abf5_1 hi wd1306 ?_
  refine mw_tlen C dJ0_length_8abf5_4 hi ?_
  refine mw_aload_n 0 C dJ0_length_8abf5_5 rfl rfl ?_
  refine mw_callT (i := i) [] [iv (slen i)] C dJ0_length_8abf5_6 (T_coder (zl Z) (zX Z) n g h i hi) rfl hi rfl wd379 wd380 wd381 wd17 wd382 hd_J0_coder_7d493 rfl (by decide) (by decide) (Nat.le_of_ble_eq_true rfl) ⟨Nat.zero_le _, Nat.zero_le _⟩ ?_
  refine mw_ishr C dJ0_length_8abf5_9 ?_
  have hz : in32 (slen i) := by
    have := sl_small i hi
    unfold slen
    omega
  exact mw_iret C dJ0_length_8abf5_10 (by rw [shr_0 _ hz]) rfl
theorem T_preck (l : Launch) (X : XT) (n : Nat) (g : GH) (h : MH) (x y : Int) (w : Value) (hw : w.category = 1) (hx : 0 ≤ x ∧ x < y) (hy : in32 y) : Ct l X yJ3_checkIndex_8e157 cJ3_checkIndex_8e157 3 (some .int) 1 [iv x, iv y, w] n g h (some (iv x)) n g h 0 0 := by
  have hx3 : in32 x := by omega
  refine Ct.head (by decide) (by have e1 : ∀ a, (iv a).category = 1 := fun _ => rfl; simp [lg_sl, hw, e1]) (fun Z hX hl hc1 hs1 _ C => ?_)
  subst hX
  subst hl
  have e : lv_args 0 [iv x, iv y, w] = [(0, iv x), (1, iv y), (2, w)] := rfl
  rw [e]
  refine mw_iload_n 0 C dJ3_checkIndex_8e157_0 rfl rfl ?_
  refine mw_if_lt_f (tgt := 9) C dJ3_checkIndex_8e157_1 (by decide) hx3 (by omega) ?_
  refine mw_iload_n 0 C dJ3_checkIndex_8e157_4 rfl rfl ?_
  refine mw_iload_n 1 C dJ3_checkIndex_8e157_5 rfl rfl ?_
  refine mw_icmp_lt_t (tgt := 16) C dJ3_checkIndex_8e157_6 (by decide) hx3 hy hx.2 ?_
  refine mw_iload_n 0 C dJ3_checkIndex_8e157_16 rfl rfl ?_
  exact mw_iret C dJ3_checkIndex_8e157_17 rfl rfl
theorem T_strck (l : Launch) (X : XT) (n : Nat) (g : GH) (h : MH) (x y : Int) (hx : 0 ≤ x ∧ x < y) (hy : in32 y) : Ct l X yJ0_checkIndex_df160 cJ0_checkIndex_df160 2 none 2 [iv x, iv y] n g h none n g h 0 0 := by
  refine Ct.head (by decide) (Nat.le_of_ble_eq_true rfl) (fun Z hX hl hc1 hs1 _ C => ?_)
  subst hX
  subst hl
  refine mw_iload_n 0 C dJ0_checkIndex_df160_0 rfl rfl ?_
  refine mw_iload_n 1 C dJ0_checkIndex_df160_1 rfl rfl ?_
  refine mw_sgetF C dJ0_checkIndex_df160_2 wd398 (fun w hw => ?_)
  refine mw_callS [iv x, iv y, w] [] C dJ0_checkIndex_df160_5 (T_preck (zl Z) (zX Z) n g h x y w hw hx hy) rfl wd399 wd400 wd19 wd401 hd_J3_checkIndex_8e157 rfl (by decide) (by decide) (Nat.le_of_ble_eq_true rfl) ⟨Nat.zero_le _, Nat.zero_le _⟩ ?_
  refine mw_pop C dJ0_checkIndex_df160_8 rfl ?_
  exact mw_vret C dJ0_checkIndex_df160_9 rfl rfl
theorem i_and255 : ∀ b : Nat, b < 128 → (Int32.ofInt (b : Int) &&& Int32.ofInt 255).toInt = (b : Int) ∧ ((Int32.ofInt (b : Int)).toUInt32 % 65536).toInt32 = Int32.ofInt (b : Int) ∧ narrow .char (iv (b : Int)) = iv (b : Int) := by decide +kernel
theorem mw_i2cs {Z : ZT} {Q : State → Prop} {cc : ByteArray} {nL : Nat} {own : String} {dd : Nat} {rt : Option FieldType} {n : Nat} {g : GH} {h : MH} {ce sl pc : Nat} {lvs : List (Nat × Value)} {rest : List Value} {b : Nat} (C : Cx Z cc nL own dd rt) (d : decode cc pc = .ok (.i2c, 1)) (hb : b < 128) (k : MW Z Q nL n g h ce sl (pc + 1) lvs (iv (b : Int) :: rest)) : MW Z Q nL n g h ce sl pc lvs (iv (b : Int) :: rest) :=
  fun H locs ls hP hS hl => lv_i2c C.hx C.hb d (i_and255 b hb).2.1 (k H locs ls hP hS hl)
theorem T_latChar (l : Launch) (X : XT) (n : Nat) (g : GH) (h : MH) (i : Nat) (hi : i < 21) (x : Int) (hx : 0 ≤ x ∧ x < slen i) : Ct l X yJ1_charAt_3b067 cJ1_charAt_3b067 2 (some .char) 3 [.ref (xv X i), iv x] n g h (some (iv (sch i x.toNat))) n g h 0 0 := by
  refine Ct.head (by decide) (Nat.le_of_ble_eq_true rfl) (fun Z hX hl hc1 hs1 _ C => ?_)
  subst hX
  subst hl
  have hz : in32 (slen i) := by
    have := sl_small i hi
    unfold slen
    omega
  refine mw_iload_n 1 C dJ1_charAt_3b067_0 rfl rfl ?_
  refine mw_aload_n 0 C dJ1_charAt_3b067_1 rfl rfl ?_
  refine mw_tlen C dJ1_charAt_3b067_2 hi ?_
  refine mw_callS [iv x, iv (slen i)] [] C dJ1_charAt_3b067_3 (T_strck (zl Z) (zX Z) n g h x (slen i) hx hz) rfl wd395 wd396 wd17 wd397 hd_J0_checkIndex_df160 rfl (by decide) (by decide) (Nat.le_of_ble_eq_true rfl) ⟨Nat.zero_le _, Nat.zero_le _⟩ ?_
  refine mw_aload_n 0 C dJ1_charAt_3b067_6 rfl rfl ?_
  refine mw_iload_n 1 C dJ1_charAt_3b067_7 rfl rfl ?_
  refine mw_tb C dJ1_charAt_3b067_8 hi hx ?_
  refine mw_sipush C dJ1_charAt_3b067_9 sp_255 ?_
  refine mw_iand C dJ1_charAt_3b067_12 ?_
  obtain ⟨q1, q2⟩ := sch_in hi (k := x.toNat) (by unfold slen at hx; omega)
  obtain ⟨b, hb⟩ : ∃ b : Nat, sch i x.toNat = (b : Int) := ⟨(sch i x.toNat).toNat, by omega⟩
  rw [hb] at q1 q2 ⊢
  have hb2 : b < 128 := by omega
  refine mw_ti (show land32 (b : Int) 255 = (b : Int) from (i_and255 b hb2).1) ?_
  refine mw_i2cs C dJ1_charAt_3b067_13 hb2 ?_
  exact mw_nret C dJ1_charAt_3b067_14 (i_and255 b hb2).2.2 rfl rfl
theorem T_charAt (l : Launch) (X : XT) (n : Nat) (g : GH) (h : MH) (i : Nat) (hi : i < 21) (x : Int) (hx : 0 ≤ x ∧ x < slen i) : Ct l X yJ0_charAt_5068e cJ0_charAt_5068e 2 (some .char) 4 [.ref (xa X i), iv x] n g h (some (iv (sch i x.toNat))) n g h 0 0 := by
  refine Ct.head (by decide) (Nat.le_of_ble_eq_true rfl) (fun Z hX hl hc1 hs1 _ C => ?_)
  subst hX
  subst hl
  refine mw_aload_n 0 C dJ0_charAt_5068e_0 rfl rfl ?_
  refine mw_callT (i := i) [] [] C dJ0_charAt_5068e_1 (T_isLatin1 (zl Z) (zX Z) n g h i hi) rfl hi rfl wd388 wd389 wd390 wd17 wd391 hd_J0_isLatin1_aae02 rfl (by decide) (by decide) (Nat.le_of_ble_eq_true rfl) ⟨Nat.zero_le _, Nat.zero_le _⟩ ?_
  refine mw_if_eq_f (tgt := 16) C dJ0_charAt_5068e_4 (by decide) (by decide) (by decide) ?_
  refine mw_aload_n 0 C dJ0_charAt_5068e_7 rfl rfl ?_
  refine mw_sgetV C dJ0_charAt_5068e_8 hi wd1306 ?_
  refine mw_iload_n 1 C dJ0_charAt_5068e_11 rfl rfl ?_
  refine mw_callS [.ref (xv (zX Z) i), iv x] [] C dJ0_charAt_5068e_12 (T_latChar (zl Z) (zX Z) n g h i hi x hx) rfl wd392 wd393 wd18 wd394 hd_J1_charAt_3b067 rfl (by decide) (by decide) (Nat.le_of_ble_eq_true rfl) ⟨Nat.zero_le _, Nat.zero_le _⟩ ?_
  obtain ⟨q1, q2⟩ := sch_in hi (k := x.toNat) (by unfold slen at hx; omega)
  obtain ⟨b, hb⟩ : ∃ b : Nat, sch i x.toNat = (b : Int) := ⟨(sch i x.toNat).toNat, by omega⟩
  rw [hb] at q1 q2 ⊢
  exact mw_nret C dJ0_charAt_5068e_15 (i_and255 b (by omega)).2.2 rfl rfl
section STR2
variable {Z : ZT} {Q : State → Prop} {cc : ByteArray} {nL : Nat} {own : String} {dd : Nat} {rt : Option FieldType} {n : Nat} {g : GH} {h : MH} {pc : Nat} {lvs : List (Nat × Value)} {rest : List Value}
theorem mw_strlen {i idx : Nat} (C : Cx Z cc nL own dd rt) (d : decode cc pc = .ok (.invokevirtual idx, 3)) (hw1 : Cond.methodLink own idx yJ0_length_8abf5 ∈ lwg) (hi : i < 21) (hdd : 5 ≤ dd) (hrm : (rest.map fun v => v.category).sum ≤ 8) (k : MW Z Q nL n g h 0 0 (pc + 3) lvs (iv (slen i) :: rest)) : MW Z Q nL n g h 0 0 pc lvs (.ref (xa (zX Z) i) :: rest) :=
  mw_callT (i := i) [] rest C d (T_length (zl Z) (zX Z) n g h i hi) rfl hi rfl hw1 wd376 wd377 wd17 wd378 hd_J0_length_8abf5 rfl (by omega) (by decide) hrm ⟨Nat.zero_le _, Nat.zero_le _⟩ k
theorem mw_charAt {i idx : Nat} {x : Int} (C : Cx Z cc nL own dd rt) (d : decode cc pc = .ok (.invokevirtual idx, 3)) (hw1 : Cond.methodLink own idx yJ0_charAt_5068e ∈ lwg) (hi : i < 21) (hx : 0 ≤ x ∧ x < slen i) (hdd : 5 ≤ dd) (hrm : (rest.map fun v => v.category).sum ≤ 8) (k : MW Z Q nL n g h 0 0 (pc + 3) lvs (iv (sch i x.toNat) :: rest)) : MW Z Q nL n g h 0 0 pc lvs (iv x :: .ref (xa (zX Z) i) :: rest) :=
  mw_callT (i := i) [iv x] rest C d (T_charAt (zl Z) (zX Z) n g h i hi x hx) rfl hi rfl hw1 wd385 wd386 wd17 wd387 hd_J0_charAt_5068e rfl (by omega) (by decide) hrm ⟨Nat.zero_le _, Nat.zero_le _⟩ k
end STR2
