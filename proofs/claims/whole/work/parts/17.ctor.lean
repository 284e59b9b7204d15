/-! ===== constructors: the small heap grows ===== -/
def zAd (X : XT) : Prop := ∀ c, xd X c = xb X + c
def Fz (n : Nat) (g : GH) (h : MH) : Prop := ∀ c', n ≤ c' → ∀ k, h c' k = 0 ∧ g c' k = none
theorem Fz.up {n : Nat} {g : GH} {h : MH} {c k : Nat} {v : Int} (f : Fz n g h) (hc : c < n) : Fz n g (hup h c k v) := fun c' hc' k' => ⟨by
  unfold hup
  rw [if_neg (fun q => by omega)]
  exact (f c' hc' k').1, (f c' hc' k').2⟩
theorem Fz.gup {n : Nat} {g : GH} {h : MH} {c k v : Nat} (f : Fz n g h) (hc : c < n) : Fz n (gup g c k v) h := fun c' hc' k' => ⟨(f c' hc' k').1, by
  unfold Jvm.Pilot.@@N@@.gup
  rw [if_neg (fun q => by omega)]
  exact (f c' hc' k').2⟩
theorem Fz.mono {n n' : Nat} {g : GH} {h : MH} (f : Fz n g h) (hc : n ≤ n') : Fz n' g h := fun c' hc' k' => f c' (Nat.le_trans hc hc') k'
def zOver : List Cond := [.arrayOver (.array .long), .arrayOver (.object "BottleLine$Plan"), .arrayOver (.object "BottleLine$Script")]
def zAO (U : State) : Prop := ∀ w ∈ zOver, w.before #[] U = true
theorem zao_arr {t : FieldType} {a a' : Array Value} {U U' : State} (hal : U.vm.Alike U'.vm) (h : (Cond.arrayOver (.array t)).before a U = true) : (Cond.arrayOver (.array t)).before a' U' = true := by
  simp only [Cond.before, Cond.holds, Cond.value] at h ⊢
  rw [hal.findClass]
  generalize hc : U.vm.findClass (FieldType.array t).toString = q at h ⊢
  cases q with
  | none => simp at h
  | some comp =>
    simp only [Option.bind_some] at h ⊢
    rw [hal.findIdx_congr _ (fun _ _ _ _ => rfl)]
    generalize hF : (U.vm.classes.findIdx? fun (x : Class) => match x.kind with | .array component _ => component == comp | _ => false) = fi at h ⊢
    cases fi with
    | none => simp at h
    | some c =>
      simp only [Option.bind_some] at h ⊢
      cases hk : U.vm.classes[c]? with
      | none => rw [hk] at h; simp at h
      | some k =>
        obtain ⟨k', hk', ek⟩ := hal.2.2 _ _ hk
        rw [hk] at h
        rw [hk', hal.findClass]
        have ekind : k'.kind = k.kind := by rw [ek]
        simp only [Option.map_some] at h ⊢
        rw [ekind]
        exact h
theorem zAO.moved {u U : State} (hvm : u.vm.Alike U.vm) (h : zAO u) : zAO U := by
  intro w hw
  have h1 := h w hw
  simp only [zOver, List.mem_cons, List.not_mem_nil, or_false] at hw
  rcases hw with rfl | rfl | rfl
  · exact zao_arr hvm h1
  · exact Cond.arrayOver_alike hvm h1
  · exact Cond.arrayOver_alike hvm h1
def CtI (l : Launch) (X : XT) (y : MethodName) (cc : ByteArray) (nL : Nat) (d : Nat) (av : List Value) (n : Nat) (g : GH) (h : MH) (n1 : Nat) (g1 : GH) (h1 : MH) (mc ms : Nat) : Prop :=
  Met l y (wsM y cc nL none) (rmD d mc ms) (va_Pc av (fun U => (Bw X n g h U ∧ U.heap.size = xb X + n) ∧ zAO U)) (mQ X none n1 g1 h1) mc ms (zA X)
theorem FBwI {X : XT} {n : Nat} {g : GH} {h : MH} {av : List Value} : FrameBlind (va_Pc av (fun U => (Bw X n g h U ∧ U.heap.size = xb X + n) ∧ zAO U)) := by
  intro a U g' mk q
  obtain ⟨q0, ⟨q1, q2⟩, q3⟩ := q
  exact ⟨q0, ⟨(FBw (av := av) a U g' mk ⟨q0, q1⟩).2, q2⟩, zAO.moved (u := U) (U := U.calling g' mk a) (Vm.Alike.refl U.vm) q3⟩
theorem CtI.head {l : Launch} {X : XT} {y : MethodName} {cc : ByteArray} {nL : Nat} {d : Nat} {av : List Value} {n : Nat} {g : GH} {h : MH} {n1 : Nat} {g1 : GH} {h1 : MH} {mc ms : Nat}
    (hy : plainName y.cls = true) (hnl : (lg_sl av).length ≤ nL)
    (body : ∀ Z : ZT, zX Z = X → zl Z = l → (zR Z).cells = mc → (zR Z).slots = ms → (zh Z).name = y.name → (zs Z).heap.size = xb (zX Z) + n → zAO (zs Z) → Cx Z cc nL y.cls d none → MW Z (Qm Z none n1 g1 h1 mc ms) nL n g h 0 0 0 (lv_args 0 av) []) : CtI l X y cc nL d av n g h n1 g1 h1 mc ms := by
  refine Met.ofW (cc := cc) (maxL := nL) (ret := none) hy rfl ?_
  intro p e s m args below meth c s₁ B hml hv
  obtain ⟨rfl, ⟨⟨⟨hP, hz⟩, hK, hE, hbs⟩, hsz⟩, hao⟩ := hv
  have hts := atoms_spec (ws := wsM y cc nL none) B.pre
  have hown : s.vm.findClass y.cls = some m.cls := findClass_of_methodNamed B.named
  have hl := lv_entry av (n := nL) hnl
  rw [lg_entry_eq]
  exact body ((p, l, e, (headSpec (wsM y cc nL none) (rmD d mc ms)).room, s, m), (av.toArray, below, meth, c), X) rfl rfl rfl rfl (name_of_methodNamed B.named B.method).1 hsz hao ⟨B.exec, B.bytes, hml, hown, fun w hw => hts w (List.mem_cons_of_mem _ hw), hK, hE, hbs, ⟨Nat.le_refl _, Nat.le_refl _⟩, B.returns, B.notSynchronized⟩ s.heap [] _ ⟨hP, hz⟩ va_S.rf hl
theorem zInj_of {X : XT} (had : zAd X) (n : Nat) : zInj (xd X) (zA X) n := ⟨fun i j _ _ q => by rw [had, had] at q; omega, fun i _ => by show xb X ≤ xd X i; rw [had]; omega⟩
theorem zW_push {ad : Nat → Nat} {cy : Nat → ClassId} {n : Nat} {g : GH} {h : MH} : zW ad cy (n + 1) g h = zW ad cy n g h ++ [(ad n, zE ad cy g h n)] := by
  simp [zW, List.range_succ]
section CTR
variable {Z : ZT} {Q : State → Prop} {cc : ByteArray} {nL : Nat} {own : String} {dd : Nat} {rt : Option FieldType} {n n0 : Nat} {g : GH} {h : MH} {ce sl pc : Nat} {lvs : List (Nat × Value)} {rest : List Value}
/-- the heap's size, by the cells that are there and those that may be -/
theorem sz_is {H : Heap} {locs : List Loc} {T : State} (had : zAd (zX Z)) (hs : (zs Z).heap.size = xb (zX Z) + n0) (hn : n0 + ce = n) (hP : Wd (zX Z) n g h H) (hS : va_S (zA (zX Z)) (zs Z).heap H locs) (hT : T.heap = H) (Xs : Stand (zp Z) (zl Z) (ze Z) (zR Z) (zs Z) (zm Z) (za Z) (zw Z) (zh Z) (zc Z) T locs ce sl) : H.size = xd (zX Z) n := by
  have h1 := Xs.heapSize
  rw [hT, hs] at h1
  have h2 := hS.1
  rw [hs] at h2
  rw [had]
  by_cases h0 : 0 < n
  · have h3 := (hP.1 (n - 1) _ (zW_at (by omega))).lt
    have h4 := had (n - 1)
    have h5 : xd (zX Z) (n - 1) < H.size := h3
    omega
  · omega
theorem Wd.kept {X : XT} {H H1 : Heap} (hP : Wd X n g h H) (o1 : ∀ q : Nat, q < H.size → H1[q]? = H[q]?) : va_P (xD X) vwCl (zW (xd X) (xy X) n g h) H1 := hP.1.kept (fun k x hx => o1 x.1 ((hP.1 k x hx).lt))
theorem va_S.grow {A : Nat → Prop} {H0 H H1 : Heap} {locs : List Loc} (hS : va_S A H0 H locs) (hz : H.size ≤ H1.size) (o1 : ∀ q : Nat, q < H.size → H1[q]? = H[q]?) : va_S A H0 H1 locs :=
  ⟨Nat.le_trans hS.1 hz, fun x h1 h2 => (o1 x (Nat.lt_of_lt_of_le h1 hS.1)).trans (hS.2.1 x h1 h2), hS.2.2⟩
theorem zW_grow {X : XT} {H1 : Heap} (hP : va_P (xD X) vwCl (zW (xd X) (xy X) n g h) H1) (hc : va_at (xD X) vwCl (xd X n, zE (xd X) (xy X) g h n) H1) : va_P (xD X) vwCl (zW (xd X) (xy X) (n + 1) g h) H1 := by
  rw [zW_push]
  refine hP.app (fun k x hx => ?_)
  have h0 : k < 1 := (List.getElem?_eq_some_iff.mp hx).1
  rw [show k = 0 by omega] at hx
  cases hx
  exact hc
theorem mw_new {ci nf idx : Nat} {CN : String} {T : u_T} {ty0 : Nat → FieldType} (C : Cx Z cc nL own dd rt) (d : decode cc pc = .ok (.new idx, 3)) (had : zAd (zX Z)) (hs : (zs Z).heap.size = xb (zX Z) + n0) (hn : n0 + ce = n) (fz : Fz n g h) (hK : zK n = (ci, nf)) (hci : ci < 13) (hc : vwCl[ci]? = some (CN, T, nf)) (hin : ∀ w ∈ u_ws CN T nf, w ∈ lwg) (hty : ∀ k, k < nf → parseFieldDescriptor (T k).2.2.1 = some (ty0 k)) (hdf : ∀ k, k < nf → zft ci k = ty0 k ∧ (zfk (ty0 k) = 0 → defaultValue (ty0 k) = iv 0) ∧ (zfk (ty0 k) = 1 → defaultValue (ty0 k) = lvv 0) ∧ (zfk (ty0 k) = 2 → defaultValue (ty0 k) = .null))
    (hw1 : Cond.classLink own idx CN ∈ lwg) (hw2 : Cond.instantiable CN nf ∈ lwg) (hw3 : Cond.initialized CN ∈ lwg) (hce : ce + 1 ≤ (zR Z).cells ∧ sl + nf ≤ (zR Z).slots)
    (k : MW Z Q nL (n + 1) g h (ce + 1) (sl + nf) (pc + 3) lvs (rfv (xd (zX Z)) n :: rest)) : MW Z Q nL n g h ce sl pc lvs rest := by
  intro H locs ls hP hS hl T9 hT Xs
  have hz := sz_is had hs hn hP hS hT Xs
  have hKn := C.hK.1 ci _ hc
  refine (show W (zp Z) (zl Z) (ze Z) (zR Z) (zs Z) (zm Z) (za Z) (zw Z) (zh Z) (zc Z) H locs ce sl Q (F0 (zm Z) pc ls (rest)) from ?_) T9 hT Xs
  refine W.newcK C.hx C.hb C.hown (C.hts _ hw1) (C.hts _ hw2) (C.hts _ hw3) rfl d hce.1 hce.2 hKn.2.1 hz (fun H1 kC hkC e1 z1 o1 =>  ?_)
  have o2 : ∀ q : Nat, q < H.size → H1[q]? = H[q]? := fun q hq => o1 q (by rw [← hz]; exact hq)
  refine k H1 locs ls ⟨zW_grow (hP.kept o2) ?_, zInj_of had _⟩ (hS.grow (by omega) o2) hl
  rw [zE_o hK hci]
  refine ⟨_, hc, (u_born ty0 C.hts hin hKn hkC e1 hty).to (fun j hj => ?_)⟩
  obtain ⟨q1, q2, q3, q4⟩ := hdf j hj
  show defaultValue (ty0 j) = ((List.range nf).map fun k => zfv (xd (zX Z)) ci k n g h).getD j .null
  rw [List.getD_eq_getElem?_getD, List.getElem?_map, List.getElem?_range hj]
  show defaultValue (ty0 j) = zfv (xd (zX Z)) ci j n g h
  unfold zfv
  rw [q1, (fz n (Nat.le_refl _) j).1, (fz n (Nat.le_refl _) j).2]
  generalize hq : zfk (ty0 j) = q at q2 q3 q4 ⊢
  match q, q2, q3, q4 with
  | 0, q2, _, _ => exact q2 rfl
  | 1, _, q3, _ => exact q3 rfl
  | 2, _, _, q4 => exact q4 rfl
  | q + 3, _, _, _ => exfalso; revert hq; cases ty0 j <;> simp [zfk]
/-- a new array of numbers -/
theorem mw_newA {at0 : ArrayType} {ty : FieldType} {t len : Nat} {x : Int} (C : Cx Z cc nL own dd rt) (d : decode cc pc = .ok (.newarray at0, 2)) (had : zAd (zX Z)) (hs : (zs Z).heap.size = xb (zX Z) + n0) (hn : n0 + ce = n) (fz : Fz n g h) (hty : newarray.typeOf at0 = ty) (ht : ∀ cy, (zTys cy)[t]? = some (cy t, ty)) (hra : ∀ (U : State) (cA : ClassId), va_RA U cA ty → U.vm.findClass ("[" ++ ty.toString) = some cA) (hK : zK n = (20 + t, len)) (ht4 : (t = 0 ∨ t = 1 ∨ t = 3) ∧ defaultValue ty = iv 0 ∨ t = 2 ∧ defaultValue ty = lvv 0) (hx : x = (len : Int)) (hlen : len < 100000) (hby : componentBytes ty ≤ 8)
    (hw1 : Cond.arrayClass ty ∈ lwg) (hce : ce + 1 ≤ (zR Z).cells ∧ sl + len ≤ (zR Z).slots)
    (k : MW Z Q nL (n + 1) g h (ce + 1) (sl + len) (pc + 2) lvs (rfv (xd (zX Z)) n :: rest)) : MW Z Q nL n g h ce sl pc lvs (iv x :: rest) := by
  subst hx
  subst hty
  intro H locs ls hP hS hl T9 hT Xs
  have hz := sz_is had hs hn hP hS hT Xs
  have h32 : in32 (len : Int) := by omega
  have hb8 : len * componentBytes (newarray.typeOf at0) ≤ 536870912 := by
    have := Nat.mul_le_mul (Nat.le_of_lt hlen) hby
    omega
  refine (show W (zp Z) (zl Z) (ze Z) (zR Z) (zs Z) (zm Z) (za Z) (zw Z) (zh Z) (zc Z) H locs ce sl Q (F0 (zm Z) pc ls (iv (len : Int) :: rest)) from ?_) T9 hT Xs
  refine va_newaK C.hx C.hb (C.hts _ hw1) rfl d rfl (i_nlt0 (by omega) h32) (by rw [i_cl h32]; exact Int.toNat_natCast len) hb8 hce.1 hce.2 hz (fun H1 cA e1 z1 o1 hAr hNm => ?_)
  have o2 : ∀ q : Nat, q < H.size → H1[q]? = H[q]? := fun q hq => o1 q (by rw [← hz]; exact hq)
  have hcy : cA = xy (zX Z) t := Option.some.inj (hNm.symm.trans (hra _ _ (C.hK.2 t _ (ht _)).2))
  subst hcy
  refine k H1 locs ls ⟨zW_grow (hP.kept o2) ?_, zInj_of had _⟩ (hS.grow (by omega) o2) hl
  rcases ht4 with ⟨q1, q2⟩ | ⟨rfl, q2⟩
  · rw [zE_i hK q1]
    show H1[_]? = some (vp_cell _ _)
    rw [e1, vp_cell_i, q2]
    congr 2
    funext j
    rw [(fz n (Nat.le_refl _) j).1]
    rfl
  · rw [zE_l hK]
    show H1[_]? = some (vp_cell _ _)
    rw [e1, vp_cell_l, q2]
    congr 2
    funext j
    rw [(fz n (Nat.le_refl _) j).1]
    rfl
theorem mw_newQ {idx : Nat} {CN : String} {t len : Nat} {x : Int} (C : Cx Z cc nL own dd rt) (d : decode cc pc = .ok (.anewarray idx, 3)) (had : zAd (zX Z)) (hs : (zs Z).heap.size = xb (zX Z) + n0) (hn : n0 + ce = n) (fz : Fz n g h) (ht : ∀ cy, (zTys cy)[t]? = some (cy t, .object CN)) (hK : zK n = (20 + t, len)) (ht4 : 4 ≤ t) (hx : x = (len : Int)) (hlen : len < 100000)
    (hw1 : Cond.classLink own idx CN ∈ lwg) (hw2 : (Cond.arrayOver (.object CN)).before (za Z) (zs Z) = true) (hce : ce + 1 ≤ (zR Z).cells ∧ sl + len ≤ (zR Z).slots)
    (k : MW Z Q nL (n + 1) g h (ce + 1) (sl + len) (pc + 3) lvs (rfv (xd (zX Z)) n :: rest)) : MW Z Q nL n g h ce sl pc lvs (iv x :: rest) := by
  subst hx
  intro H locs ls hP hS hl T9 hT Xs
  have hz := sz_is had hs hn hP hS hT Xs
  have h32 : in32 (len : Int) := by omega
  have hcl : (Int32.ofInt (len : Int)).toNatClampNeg = len := by rw [i_cl h32]; exact Int.toNat_natCast len
  refine (show W (zp Z) (zl Z) (ze Z) (zR Z) (zs Z) (zm Z) (za Z) (zw Z) (zh Z) (zc Z) H locs ce sl Q (F0 (zm Z) pc ls (iv (len : Int) :: rest)) from ?_) T9 hT Xs
  refine W.anew C.hx C.hb C.hown (C.hts _ hw1) hw2 rfl d rfl (i_nlt0 (by omega) h32) (by rw [hcl]; omega) hce.1 (by rw [hcl]; exact hce.2) (fun cA kA comp f1 f2 f3 f4 => ?_)
  rw [hcl]
  generalize hH1 : H.push ({ cls := cA, slots := Array.replicate len .null, vm := .none } : Cell) = H1
  have z1 : H1.size = H.size + 1 := by rw [← hH1, Array.size_push]
  have e1 : H1[H.size]? = some (arrV cA len (fun _ => .null)) := by rw [← hH1, Array.getElem?_push_size, ← arrV_new]
  have o2 : ∀ q : Nat, q < H.size → H1[q]? = H[q]? := fun q hq => by rw [← hH1, Array.getElem?_push, if_neg (Nat.ne_of_lt hq)]
  obtain ⟨kA', comp', g1, g2, g3, g4⟩ := (C.hK.2 t _ (ht _)).2
  have hcy : cA = xy (zX Z) t := Option.some.inj (f1.symm.trans g4)
  subst hcy
  have hst : (F0 (zm Z) (pc + 3) ls (.ref H.size :: rest)) = F0 (zm Z) (pc + 3) ls (rfv (xd (zX Z)) n :: rest) := by rw [hz]; rfl
  refine W.eq hst (k H1 locs ls ⟨zW_grow (hP.kept o2) ?_, zInj_of had _⟩ (hS.grow (by omega) o2) hl)
  rw [zE_q hK ht4]
  show H1[_]? = some (vp_cell _ _)
  rw [← hz, e1, vp_cell_q]
  congr 2
  funext j
  rw [(fz n (Nat.le_refl _) j).2]
  rfl
theorem zfl_setg {ad : Nat → Nat} {c ci k nf c2 : Nat} (h2 : zfk (zft ci k) = 2) : ((List.range nf).map fun j => zfv ad ci j c g h).set k (rfv ad c2) = (List.range nf).map fun j => zfv ad ci j c (gup g c k c2) h := by
  apply List.ext_getElem?
  intro i
  by_cases hn : i < nf
  · rw [List.getElem?_map, List.getElem?_range hn]
    by_cases hi : k = i
    · subst hi
      rw [List.getElem?_set_self (by simpa using hn)]
      refine congrArg some ?_
      show rfv ad c2 = zfv ad ci k c (gup g c k c2) h
      unfold zfv
      rw [h2]
      simp [gup, va_rf, rfv]
    · rw [List.getElem?_set_ne hi, List.getElem?_map, List.getElem?_range hn]
      refine congrArg some ?_
      show zfv ad ci i c g h = zfv ad ci i c (gup g c k c2) h
      have e : gup g c k c2 c i = g c i := by
        unfold gup
        rw [if_neg (fun q => hi q.2.symm)]
      unfold zfv
      rw [e]
  · rw [List.getElem?_eq_none (by simp; omega), List.getElem?_eq_none (by simp; omega)]
theorem mw_putF {c ci nf k idx c2 : Nat} {CN : String} {T : u_T} {ty0 : Nat → FieldType} (C : Cx Z cc nL own dd rt) (d : decode cc pc = .ok (.putfield idx, 3)) (hnm9 : (zh Z).name = "<init>") (hcn : c < n) (hK : zK c = (ci, nf)) (hci : ci < 13) (hc : vwCl[ci]? = some (CN, T, nf)) (hin : ∀ w ∈ u_ws CN T nf, w ∈ lwg) (hty : ∀ k, k < nf → parseFieldDescriptor (T k).2.2.1 = some (ty0 k)) (hnm : ∀ a, a < nf → ∀ b, b < nf → a ≠ b → (T a).2.1 ≠ (T b).2.1) (hk : k < nf) (hw : Cond.fieldLink own idx CN (T k).2.1 (T k).2.2.1 ∈ lwg) (hT : (T k).1 = CN) (hown : CN = own) (hfin : (T k).2.2.2 = true) (hn : ∀ a, narrow (ty0 k) (.ref a) = .ref a) (hfit : ∀ a, fits (ty0 k) (.ref a) = true) (h2 : zfk (zft ci k) = 2)
    (kk : MW Z Q nL n (gup g c k c2) h ce sl (pc + 3) lvs rest) : MW Z Q nL n g h ce sl pc lvs (rfv (xd (zX Z)) c2 :: rfv (xd (zX Z)) c :: rest) :=
  fun H locs ls hP hS hl => va_putF (D := xD (zX Z)) (A := zA (zX Z)) (C := CN) (T := T) (N := nf) (ref := CN) C.hx C.hb C.hts hin ty0 hty hnm C.hown C.hK hP.1 (zW_D hP.2) hS c ((zW_at hcn).trans (by rw [zE_o hK hci])) hc k hk (C.hts _ hw) (fun x hx => by rw [hT] at hx; exact hx) hfin hnm9 (hT.trans hown) (hty k hk) (hn _) (hfit _) (by simpa using hk) d (fun H1 locs1 hP1 hz hS1 => kk H1 locs1 ls ⟨by
    have e := zfl_setg (g := g) (h := h) (ad := xd (zX Z)) (c := c) (nf := nf) (c2 := c2) h2
    rw [e, zW_set (g' := gup g c k c2) (h' := h) hcn (by rw [zE_o hK hci]) (fun c' hc' => zE_neg hc')] at hP1
    exact hP1, hP.2⟩ hS1 hl)
theorem mw_aast {c c2 ci nf t len : Nat} {CN : String} {T : u_T} {x : Int} (C : Cx Z cc nL own dd rt) (d : decode cc pc = .ok (.aastore, 1)) (hcn : c < n) (hK : zK c = (20 + t, len)) (ht4 : 4 ≤ t) (ht : ∀ cy, (zTys cy)[t]? = some (cy t, .object CN)) (hcn2 : c2 < n) (hK2 : zK c2 = (ci, nf)) (hci : ci < 13) (hc : vwCl[ci]? = some (CN, T, nf)) (hlen : len < 2147483648) (hi : 0 ≤ x ∧ x < (len : Int))
    (kk : MW Z Q nL n (gup g c x.toNat c2) h ce sl (pc + 1) lvs rest) : MW Z Q nL n g h ce sl pc lvs (rfv (xd (zX Z)) c2 :: iv x :: rfv (xd (zX Z)) c :: rest) :=
  fun H locs ls hP hS hl => va_astq C.hx C.hb C.hK hP.1 (zW_D hP.2) hS c t c2 ci ((zW_at hcn).trans (by rw [zE_q hK ht4])) (ht _) ((zW_at hcn2).trans (by rw [zE_o hK2 hci])) hc (i_in hi hlen) d (fun H1 locs1 hP1 _ hS1 => kk H1 locs1 ls ⟨by
    have e : va_up (fun j => (g c j).map (xd (zX Z))) x.toNat (some (xd (zX Z) c2)) = fun j => (gup g c x.toNat c2 c j).map (xd (zX Z)) := by
      funext j
      by_cases hj : j = x.toNat
      · subst hj; simp [va_up, gup]
      · simp [va_up, gup, hj]
    rw [i_cl (by omega), e, zW_set (g' := gup g c x.toNat c2) (h' := h) hcn (by rw [zE_q hK ht4]) (fun c' hc' => zE_neg hc')] at hP1
    exact hP1, hP.2⟩ hS1 hl)
theorem mw_objInit {idx c : Nat} (C : Cx Z cc nL own dd rt) (d : decode cc pc = .ok (.invokespecial idx, 3)) (hw1 : Cond.methodLink own idx Lib.objectInit ∈ lwg) (hw2 : Cond.instanceMethod Lib.objectInit ∈ lwg) (hw3 : Cond.code Lib.objectInit ⟨#[0xb1]⟩ 1 none ∈ lwg) (hdd : 1 ≤ dd) (hrm : (rest.map fun v => v.category).sum ≤ 8)
    (k : MW Z Q nL n g h ce sl (pc + 3) lvs rest) : MW Z Q nL n g h ce sl pc lvs (rfv (xd (zX Z)) c :: rest) :=
  fun H locs ls hP hS hl => W.objInit C.hx C.hb C.hown (C.hts _ hw1) (C.hts _ hw2) (C.hts _ hw3) (g := F0 (zm Z) pc ls (rfv (xd (zX Z)) c :: rest)) rfl (hl.1.trans C.hml.symm) (a := xd (zX Z) c) (rest := rest) rfl d (Nat.le_trans hdd C.hR.1) (Nat.le_trans (by have := lv_room (m := zm Z) (pc := pc) (ls := ls) (rest := rfv (xd (zX Z)) c :: rest) hrm; omega) C.hR.2) (k H locs ls hP hS hl)
theorem rm_ok2 {dc maxL mc ms : Nat} (C : Cx Z cc nL own dd rt) (hd : dc + 1 ≤ dd) (hm : maxL ≤ 20) : (rmD dc mc ms).frames + 1 ≤ (zR Z).frames ∧ 8 + (maxL + 11) + (rmD dc mc ms).locals ≤ (zR Z).locals := by
  obtain ⟨h1, h2⟩ := C.hR
  refine ⟨Nat.le_trans hd h1, Nat.le_trans ?_ h2⟩
  show 8 + (maxL + 11) + 40 * dc ≤ 40 * dd
  omega
theorem mw_afterI {H : Heap} {locs : List Loc} {ls : Array Slot} {st0 : List Value} {n1 mc ms : Nat} {g1 : GH} {h1 : MH} {a : Array Value} (had : zAd (zX Z)) (hr : va_Run (zp Z) (zl Z) (ze Z) (zR Z) (zs Z) (zm Z) (za Z) (zw Z) (zh Z) (zc Z) H locs ce sl mc ms (F0 (zm Z) pc ls st0) rest (mQ (zX Z) none n1 g1 h1 a) (zA (zX Z))) (hS : va_S (zA (zX Z)) (zs Z).heap H locs) (hl : lv_has ls nL lvs) (k : MW Z Q nL n1 g1 h1 (ce + mc) (sl + ms) (pc + 3) lvs rest) : W (zp Z) (zl Z) (ze Z) (zR Z) (zs Z) (zm Z) (za Z) (zw Z) (zh Z) (zc Z) H locs ce sl Q (F0 (zm Z) pc ls st0) := by
  intro T hT Xs
  obtain ⟨v, st₀, t, T', L, h0, X', hL, e1, e2, ⟨⟨hv, hp⟩, hz, hk⟩, st⟩ := hr T hT Xs
  cases hv
  rw [h0] at hz hk
  obtain ⟨t2, a1, b1⟩ := k T'.heap (locs ++ L) ls ⟨by rw [e1]; exact hp, zInj_of had _⟩ ⟨Nat.le_trans hS.1 (by rw [e1]; exact hz), fun q q1 q2 => by rw [e1, hk q (Nat.lt_of_lt_of_le q1 hS.1) q2]; exact hS.2.1 q q1 q2, fun q hq => by
      rcases List.mem_append.mp hq with q1 | q1
      · exact hS.2.2 q q1
      · exact hL q q1⟩ hl T' rfl X'
  exact ⟨t2, st t2 a1, b1⟩
theorem mw_callI {y : MethodName} {bytes : ByteArray} {maxL dc idx c na n1 mc ms : Nat} {g1 : GH} {h1 : MH} (As : List Value) (rest : List Value) {st0 : List Value} (C : Cx Z cc nL own dd rt) (d : decode cc pc = .ok (.invokespecial idx, 3)) (had : zAd (zX Z)) (hs : (zs Z).heap.size = xb (zX Z) + n0) (hn : n0 + ce = n) (hao : zAO (zs Z)) (hM : CtI (zl Z) (zX Z) y bytes maxL dc (rfv (xd (zX Z)) c :: As) n g h n1 g1 h1 mc ms) (hst : st0 = As.reverse ++ rfv (xd (zX Z)) c :: rest) (hy1 : y.name = "<init>")
    (hw1 : Cond.methodLink own idx y ∈ lwg) (hw2 : Cond.instanceMethod y ∈ lwg) (hw4 : Cond.initialized y.cls ∈ lwg) (hw5 : Cond.code y bytes maxL none ∈ lwg)
    (hd : y.cls ≠ "java/lang/invoke/MethodHandle" ∧ y.cls ≠ "java/lang/invoke/VarHandle" ∧ (parseMethodDescriptor y.desc).map (fun d => d.parameters.length) = some na) (hna : As.length = na) (hdd : dc + 1 ≤ dd) (hm : maxL ≤ 20) (hrm : (rest.map fun v => v.category).sum ≤ 8) (hce : ce + mc ≤ (zR Z).cells ∧ sl + ms ≤ (zR Z).slots)
    (k : MW Z Q nL n1 g1 h1 (ce + mc) (sl + ms) (pc + 3) lvs rest) : MW Z Q nL n g h ce sl pc lvs st0 := by
  intro H locs ls hP hS hl T9 hT Xs
  have hz := sz_is had hs hn hP hS hT Xs
  exact mw_afterI had (va_runI (Ts := lwg) (own := own) (As := As) (rest := rest) ⟨C.hx, C.hb, C.hml, C.hown, C.hts⟩ hM (cwI na C.hts (gd_wsM hw5) rfl rfl rfl (C.hts _ hw4) (C.hts _ hw1) (C.hts _ hw2) hy1 hd (rm_ok2 C hdd hm)) ⟨FBwI, fun U hU hW => ⟨rfl, ⟨(mw_pre (av := []) C hP hS U hU hW).2, by rw [hU, hz]; exact had n⟩, zAO.moved hW.alike hao⟩⟩ rfl hna hl.1 hst (lv_room hrm) d hce) hS hl k T9 hT Xs
theorem mw_callIN {y : MethodName} {bytes : ByteArray} {host : String} {maxL dc idx c na n1 mc ms : Nat} {g1 : GH} {h1 : MH} (As : List Value) (rest : List Value) {st0 : List Value} (C : Cx Z cc nL own dd rt) (d : decode cc pc = .ok (.invokespecial idx, 3)) (had : zAd (zX Z)) (hs : (zs Z).heap.size = xb (zX Z) + n0) (hn : n0 + ce = n) (hao : zAO (zs Z)) (hM : CtI (zl Z) (zX Z) y bytes maxL dc (rfv (xd (zX Z)) c :: As) n g h n1 g1 h1 mc ms) (hst : st0 = As.reverse ++ rfv (xd (zX Z)) c :: rest) (hy1 : y.name = "<init>")
    (hw1 : Cond.methodLinkNest own idx y host ∈ zNest) (hw2 : Cond.instanceMethod y ∈ lwg) (hw4 : Cond.initialized y.cls ∈ lwg) (hw5 : Cond.code y bytes maxL none ∈ lwg)
    (hd : y.cls ≠ "java/lang/invoke/MethodHandle" ∧ y.cls ≠ "java/lang/invoke/VarHandle" ∧ (parseMethodDescriptor y.desc).map (fun d => d.parameters.length) = some na) (hna : As.length = na) (hdd : dc + 1 ≤ dd) (hm : maxL ≤ 20) (hrm : (rest.map fun v => v.category).sum ≤ 8) (hce : ce + mc ≤ (zR Z).cells ∧ sl + ms ≤ (zR Z).slots)
    (k : MW Z Q nL n1 g1 h1 (ce + mc) (sl + ms) (pc + 3) lvs rest) : MW Z Q nL n g h ce sl pc lvs st0 := by
  intro H locs ls hP hS hl T9 hT Xs
  have hz := sz_is had hs hn hP hS hT Xs
  exact mw_afterI had (va_runIN (Ts := lwg) (own := own) (host := host) (As := As) (rest := rest) ⟨C.hx, C.hb, C.hml, C.hown, C.hts⟩ hM ⟨va_cnB na C.hts (gd_wsM hw5) rfl rfl rfl (C.hE.1 _ hw1) (C.hts _ hw4) hd (rm_ok2 C hdd hm), hy1, C.hts _ hw2⟩ ⟨FBwI, fun U hU hW => ⟨rfl, ⟨(mw_pre (av := []) C hP hS U hU hW).2, by rw [hU, hz]; exact had n⟩, zAO.moved hW.alike hao⟩⟩ rfl hna hl.1 hst (lv_room hrm) d hce) hS hl k T9 hT Xs
end CTR
