/-! ===== the judgement: a frame of the machine over the small heap ===== -/
abbrev XT : Type := va_G × (Nat → ClassId) × (Nat → Nat) × (Nat → Nat) × (Nat → Nat) × Nat
abbrev xD (X : XT) : va_G := X.1
abbrev xy (X : XT) : Nat → ClassId := X.2.1
abbrev xd (X : XT) : Nat → Nat := X.2.2.1
abbrev xa (X : XT) : Nat → Nat := X.2.2.2.1
abbrev xv (X : XT) : Nat → Nat := X.2.2.2.2.1
abbrev xb (X : XT) : Nat := X.2.2.2.2.2
def zA (X : XT) : Nat → Prop := fun q => xb X ≤ q
abbrev ZT : Type := (Program × Launch × Env × Room × State × MethodId) × (Array Value × List Frame × Method × Code) × XT
abbrev zp (Z : ZT) : Program := Z.1.1
abbrev zl (Z : ZT) : Launch := Z.1.2.1
abbrev ze (Z : ZT) : Env := Z.1.2.2.1
abbrev zR (Z : ZT) : Room := Z.1.2.2.2.1
abbrev zs (Z : ZT) : State := Z.1.2.2.2.2.1
abbrev zm (Z : ZT) : MethodId := Z.1.2.2.2.2.2
abbrev za (Z : ZT) : Array Value := Z.2.1.1
abbrev zw (Z : ZT) : List Frame := Z.2.1.2.1
abbrev zh (Z : ZT) : Method := Z.2.1.2.2.1
abbrev zc (Z : ZT) : Code := Z.2.1.2.2.2
abbrev zX (Z : ZT) : XT := Z.2.2
/-- the words that every method may use -/
def lwg : List Cond := lw_tbl.filter goodWord
theorem lwg_in {w : Cond} (h : w ∈ lw_tbl) (hg : goodWord w = true) : w ∈ lwg := List.mem_filter.mpr ⟨h, hg⟩
theorem lwg_good : ∀ w ∈ lwg, (w.onTables && w.keeps) = true ∨ ∃ ty, w = .arrayClass ty := fun w h => good_of_word (List.mem_filter.mp h).2
/-- what else holds of a state: nest links, String constants -/
def zStr (X : XT) (i : Nat) (U : State) (H : Heap) : Prop := vk_R (zsO i) (zsI i) (zsX i) (xa X i) U ∧ va_O "java/lang/String" (xa X i) (zA X) U H ∧ va_OF "java/lang/String" "coder" "B" (.int 0) (xa X i) (zA X) U H ∧ va_OF "java/lang/String" "value" "[B" (.ref (xv X i)) (xa X i) (zA X) U H ∧ va_T .byte (xv X i) (zsB.getD i []).length (fun j => .int (Int32.ofInt (sch i j))) (zA X) U H
def zEX (X : XT) (U : State) (H : Heap) : Prop := (∀ w ∈ zNest, va_Nw w U) ∧ (va_Z "java/lang/String" "COMPACT_STRINGS" "Z" (.int 1) (zA X) U H ∧ va_Zq "jdk/internal/util/Preconditions" "SIOOBE_FORMATTER" "Ljava/util/function/BiFunction;" (zA X) U H) ∧ ∀ i, i < 21 → zStr X i U H
theorem zNest_form : ∀ w ∈ zNest, ∃ (a : String) (i : Nat) (x : MethodName) (h : String), w = .methodLinkNest a i x h := by
  intro w hw
  simp only [zNest, List.mem_cons, List.not_mem_nil, or_false] at hw
  rcases hw with rfl | rfl | rfl | rfl | rfl | rfl | rfl | rfl | rfl | rfl | rfl | rfl | rfl <;> exact ⟨_, _, _, _, rfl⟩
theorem zEX.moved {X : XT} {s U : State} {H0 H : Heap} (hW : s.WarmedH U.vm) (hq : ∀ a : Nat, a < H0.size → ¬ zA X a → H[a]? = H0[a]?) (h : zEX X s H0) : zEX X U H := by
  refine ⟨fun w hw => ?_, ⟨(h.2.1.1.moved hW.alike).kept hq, (h.2.1.2.moved hW.alike).kept hq⟩, fun i hi => ?_⟩
  · obtain ⟨a, k, x, ho, rfl⟩ := zNest_form w hw
    exact va_Nw.warmM hW (h.1 _ hw)
  · obtain ⟨h1, h2, h3, h4, h5⟩ := h.2.2 i hi
    exact ⟨h1.warm hW, (h2.moved hW.alike).kept hq, (h3.moved hW.alike).kept hq, (h4.moved hW.alike).kept hq, (h5.moved hW.alike).kept hq⟩
theorem zEX.same {X : XT} {u U : State} {H : Heap} (hv : u.vm = U.vm) (h : zEX X u H) : zEX X U H := by
  have hA : u.vm.Alike U.vm := hv ▸ Vm.Alike.refl u.vm
  refine ⟨fun w hw => ?_, ⟨h.2.1.1.moved hA, h.2.1.2.moved hA⟩, fun i hi => ?_⟩
  · obtain ⟨a, k, x, ho, rfl⟩ := zNest_form w hw
    exact va_Nw.same rfl hv (h.1 _ hw)
  · obtain ⟨h1, h2, h3, h4, h5⟩ := h.2.2 i hi
    exact ⟨h1.same hv.symm, h2.moved hA, h3.moved hA, h4.moved hA, h5.moved hA⟩
/-- the world of a state -/
def Bw (X : XT) (n : Nat) (g : GH) (h : MH) (U : State) : Prop := (va_P (xD X) vwCl (zW (xd X) (xy X) n g h) U.heap ∧ zInj (xd X) (zA X) n) ∧ va_K (xD X) vwCl (zTys (xy X)) U ∧ zEX X U U.heap ∧ xb X ≤ U.heap.size
def mQ (X : XT) (r : Option Value) (n : Nat) (g : GH) (h : MH) : Array Value → State → Outcome → State → Prop := fun _ st oc t => (oc = .returned r ∧ va_P (xD X) vwCl (zW (xd X) (xy X) n g h) t.heap) ∧ va_F (zA X) st t
def rmD (d mc ms : Nat) : Room := { frames := d, cells := mc, slots := ms, locals := 40 * d }
def wsM (y : MethodName) (cc : ByteArray) (nL : Nat) (ret : Option FieldType) : List Cond := Cond.code y cc nL ret :: lwg
/-- A METHOD'S CONTRACT: from the small heap h it comes back with r and the small heap h1 -/
def Ct (l : Launch) (X : XT) (y : MethodName) (cc : ByteArray) (nL : Nat) (ret : Option FieldType) (d : Nat) (av : List Value) (n : Nat) (g : GH) (h : MH) (r : Option Value) (n1 : Nat) (g1 : GH) (h1 : MH) (mc ms : Nat) : Prop :=
  Met l y (wsM y cc nL ret) (rmD d mc ms) (va_Pc av (Bw X n g h)) (mQ X r n1 g1 h1) mc ms (zA X)
def Cx (Z : ZT) (cc : ByteArray) (nL : Nat) (own : String) (d : Nat) (ret : Option FieldType) : Prop :=
  (zp Z).tables.exec = Jvm.exec ∧ (zc Z).code = cc ∧ (zc Z).maxLocals = nL ∧ (zs Z).vm.findClass own = some (zm Z).cls ∧ (∀ w ∈ lwg, w.before (za Z) (zs Z) = true) ∧ va_K (xD (zX Z)) vwCl (zTys (xy (zX Z))) (zs Z) ∧ zEX (zX Z) (zs Z) (zs Z).heap ∧ xb (zX Z) ≤ (zs Z).heap.size ∧ (d ≤ (zR Z).frames ∧ 40 * d ≤ (zR Z).locals) ∧ (zh Z).sig.returnType = ret ∧ (zh Z).locks = false
def Wd (X : XT) (n : Nat) (g : GH) (h : MH) (H : Heap) : Prop := va_P (xD X) vwCl (zW (xd X) (xy X) n g h) H ∧ zInj (xd X) (zA X) n
def MW (Z : ZT) (Q : State → Prop) (nL n : Nat) (g : GH) (h : MH) (ce sl pc : Nat) (lvs : List (Nat × Value)) (st : List Value) : Prop :=
  ∀ (H : Heap) (locs : List Loc) (ls : Array Slot), Wd (zX Z) n g h H → va_S (zA (zX Z)) (zs Z).heap H locs → lv_has ls nL lvs → W (zp Z) (zl Z) (ze Z) (zR Z) (zs Z) (zm Z) (za Z) (zw Z) (zh Z) (zc Z) H locs ce sl Q (F0 (zm Z) pc ls st)
def Qm (Z : ZT) (r : Option Value) (n : Nat) (g : GH) (h : MH) (mc ms : Nat) : State → Prop := MQ (zw Z) (mQ (zX Z) r n g h) (za Z) (zs Z) mc ms (zA (zX Z))
theorem FBw {X : XT} {n : Nat} {g : GH} {h : MH} {av : List Value} : FrameBlind (va_Pc av (Bw X n g h)) := by
  intro a U g' mk q
  obtain ⟨q0, ⟨q1, q2⟩, q3, q4, q5⟩ := q
  exact ⟨q0, ⟨q1, q2⟩, va_K.moved (u := U) (U := U.calling g' mk a) (Vm.Alike.refl U.vm) q3, zEX.same (u := U) (U := U.calling g' mk a) rfl q4, q5⟩
/-- the head of a method -/
theorem Ct.head {l : Launch} {X : XT} {y : MethodName} {cc : ByteArray} {nL : Nat} {ret : Option FieldType} {d : Nat} {av : List Value} {n : Nat} {g : GH} {h : MH} {r : Option Value} {n1 : Nat} {g1 : GH} {h1 : MH} {mc ms : Nat}
    (hy : plainName y.cls = true) (hnl : (lg_sl av).length ≤ nL)
    (body : ∀ Z : ZT, zX Z = X → zl Z = l → (zR Z).cells = mc → (zR Z).slots = ms → (zh Z).name = y.name → Cx Z cc nL y.cls d ret → MW Z (Qm Z r n1 g1 h1 mc ms) nL n g h 0 0 0 (lv_args 0 av) []) : Ct l X y cc nL ret d av n g h r n1 g1 h1 mc ms := by
  refine Met.ofW (cc := cc) (maxL := nL) (ret := ret) hy rfl ?_
  intro p e s m args below meth c s₁ B hml hv
  obtain ⟨rfl, ⟨hP, hz⟩, hK, hE, hbs⟩ := hv
  have hts := atoms_spec (ws := wsM y cc nL ret) B.pre
  have hown : s.vm.findClass y.cls = some m.cls := findClass_of_methodNamed B.named
  have hl := lv_entry av (n := nL) hnl
  rw [lg_entry_eq]
  exact body ((p, l, e, (headSpec (wsM y cc nL ret) (rmD d mc ms)).room, s, m), (av.toArray, below, meth, c), X) rfl rfl rfl rfl (name_of_methodNamed B.named B.method).1 ⟨B.exec, B.bytes, hml, hown, fun w hw => hts w (List.mem_cons_of_mem _ hw), hK, hE, hbs, ⟨Nat.le_refl _, Nat.le_refl _⟩, B.returns, B.notSynchronized⟩ s.heap [] _ ⟨hP, hz⟩ va_S.rf hl
section MWR
variable {Z : ZT} {Q : State → Prop} {cc : ByteArray} {nL : Nat} {own : String} {dd : Nat} {rt : Option FieldType} {n : Nat} {g : GH} {h : MH} {ce sl pc : Nat} {lvs : List (Nat × Value)} {rest : List Value}
theorem Cx.hx (C : Cx Z cc nL own dd rt) : (zp Z).tables.exec = Jvm.exec := C.1
theorem Cx.hb (C : Cx Z cc nL own dd rt) : (zc Z).code = cc := C.2.1
theorem Cx.hml (C : Cx Z cc nL own dd rt) : (zc Z).maxLocals = nL := C.2.2.1
theorem Cx.hown (C : Cx Z cc nL own dd rt) : (zs Z).vm.findClass own = some (zm Z).cls := C.2.2.2.1
theorem Cx.hts (C : Cx Z cc nL own dd rt) : ∀ w ∈ lwg, w.before (za Z) (zs Z) = true := C.2.2.2.2.1
theorem Cx.hK (C : Cx Z cc nL own dd rt) : va_K (xD (zX Z)) vwCl (zTys (xy (zX Z))) (zs Z) := C.2.2.2.2.2.1
theorem Cx.hE (C : Cx Z cc nL own dd rt) : zEX (zX Z) (zs Z) (zs Z).heap := C.2.2.2.2.2.2.1
theorem Cx.hR (C : Cx Z cc nL own dd rt) : dd ≤ (zR Z).frames ∧ 40 * dd ≤ (zR Z).locals := C.2.2.2.2.2.2.2.2.1
theorem Cx.hr (C : Cx Z cc nL own dd rt) : (zh Z).sig.returnType = rt := C.2.2.2.2.2.2.2.2.2.1
theorem Cx.hlk (C : Cx Z cc nL own dd rt) : (zh Z).locks = false := C.2.2.2.2.2.2.2.2.2.2
theorem mw_eq {h' : MH} {lvs' : List (Nat × Value)} {st st' : List Value} (e1 : h = h') (e2 : lvs = lvs') (e3 : st = st') (k : MW Z Q nL n g h' ce sl pc lvs' st') : MW Z Q nL n g h ce sl pc lvs st := by subst e1; subst e2; subst e3; exact k
theorem mw_sub {lvs' : List (Nat × Value)} (ks : List Nat) (e : lv_pick lvs ks = lvs') (k : MW Z Q nL n g h ce sl pc lvs' rest) : MW Z Q nL n g h ce sl pc lvs rest := fun H locs ls hP hS hl => k H locs ls hP hS (lv_sub hl ks e)
theorem mw_iconst {v : Int} (C : Cx Z cc nL own dd rt) (d : decode cc pc = .ok (.iconst v, 1)) (k : MW Z Q nL n g h ce sl (pc + 1) lvs (iv v :: rest)) : MW Z Q nL n g h ce sl pc lvs rest :=
  fun H locs ls hP hS hl => lv_iconst C.hx C.hb d rfl (k H locs ls hP hS hl)
theorem mw_bipush {v : Int} (C : Cx Z cc nL own dd rt) (d : decode cc pc = .ok (.bipush v, 2)) (hv : (Int8.ofInt v).toInt32 = Int32.ofInt v) (k : MW Z Q nL n g h ce sl (pc + 2) lvs (iv v :: rest)) : MW Z Q nL n g h ce sl pc lvs rest :=
  fun H locs ls hP hS hl => lv_bipush C.hx C.hb d hv (k H locs ls hP hS hl)
theorem mw_sipush {v : Int} (C : Cx Z cc nL own dd rt) (d : decode cc pc = .ok (.sipush v, 3)) (hv : (Int16.ofInt v).toInt32 = Int32.ofInt v) (k : MW Z Q nL n g h ce sl (pc + 3) lvs (iv v :: rest)) : MW Z Q nL n g h ce sl pc lvs rest :=
  fun H locs ls hP hS hl => lv_sipush C.hx C.hb d hv (k H locs ls hP hS hl)
theorem mw_lconst {v : Fin 2} {a : Int} (C : Cx Z cc nL own dd rt) (d : decode cc pc = .ok (.lconst v, 1)) (hv : Int64.ofNat (v : Nat) = Int64.ofInt a) (k : MW Z Q nL n g h ce sl (pc + 1) lvs (lvv a :: rest)) : MW Z Q nL n g h ce sl pc lvs rest :=
  fun H locs ls hP hS hl => lv_lconst C.hx C.hb d hv (k H locs ls hP hS hl)
theorem mw_ldc {v : Int32} {a : Int} {idx : Nat} (C : Cx Z cc nL own dd rt) (d : decode cc pc = .ok (.ldc idx, 2)) (hw : Cond.constant own idx v ∈ lwg) (hv : v = Int32.ofInt a) (k : MW Z Q nL n g h ce sl (pc + 2) lvs (iv a :: rest)) : MW Z Q nL n g h ce sl pc lvs rest :=
  fun H locs ls hP hS hl => lv_ldc C.hx C.hb C.hown (C.hts _ hw) d (by rw [hv]; exact k H locs ls hP hS hl)
theorem mw_ldcw {v : Int32} {a : Int} {idx : Nat} (C : Cx Z cc nL own dd rt) (d : decode cc pc = .ok (.ldc_w idx, 3)) (hw : Cond.constant own idx v ∈ lwg) (hv : v = Int32.ofInt a) (k : MW Z Q nL n g h ce sl (pc + 3) lvs (iv a :: rest)) : MW Z Q nL n g h ce sl pc lvs rest :=
  fun H locs ls hP hS hl => lv_ldcw C.hx C.hb C.hown (C.hts _ hw) d (by rw [hv]; exact k H locs ls hP hS hl)
theorem mw_ldc2 {v : Int64} {a : Int} {idx : Nat} (C : Cx Z cc nL own dd rt) (d : decode cc pc = .ok (.ldc2_w idx, 3)) (hw : Cond.constantLong own idx v ∈ lwg) (hv : v = Int64.ofInt a) (k : MW Z Q nL n g h ce sl (pc + 3) lvs (lvv a :: rest)) : MW Z Q nL n g h ce sl pc lvs rest :=
  fun H locs ls hP hS hl => lv_ldc2 C.hx C.hb C.hown (C.hts _ hw) d (by rw [hv]; exact k H locs ls hP hS hl)
theorem mw_ldcS {idx : Nat} (i : Nat) (hi : i < 21) (ho : zsO i = own) (hx : zsI i = idx) (C : Cx Z cc nL own dd rt) (d : decode cc pc = .ok (.ldc idx, 2)) (k : MW Z Q nL n g h ce sl (pc + 2) lvs (.ref (xa (zX Z) i) :: rest)) : MW Z Q nL n g h ce sl pc lvs rest :=
  fun H locs ls hP hS hl => va_ldcS (tx := zsX i) C.hx C.hb C.hown (by rw [← ho, ← hx]; exact (C.hE.2.2 i hi).1) d (k H locs ls hP hS hl)
theorem mw_iload_n {x : Int} {i : Fin 4} {j : Nat} (q : Nat) (C : Cx Z cc nL own dd rt) (d : decode cc pc = .ok (.iload_n i, 1)) (hi : (i : Nat) = j) (hq : lvs[q]? = some (j, iv x)) (k : MW Z Q nL n g h ce sl (pc + 1) lvs (iv x :: rest)) : MW Z Q nL n g h ce sl pc lvs rest :=
  fun H locs ls hP hS hl => lv_iload_n C.hx C.hb d hi (lv_at hl q hq) (k H locs ls hP hS hl)
theorem mw_iload {x : Int} {j : Nat} (q : Nat) (C : Cx Z cc nL own dd rt) (d : decode cc pc = .ok (.iload j, 2)) (hq : lvs[q]? = some (j, iv x)) (k : MW Z Q nL n g h ce sl (pc + 2) lvs (iv x :: rest)) : MW Z Q nL n g h ce sl pc lvs rest :=
  fun H locs ls hP hS hl => lv_iload C.hx C.hb d (lv_at hl q hq) (k H locs ls hP hS hl)
theorem mw_lload_n {x : Int} {i : Fin 4} {j : Nat} (q : Nat) (C : Cx Z cc nL own dd rt) (d : decode cc pc = .ok (.lload_n i, 1)) (hi : (i : Nat) = j) (hq : lvs[q]? = some (j, lvv x)) (k : MW Z Q nL n g h ce sl (pc + 1) lvs (lvv x :: rest)) : MW Z Q nL n g h ce sl pc lvs rest :=
  fun H locs ls hP hS hl => lv_lload_n C.hx C.hb d hi (lv_at hl q hq) (k H locs ls hP hS hl)
theorem mw_lload {x : Int} {j : Nat} (q : Nat) (C : Cx Z cc nL own dd rt) (d : decode cc pc = .ok (.lload j, 2)) (hq : lvs[q]? = some (j, lvv x)) (k : MW Z Q nL n g h ce sl (pc + 2) lvs (lvv x :: rest)) : MW Z Q nL n g h ce sl pc lvs rest :=
  fun H locs ls hP hS hl => lv_lload C.hx C.hb d (lv_at hl q hq) (k H locs ls hP hS hl)
theorem mw_aload_n {x : Nat} {i : Fin 4} {j : Nat} (q : Nat) (C : Cx Z cc nL own dd rt) (d : decode cc pc = .ok (.aload_n i, 1)) (hi : (i : Nat) = j) (hq : lvs[q]? = some (j, .ref x)) (k : MW Z Q nL n g h ce sl (pc + 1) lvs (.ref x :: rest)) : MW Z Q nL n g h ce sl pc lvs rest :=
  fun H locs ls hP hS hl => lv_aload_n C.hx C.hb d hi (lv_at hl q hq) (k H locs ls hP hS hl)
theorem mw_aload {x : Nat} {j : Nat} (q : Nat) (C : Cx Z cc nL own dd rt) (d : decode cc pc = .ok (.aload j, 2)) (hq : lvs[q]? = some (j, .ref x)) (k : MW Z Q nL n g h ce sl (pc + 2) lvs (.ref x :: rest)) : MW Z Q nL n g h ce sl pc lvs rest :=
  fun H locs ls hP hS hl => lv_aload C.hx C.hb d (lv_at hl q hq) (k H locs ls hP hS hl)
theorem mw_istore_n {x : Int} {i : Fin 4} {j : Nat} (lvs' : List (Nat × Value)) (C : Cx Z cc nL own dd rt) (d : decode cc pc = .ok (.istore_n i, 1)) (hi : (i : Nat) = j) (hn : j < nL) (hl' : (j, (iv x : Value)) :: lvs.filter (fun q => !(q.1 == j) && !(q.1 + 1 == j && q.2.category == 2)) = lvs') (k : MW Z Q nL n g h ce sl (pc + 1) lvs' rest) : MW Z Q nL n g h ce sl pc lvs (iv x :: rest) :=
  fun H locs ls hP hS hl => lv_istore_n (lv' := lvs') C.hx C.hb d hi hl hn hl' (fun ls' hl2 => k H locs ls' hP hS hl2)
theorem mw_istore {x : Int} {j : Nat} (lvs' : List (Nat × Value)) (C : Cx Z cc nL own dd rt) (d : decode cc pc = .ok (.istore j, 2)) (hn : j < nL) (hl' : (j, (iv x : Value)) :: lvs.filter (fun q => !(q.1 == j) && !(q.1 + 1 == j && q.2.category == 2)) = lvs') (k : MW Z Q nL n g h ce sl (pc + 2) lvs' rest) : MW Z Q nL n g h ce sl pc lvs (iv x :: rest) :=
  fun H locs ls hP hS hl => lv_istore (lv' := lvs') C.hx C.hb d hl hn hl' (fun ls' hl2 => k H locs ls' hP hS hl2)
theorem mw_lstore_n {x : Int} {i : Fin 4} {j : Nat} (lvs' : List (Nat × Value)) (C : Cx Z cc nL own dd rt) (d : decode cc pc = .ok (.lstore_n i, 1)) (hi : (i : Nat) = j) (hn : j + 1 < nL) (hl' : (j, (lvv x : Value)) :: lvs.filter (fun q => !(q.1 == j) && (!(q.1 == j + 1) && !(q.1 + 1 == j && q.2.category == 2))) = lvs') (k : MW Z Q nL n g h ce sl (pc + 1) lvs' rest) : MW Z Q nL n g h ce sl pc lvs (lvv x :: rest) :=
  fun H locs ls hP hS hl => lv_lstore_n (lv' := lvs') C.hx C.hb d hi hl hn hl' (fun ls' hl2 => k H locs ls' hP hS hl2)
theorem mw_lstore {x : Int} {j : Nat} (lvs' : List (Nat × Value)) (C : Cx Z cc nL own dd rt) (d : decode cc pc = .ok (.lstore j, 2)) (hn : j + 1 < nL) (hl' : (j, (lvv x : Value)) :: lvs.filter (fun q => !(q.1 == j) && (!(q.1 == j + 1) && !(q.1 + 1 == j && q.2.category == 2))) = lvs') (k : MW Z Q nL n g h ce sl (pc + 2) lvs' rest) : MW Z Q nL n g h ce sl pc lvs (lvv x :: rest) :=
  fun H locs ls hP hS hl => lv_lstore (lv' := lvs') C.hx C.hb d hl hn hl' (fun ls' hl2 => k H locs ls' hP hS hl2)
theorem mw_astore_n {x : Nat} {i : Fin 4} {j : Nat} (lvs' : List (Nat × Value)) (C : Cx Z cc nL own dd rt) (d : decode cc pc = .ok (.astore_n i, 1)) (hi : (i : Nat) = j) (hn : j < nL) (hl' : (j, (.ref x : Value)) :: lvs.filter (fun q => !(q.1 == j) && !(q.1 + 1 == j && q.2.category == 2)) = lvs') (k : MW Z Q nL n g h ce sl (pc + 1) lvs' rest) : MW Z Q nL n g h ce sl pc lvs (.ref x :: rest) :=
  fun H locs ls hP hS hl => lv_astore_n (lv' := lvs') C.hx C.hb d hi hl hn hl' (fun ls' hl2 => k H locs ls' hP hS hl2)
theorem mw_astore {x : Nat} {j : Nat} (lvs' : List (Nat × Value)) (C : Cx Z cc nL own dd rt) (d : decode cc pc = .ok (.astore j, 2)) (hn : j < nL) (hl' : (j, (.ref x : Value)) :: lvs.filter (fun q => !(q.1 == j) && !(q.1 + 1 == j && q.2.category == 2)) = lvs') (k : MW Z Q nL n g h ce sl (pc + 2) lvs' rest) : MW Z Q nL n g h ce sl pc lvs (.ref x :: rest) :=
  fun H locs ls hP hS hl => lv_astore (lv' := lvs') C.hx C.hb d hl hn hl' (fun ls' hl2 => k H locs ls' hP hS hl2)
theorem mw_iinc {x v : Int} {j : Nat} (q : Nat) (lvs' : List (Nat × Value)) (C : Cx Z cc nL own dd rt) (d : decode cc pc = .ok (.iinc j v, 3)) (hq : lvs[q]? = some (j, iv x)) (hn : j < nL) (hl' : (j, iv (x + v)) :: lvs.filter (fun q => !(q.1 == j) && !(q.1 + 1 == j && q.2.category == 2)) = lvs') (k : MW Z Q nL n g h ce sl (pc + 3) lvs' rest) : MW Z Q nL n g h ce sl pc lvs rest :=
  fun H locs ls hP hS hl => lv_iinc (v := Int32.ofInt (x + v)) (lv' := lvs') C.hx C.hb d hl (k := q) hq (Int32.ofInt_add ..).symm hn hl' (fun ls' hl2 => k H locs ls' hP hS hl2)
theorem mw_iadd {x y : Int} (C : Cx Z cc nL own dd rt) (d : decode cc pc = .ok (.iadd, 1)) (k : MW Z Q nL n g h ce sl (pc + 1) lvs (iv (x + y) :: rest)) : MW Z Q nL n g h ce sl pc lvs (iv y :: iv x :: rest) :=
  fun H locs ls hP hS hl => lv_iadd C.hx C.hb d (by rw [← Int32.ofInt_add]; exact k H locs ls hP hS hl)
theorem mw_isub {x y : Int} (C : Cx Z cc nL own dd rt) (d : decode cc pc = .ok (.isub, 1)) (k : MW Z Q nL n g h ce sl (pc + 1) lvs (iv (x - y) :: rest)) : MW Z Q nL n g h ce sl pc lvs (iv y :: iv x :: rest) :=
  fun H locs ls hP hS hl => lv_isub C.hx C.hb d (by rw [i_sub]; exact k H locs ls hP hS hl)
theorem mw_imul {x y : Int} (C : Cx Z cc nL own dd rt) (d : decode cc pc = .ok (.imul, 1)) (k : MW Z Q nL n g h ce sl (pc + 1) lvs (iv (x * y) :: rest)) : MW Z Q nL n g h ce sl pc lvs (iv y :: iv x :: rest) :=
  fun H locs ls hP hS hl => lv_imul C.hx C.hb d (by rw [← Int32.ofInt_mul]; exact k H locs ls hP hS hl)
theorem mw_ladd {x y : Int} (C : Cx Z cc nL own dd rt) (d : decode cc pc = .ok (.ladd, 1)) (k : MW Z Q nL n g h ce sl (pc + 1) lvs (lvv (x + y) :: rest)) : MW Z Q nL n g h ce sl pc lvs (lvv y :: lvv x :: rest) :=
  fun H locs ls hP hS hl => lv_ladd C.hx C.hb d (by rw [← Int64.ofInt_add]; exact k H locs ls hP hS hl)
theorem mw_lsub {x y : Int} (C : Cx Z cc nL own dd rt) (d : decode cc pc = .ok (.lsub, 1)) (k : MW Z Q nL n g h ce sl (pc + 1) lvs (lvv (x - y) :: rest)) : MW Z Q nL n g h ce sl pc lvs (lvv y :: lvv x :: rest) :=
  fun H locs ls hP hS hl => lv_lsub C.hx C.hb d (by rw [l_sub]; exact k H locs ls hP hS hl)
theorem mw_lmul {x y : Int} (C : Cx Z cc nL own dd rt) (d : decode cc pc = .ok (.lmul, 1)) (k : MW Z Q nL n g h ce sl (pc + 1) lvs (lvv (x * y) :: rest)) : MW Z Q nL n g h ce sl pc lvs (lvv y :: lvv x :: rest) :=
  fun H locs ls hP hS hl => lv_lmul C.hx C.hb d (by rw [← Int64.ofInt_mul]; exact k H locs ls hP hS hl)
theorem mw_idiv {x y : Int} (C : Cx Z cc nL own dd rt) (d : decode cc pc = .ok (.idiv, 1)) (hx : in32 x) (hy : in32 y) (h0 : y ≠ 0) (k : MW Z Q nL n g h ce sl (pc + 1) lvs (iv (x.tdiv y) :: rest)) : MW Z Q nL n g h ce sl pc lvs (iv y :: iv x :: rest) :=
  fun H locs ls hP hS hl => lv_idiv C.hx C.hb d (i_ne0 hy h0) (by rw [i_div hx hy]; exact k H locs ls hP hS hl)
theorem mw_irem {x y : Int} (C : Cx Z cc nL own dd rt) (d : decode cc pc = .ok (.irem, 1)) (hx : in32 x) (hy : in32 y) (h0 : y ≠ 0) (k : MW Z Q nL n g h ce sl (pc + 1) lvs (iv (x.tmod y) :: rest)) : MW Z Q nL n g h ce sl pc lvs (iv y :: iv x :: rest) :=
  fun H locs ls hP hS hl => lv_irem C.hx C.hb d (i_ne0 hy h0) (by rw [i_rem hx hy]; exact k H locs ls hP hS hl)
theorem mw_ldiv {x y : Int} (C : Cx Z cc nL own dd rt) (d : decode cc pc = .ok (.ldiv, 1)) (hx : in64 x) (hy : in64 y) (h0 : y ≠ 0) (k : MW Z Q nL n g h ce sl (pc + 1) lvs (lvv (x.tdiv y) :: rest)) : MW Z Q nL n g h ce sl pc lvs (lvv y :: lvv x :: rest) :=
  fun H locs ls hP hS hl => lv_ldiv C.hx C.hb d (l_ne0 hy h0) (by rw [l_div hx hy]; exact k H locs ls hP hS hl)
theorem mw_lrem {x y : Int} (C : Cx Z cc nL own dd rt) (d : decode cc pc = .ok (.lrem, 1)) (hx : in64 x) (hy : in64 y) (h0 : y ≠ 0) (k : MW Z Q nL n g h ce sl (pc + 1) lvs (lvv (x.tmod y) :: rest)) : MW Z Q nL n g h ce sl pc lvs (lvv y :: lvv x :: rest) :=
  fun H locs ls hP hS hl => lv_lrem C.hx C.hb d (l_ne0 hy h0) (by rw [l_rem hx hy]; exact k H locs ls hP hS hl)
theorem mw_iand {x y : Int} (C : Cx Z cc nL own dd rt) (d : decode cc pc = .ok (.iand, 1)) (k : MW Z Q nL n g h ce sl (pc + 1) lvs (iv (land32 x y) :: rest)) : MW Z Q nL n g h ce sl pc lvs (iv y :: iv x :: rest) :=
  fun H locs ls hP hS hl => lv_iand C.hx C.hb d (by have k2 := k H locs ls hP hS hl; rw [iv, land32, i_bk] at k2; exact k2)
theorem mw_ior {x y : Int} (C : Cx Z cc nL own dd rt) (d : decode cc pc = .ok (.ior, 1)) (k : MW Z Q nL n g h ce sl (pc + 1) lvs (iv (lor32 x y) :: rest)) : MW Z Q nL n g h ce sl pc lvs (iv y :: iv x :: rest) :=
  fun H locs ls hP hS hl => lv_ior C.hx C.hb d (by have k2 := k H locs ls hP hS hl; rw [iv, lor32, i_bk] at k2; exact k2)
theorem mw_ixor {x y : Int} (C : Cx Z cc nL own dd rt) (d : decode cc pc = .ok (.ixor, 1)) (k : MW Z Q nL n g h ce sl (pc + 1) lvs (iv (lxor32 x y) :: rest)) : MW Z Q nL n g h ce sl pc lvs (iv y :: iv x :: rest) :=
  fun H locs ls hP hS hl => lv_ixor C.hx C.hb d (by have k2 := k H locs ls hP hS hl; rw [iv, lxor32, i_bk] at k2; exact k2)
theorem mw_land {x y : Int} (C : Cx Z cc nL own dd rt) (d : decode cc pc = .ok (.land, 1)) (k : MW Z Q nL n g h ce sl (pc + 1) lvs (lvv (land64 x y) :: rest)) : MW Z Q nL n g h ce sl pc lvs (lvv y :: lvv x :: rest) :=
  fun H locs ls hP hS hl => lv_land C.hx C.hb d (by have k2 := k H locs ls hP hS hl; rw [lvv, land64, l_bk] at k2; exact k2)
theorem mw_lor {x y : Int} (C : Cx Z cc nL own dd rt) (d : decode cc pc = .ok (.lor, 1)) (k : MW Z Q nL n g h ce sl (pc + 1) lvs (lvv (lor64 x y) :: rest)) : MW Z Q nL n g h ce sl pc lvs (lvv y :: lvv x :: rest) :=
  fun H locs ls hP hS hl => lv_lor C.hx C.hb d (by have k2 := k H locs ls hP hS hl; rw [lvv, lor64, l_bk] at k2; exact k2)
theorem mw_lxor {x y : Int} (C : Cx Z cc nL own dd rt) (d : decode cc pc = .ok (.lxor, 1)) (k : MW Z Q nL n g h ce sl (pc + 1) lvs (lvv (lxor64 x y) :: rest)) : MW Z Q nL n g h ce sl pc lvs (lvv y :: lvv x :: rest) :=
  fun H locs ls hP hS hl => lv_lxor C.hx C.hb d (by have k2 := k H locs ls hP hS hl; rw [lvv, lxor64, l_bk] at k2; exact k2)
theorem mw_ishl {x y : Int} (C : Cx Z cc nL own dd rt) (d : decode cc pc = .ok (.ishl, 1)) (k : MW Z Q nL n g h ce sl (pc + 1) lvs (iv (shl32 x y) :: rest)) : MW Z Q nL n g h ce sl pc lvs (iv y :: iv x :: rest) :=
  fun H locs ls hP hS hl => lv_ishl C.hx C.hb d (by have k2 := k H locs ls hP hS hl; rw [iv, shl32, i_bk] at k2; exact k2)
theorem mw_ishr {x y : Int} (C : Cx Z cc nL own dd rt) (d : decode cc pc = .ok (.ishr, 1)) (k : MW Z Q nL n g h ce sl (pc + 1) lvs (iv (shr32 x y) :: rest)) : MW Z Q nL n g h ce sl pc lvs (iv y :: iv x :: rest) :=
  fun H locs ls hP hS hl => lv_ishr C.hx C.hb d (by have k2 := k H locs ls hP hS hl; rw [iv, shr32, i_bk] at k2; exact k2)
theorem mw_lshl {x y : Int} (C : Cx Z cc nL own dd rt) (d : decode cc pc = .ok (.lshl, 1)) (k : MW Z Q nL n g h ce sl (pc + 1) lvs (lvv (shl64 x y) :: rest)) : MW Z Q nL n g h ce sl pc lvs (iv y :: lvv x :: rest) :=
  fun H locs ls hP hS hl => lv_lshl C.hx C.hb d (by rw [shl64, l_bk]) (k H locs ls hP hS hl)
theorem mw_lshr {x y : Int} (C : Cx Z cc nL own dd rt) (d : decode cc pc = .ok (.lshr, 1)) (k : MW Z Q nL n g h ce sl (pc + 1) lvs (lvv (shr64 x y) :: rest)) : MW Z Q nL n g h ce sl pc lvs (iv y :: lvv x :: rest) :=
  fun H locs ls hP hS hl => lv_lshr C.hx C.hb d (by rw [shr64, l_bk]) (k H locs ls hP hS hl)
theorem mw_lushr {x y : Int} (C : Cx Z cc nL own dd rt) (d : decode cc pc = .ok (.lushr, 1)) (k : MW Z Q nL n g h ce sl (pc + 1) lvs (lvv (ushr64 x y) :: rest)) : MW Z Q nL n g h ce sl pc lvs (iv y :: lvv x :: rest) :=
  fun H locs ls hP hS hl => lv_lushr C.hx C.hb d (by rw [ushr64, l_bk]) (k H locs ls hP hS hl)
theorem mw_iushr {x y : Int} (C : Cx Z cc nL own dd rt) (d : decode cc pc = .ok (.iushr, 1)) (k : MW Z Q nL n g h ce sl (pc + 1) lvs (iv (ushr32 x y) :: rest)) : MW Z Q nL n g h ce sl pc lvs (iv y :: iv x :: rest) :=
  fun H locs ls hP hS hl => lv_iushr C.hx C.hb d (by rw [ushr32, i_bk]) (k H locs ls hP hS hl)
theorem mw_lneg {x : Int} (C : Cx Z cc nL own dd rt) (d : decode cc pc = .ok (.lneg, 1)) (k : MW Z Q nL n g h ce sl (pc + 1) lvs (lvv (-x) :: rest)) : MW Z Q nL n g h ce sl pc lvs (lvv x :: rest) :=
  fun H locs ls hP hS hl => lv_lneg C.hx C.hb d (by rw [Int64.neg_ofInt]; exact k H locs ls hP hS hl)
theorem mw_i2l {x : Int} (C : Cx Z cc nL own dd rt) (d : decode cc pc = .ok (.i2l, 1)) (hx : in32 x) (k : MW Z Q nL n g h ce sl (pc + 1) lvs (lvv x :: rest)) : MW Z Q nL n g h ce sl pc lvs (iv x :: rest) :=
  fun H locs ls hP hS hl => lv_i2l C.hx C.hb d (i_i2l hx) (k H locs ls hP hS hl)
theorem mw_l2i {x : Int} (C : Cx Z cc nL own dd rt) (d : decode cc pc = .ok (.l2i, 1)) (k : MW Z Q nL n g h ce sl (pc + 1) lvs (iv x :: rest)) : MW Z Q nL n g h ce sl pc lvs (lvv x :: rest) :=
  fun H locs ls hP hS hl => lv_l2i C.hx C.hb d Int64.toInt32_ofInt (k H locs ls hP hS hl)
theorem mw_i2b {x : Int} (C : Cx Z cc nL own dd rt) (d : decode cc pc = .ok (.i2b, 1)) (k : MW Z Q nL n g h ce sl (pc + 1) lvs (iv (w8 x) :: rest)) : MW Z Q nL n g h ce sl pc lvs (iv x :: rest) :=
  fun H locs ls hP hS hl => lv_i2b C.hx C.hb d (i_i2b x) (k H locs ls hP hS hl)
theorem mw_i2s {x : Int} (C : Cx Z cc nL own dd rt) (d : decode cc pc = .ok (.i2s, 1)) (k : MW Z Q nL n g h ce sl (pc + 1) lvs (iv (w16 x) :: rest)) : MW Z Q nL n g h ce sl pc lvs (iv x :: rest) :=
  fun H locs ls hP hS hl => lv_i2s C.hx C.hb d (i_i2s x) (k H locs ls hP hS hl)
theorem mw_dup {v : Value} (C : Cx Z cc nL own dd rt) (d : decode cc pc = .ok (.dup, 1)) (hv : v.category = 1) (k : MW Z Q nL n g h ce sl (pc + 1) lvs (v :: v :: rest)) : MW Z Q nL n g h ce sl pc lvs (v :: rest) :=
  fun H locs ls hP hS hl => lv_dup C.hx C.hb d hv (k H locs ls hP hS hl)
theorem mw_dup2 {v w : Value} (C : Cx Z cc nL own dd rt) (d : decode cc pc = .ok (.dup2, 1)) (hv : v.category = 1) (hw : w.category = 1) (k : MW Z Q nL n g h ce sl (pc + 1) lvs (v :: w :: v :: w :: rest)) : MW Z Q nL n g h ce sl pc lvs (v :: w :: rest) :=
  fun H locs ls hP hS hl => lv_dup2_11 C.hx C.hb d hv hw (k H locs ls hP hS hl)
theorem mw_pop {v : Value} (C : Cx Z cc nL own dd rt) (d : decode cc pc = .ok (.pop, 1)) (hv : v.category = 1) (k : MW Z Q nL n g h ce sl (pc + 1) lvs rest) : MW Z Q nL n g h ce sl pc lvs (v :: rest) :=
  fun H locs ls hP hS hl => lv_pop C.hx C.hb d hv (k H locs ls hP hS hl)
theorem mw_pop2 {v : Value} (C : Cx Z cc nL own dd rt) (d : decode cc pc = .ok (.pop2, 1)) (hv : v.category = 2) (k : MW Z Q nL n g h ce sl (pc + 1) lvs rest) : MW Z Q nL n g h ce sl pc lvs (v :: rest) :=
  fun H locs ls hP hS hl => lv_pop2_2 C.hx C.hb d hv (k H locs ls hP hS hl)
theorem mw_goto {off : Int} {tgt : Nat} (C : Cx Z cc nL own dd rt) (d : decode cc pc = .ok (.goto off, 3)) (ht : (pc : Int) + off = (tgt : Int)) (k : MW Z Q nL n g h ce sl tgt lvs rest) : MW Z Q nL n g h ce sl pc lvs rest :=
  fun H locs ls hP hS hl => lv_goto C.hx C.hb d ht (k H locs ls hP hS hl)
theorem mw_icmp_eq_t {x y : Int} {off : Int} {tgt : Nat} (C : Cx Z cc nL own dd rt) (d : decode cc pc = .ok (.if_icmp .eq off, 3)) (ht : (pc : Int) + off = (tgt : Int)) (hx : in32 x) (hy : in32 y) (hc : (x = y)) (k : MW Z Q nL n g h ce sl tgt lvs rest) : MW Z Q nL n g h ce sl pc lvs (iv y :: iv x :: rest) :=
  fun H locs ls hP hS hl => lv_icmp_eq (tgt := tgt) C.hx C.hb d ht (fun q => k H locs ls hP hS hl) (fun q => absurd ((i_eq hx hy).mpr hc) q)
theorem mw_if_eq_t {x : Int} {off : Int} {tgt : Nat} (C : Cx Z cc nL own dd rt) (d : decode cc pc = .ok (.ifCond .eq off, 3)) (ht : (pc : Int) + off = (tgt : Int)) (hx : in32 x) (hc : (x = 0)) (k : MW Z Q nL n g h ce sl tgt lvs rest) : MW Z Q nL n g h ce sl pc lvs (iv x :: rest) :=
  fun H locs ls hP hS hl => lv_if_eq (tgt := tgt) C.hx C.hb d ht (fun q => k H locs ls hP hS hl) (fun q => absurd ((i_0 ▸ i_eq hx in32_0).mpr hc) q)
theorem mw_icmp_eq_f {x y : Int} {off : Int} {tgt : Nat} (C : Cx Z cc nL own dd rt) (d : decode cc pc = .ok (.if_icmp .eq off, 3)) (ht : (pc : Int) + off = (tgt : Int)) (hx : in32 x) (hy : in32 y) (hc : ¬ (x = y)) (k : MW Z Q nL n g h ce sl (pc + 3) lvs rest) : MW Z Q nL n g h ce sl pc lvs (iv y :: iv x :: rest) :=
  fun H locs ls hP hS hl => lv_icmp_eq (tgt := tgt) C.hx C.hb d ht (fun q => absurd ((i_eq hx hy).mp q) hc) (fun q => k H locs ls hP hS hl)
theorem mw_if_eq_f {x : Int} {off : Int} {tgt : Nat} (C : Cx Z cc nL own dd rt) (d : decode cc pc = .ok (.ifCond .eq off, 3)) (ht : (pc : Int) + off = (tgt : Int)) (hx : in32 x) (hc : ¬ (x = 0)) (k : MW Z Q nL n g h ce sl (pc + 3) lvs rest) : MW Z Q nL n g h ce sl pc lvs (iv x :: rest) :=
  fun H locs ls hP hS hl => lv_if_eq (tgt := tgt) C.hx C.hb d ht (fun q => absurd ((i_0 ▸ i_eq hx in32_0).mp q) hc) (fun q => k H locs ls hP hS hl)
theorem mw_icmp_ne_t {x y : Int} {off : Int} {tgt : Nat} (C : Cx Z cc nL own dd rt) (d : decode cc pc = .ok (.if_icmp .ne off, 3)) (ht : (pc : Int) + off = (tgt : Int)) (hx : in32 x) (hy : in32 y) (hc : (x ≠ y)) (k : MW Z Q nL n g h ce sl tgt lvs rest) : MW Z Q nL n g h ce sl pc lvs (iv y :: iv x :: rest) :=
  fun H locs ls hP hS hl => lv_icmp_ne (tgt := tgt) C.hx C.hb d ht (fun q => k H locs ls hP hS hl) (fun q => absurd q ((not_congr (i_eq hx hy)).mpr hc))
theorem mw_if_ne_t {x : Int} {off : Int} {tgt : Nat} (C : Cx Z cc nL own dd rt) (d : decode cc pc = .ok (.ifCond .ne off, 3)) (ht : (pc : Int) + off = (tgt : Int)) (hx : in32 x) (hc : (x ≠ 0)) (k : MW Z Q nL n g h ce sl tgt lvs rest) : MW Z Q nL n g h ce sl pc lvs (iv x :: rest) :=
  fun H locs ls hP hS hl => lv_if_ne (tgt := tgt) C.hx C.hb d ht (fun q => k H locs ls hP hS hl) (fun q => absurd q ((i_0 ▸ not_congr (i_eq hx in32_0)).mpr hc))
theorem mw_icmp_ne_f {x y : Int} {off : Int} {tgt : Nat} (C : Cx Z cc nL own dd rt) (d : decode cc pc = .ok (.if_icmp .ne off, 3)) (ht : (pc : Int) + off = (tgt : Int)) (hx : in32 x) (hy : in32 y) (hc : ¬ (x ≠ y)) (k : MW Z Q nL n g h ce sl (pc + 3) lvs rest) : MW Z Q nL n g h ce sl pc lvs (iv y :: iv x :: rest) :=
  fun H locs ls hP hS hl => lv_icmp_ne (tgt := tgt) C.hx C.hb d ht (fun q => absurd ((not_congr (i_eq hx hy)).mp q) hc) (fun q => k H locs ls hP hS hl)
theorem mw_if_ne_f {x : Int} {off : Int} {tgt : Nat} (C : Cx Z cc nL own dd rt) (d : decode cc pc = .ok (.ifCond .ne off, 3)) (ht : (pc : Int) + off = (tgt : Int)) (hx : in32 x) (hc : ¬ (x ≠ 0)) (k : MW Z Q nL n g h ce sl (pc + 3) lvs rest) : MW Z Q nL n g h ce sl pc lvs (iv x :: rest) :=
  fun H locs ls hP hS hl => lv_if_ne (tgt := tgt) C.hx C.hb d ht (fun q => absurd ((i_0 ▸ not_congr (i_eq hx in32_0)).mp q) hc) (fun q => k H locs ls hP hS hl)
theorem mw_icmp_lt_t {x y : Int} {off : Int} {tgt : Nat} (C : Cx Z cc nL own dd rt) (d : decode cc pc = .ok (.if_icmp .lt off, 3)) (ht : (pc : Int) + off = (tgt : Int)) (hx : in32 x) (hy : in32 y) (hc : (x < y)) (k : MW Z Q nL n g h ce sl tgt lvs rest) : MW Z Q nL n g h ce sl pc lvs (iv y :: iv x :: rest) :=
  fun H locs ls hP hS hl => lv_icmp_lt (tgt := tgt) C.hx C.hb d ht (fun q => k H locs ls hP hS hl) (fun q => absurd ((i_lt hx hy).mpr hc) q)
theorem mw_if_lt_t {x : Int} {off : Int} {tgt : Nat} (C : Cx Z cc nL own dd rt) (d : decode cc pc = .ok (.ifCond .lt off, 3)) (ht : (pc : Int) + off = (tgt : Int)) (hx : in32 x) (hc : (x < 0)) (k : MW Z Q nL n g h ce sl tgt lvs rest) : MW Z Q nL n g h ce sl pc lvs (iv x :: rest) :=
  fun H locs ls hP hS hl => lv_if_lt (tgt := tgt) C.hx C.hb d ht (fun q => k H locs ls hP hS hl) (fun q => absurd ((i_0 ▸ i_lt hx in32_0).mpr hc) q)
theorem mw_icmp_lt_f {x y : Int} {off : Int} {tgt : Nat} (C : Cx Z cc nL own dd rt) (d : decode cc pc = .ok (.if_icmp .lt off, 3)) (ht : (pc : Int) + off = (tgt : Int)) (hx : in32 x) (hy : in32 y) (hc : ¬ (x < y)) (k : MW Z Q nL n g h ce sl (pc + 3) lvs rest) : MW Z Q nL n g h ce sl pc lvs (iv y :: iv x :: rest) :=
  fun H locs ls hP hS hl => lv_icmp_lt (tgt := tgt) C.hx C.hb d ht (fun q => absurd ((i_lt hx hy).mp q) hc) (fun q => k H locs ls hP hS hl)
theorem mw_if_lt_f {x : Int} {off : Int} {tgt : Nat} (C : Cx Z cc nL own dd rt) (d : decode cc pc = .ok (.ifCond .lt off, 3)) (ht : (pc : Int) + off = (tgt : Int)) (hx : in32 x) (hc : ¬ (x < 0)) (k : MW Z Q nL n g h ce sl (pc + 3) lvs rest) : MW Z Q nL n g h ce sl pc lvs (iv x :: rest) :=
  fun H locs ls hP hS hl => lv_if_lt (tgt := tgt) C.hx C.hb d ht (fun q => absurd ((i_0 ▸ i_lt hx in32_0).mp q) hc) (fun q => k H locs ls hP hS hl)
theorem mw_icmp_ge_t {x y : Int} {off : Int} {tgt : Nat} (C : Cx Z cc nL own dd rt) (d : decode cc pc = .ok (.if_icmp .ge off, 3)) (ht : (pc : Int) + off = (tgt : Int)) (hx : in32 x) (hy : in32 y) (hc : (y ≤ x)) (k : MW Z Q nL n g h ce sl tgt lvs rest) : MW Z Q nL n g h ce sl pc lvs (iv y :: iv x :: rest) :=
  fun H locs ls hP hS hl => lv_icmp_ge (tgt := tgt) C.hx C.hb d ht (fun q => k H locs ls hP hS hl) (fun q => absurd ((i_le hy hx).mpr hc) q)
theorem mw_if_ge_t {x : Int} {off : Int} {tgt : Nat} (C : Cx Z cc nL own dd rt) (d : decode cc pc = .ok (.ifCond .ge off, 3)) (ht : (pc : Int) + off = (tgt : Int)) (hx : in32 x) (hc : (0 ≤ x)) (k : MW Z Q nL n g h ce sl tgt lvs rest) : MW Z Q nL n g h ce sl pc lvs (iv x :: rest) :=
  fun H locs ls hP hS hl => lv_if_ge (tgt := tgt) C.hx C.hb d ht (fun q => k H locs ls hP hS hl) (fun q => absurd ((i_0 ▸ i_le in32_0 hx).mpr hc) q)
theorem mw_icmp_ge_f {x y : Int} {off : Int} {tgt : Nat} (C : Cx Z cc nL own dd rt) (d : decode cc pc = .ok (.if_icmp .ge off, 3)) (ht : (pc : Int) + off = (tgt : Int)) (hx : in32 x) (hy : in32 y) (hc : ¬ (y ≤ x)) (k : MW Z Q nL n g h ce sl (pc + 3) lvs rest) : MW Z Q nL n g h ce sl pc lvs (iv y :: iv x :: rest) :=
  fun H locs ls hP hS hl => lv_icmp_ge (tgt := tgt) C.hx C.hb d ht (fun q => absurd ((i_le hy hx).mp q) hc) (fun q => k H locs ls hP hS hl)
theorem mw_if_ge_f {x : Int} {off : Int} {tgt : Nat} (C : Cx Z cc nL own dd rt) (d : decode cc pc = .ok (.ifCond .ge off, 3)) (ht : (pc : Int) + off = (tgt : Int)) (hx : in32 x) (hc : ¬ (0 ≤ x)) (k : MW Z Q nL n g h ce sl (pc + 3) lvs rest) : MW Z Q nL n g h ce sl pc lvs (iv x :: rest) :=
  fun H locs ls hP hS hl => lv_if_ge (tgt := tgt) C.hx C.hb d ht (fun q => absurd ((i_0 ▸ i_le in32_0 hx).mp q) hc) (fun q => k H locs ls hP hS hl)
theorem mw_icmp_gt_t {x y : Int} {off : Int} {tgt : Nat} (C : Cx Z cc nL own dd rt) (d : decode cc pc = .ok (.if_icmp .gt off, 3)) (ht : (pc : Int) + off = (tgt : Int)) (hx : in32 x) (hy : in32 y) (hc : (y < x)) (k : MW Z Q nL n g h ce sl tgt lvs rest) : MW Z Q nL n g h ce sl pc lvs (iv y :: iv x :: rest) :=
  fun H locs ls hP hS hl => lv_icmp_gt (tgt := tgt) C.hx C.hb d ht (fun q => k H locs ls hP hS hl) (fun q => absurd ((i_lt hy hx).mpr hc) q)
theorem mw_if_gt_t {x : Int} {off : Int} {tgt : Nat} (C : Cx Z cc nL own dd rt) (d : decode cc pc = .ok (.ifCond .gt off, 3)) (ht : (pc : Int) + off = (tgt : Int)) (hx : in32 x) (hc : (0 < x)) (k : MW Z Q nL n g h ce sl tgt lvs rest) : MW Z Q nL n g h ce sl pc lvs (iv x :: rest) :=
  fun H locs ls hP hS hl => lv_if_gt (tgt := tgt) C.hx C.hb d ht (fun q => k H locs ls hP hS hl) (fun q => absurd ((i_0 ▸ i_lt in32_0 hx).mpr hc) q)
theorem mw_icmp_gt_f {x y : Int} {off : Int} {tgt : Nat} (C : Cx Z cc nL own dd rt) (d : decode cc pc = .ok (.if_icmp .gt off, 3)) (ht : (pc : Int) + off = (tgt : Int)) (hx : in32 x) (hy : in32 y) (hc : ¬ (y < x)) (k : MW Z Q nL n g h ce sl (pc + 3) lvs rest) : MW Z Q nL n g h ce sl pc lvs (iv y :: iv x :: rest) :=
  fun H locs ls hP hS hl => lv_icmp_gt (tgt := tgt) C.hx C.hb d ht (fun q => absurd ((i_lt hy hx).mp q) hc) (fun q => k H locs ls hP hS hl)
theorem mw_if_gt_f {x : Int} {off : Int} {tgt : Nat} (C : Cx Z cc nL own dd rt) (d : decode cc pc = .ok (.ifCond .gt off, 3)) (ht : (pc : Int) + off = (tgt : Int)) (hx : in32 x) (hc : ¬ (0 < x)) (k : MW Z Q nL n g h ce sl (pc + 3) lvs rest) : MW Z Q nL n g h ce sl pc lvs (iv x :: rest) :=
  fun H locs ls hP hS hl => lv_if_gt (tgt := tgt) C.hx C.hb d ht (fun q => absurd ((i_0 ▸ i_lt in32_0 hx).mp q) hc) (fun q => k H locs ls hP hS hl)
theorem mw_icmp_le_t {x y : Int} {off : Int} {tgt : Nat} (C : Cx Z cc nL own dd rt) (d : decode cc pc = .ok (.if_icmp .le off, 3)) (ht : (pc : Int) + off = (tgt : Int)) (hx : in32 x) (hy : in32 y) (hc : (x ≤ y)) (k : MW Z Q nL n g h ce sl tgt lvs rest) : MW Z Q nL n g h ce sl pc lvs (iv y :: iv x :: rest) :=
  fun H locs ls hP hS hl => lv_icmp_le (tgt := tgt) C.hx C.hb d ht (fun q => k H locs ls hP hS hl) (fun q => absurd ((i_le hx hy).mpr hc) q)
theorem mw_if_le_t {x : Int} {off : Int} {tgt : Nat} (C : Cx Z cc nL own dd rt) (d : decode cc pc = .ok (.ifCond .le off, 3)) (ht : (pc : Int) + off = (tgt : Int)) (hx : in32 x) (hc : (x ≤ 0)) (k : MW Z Q nL n g h ce sl tgt lvs rest) : MW Z Q nL n g h ce sl pc lvs (iv x :: rest) :=
  fun H locs ls hP hS hl => lv_if_le (tgt := tgt) C.hx C.hb d ht (fun q => k H locs ls hP hS hl) (fun q => absurd ((i_0 ▸ i_le hx in32_0).mpr hc) q)
theorem mw_icmp_le_f {x y : Int} {off : Int} {tgt : Nat} (C : Cx Z cc nL own dd rt) (d : decode cc pc = .ok (.if_icmp .le off, 3)) (ht : (pc : Int) + off = (tgt : Int)) (hx : in32 x) (hy : in32 y) (hc : ¬ (x ≤ y)) (k : MW Z Q nL n g h ce sl (pc + 3) lvs rest) : MW Z Q nL n g h ce sl pc lvs (iv y :: iv x :: rest) :=
  fun H locs ls hP hS hl => lv_icmp_le (tgt := tgt) C.hx C.hb d ht (fun q => absurd ((i_le hx hy).mp q) hc) (fun q => k H locs ls hP hS hl)
theorem mw_if_le_f {x : Int} {off : Int} {tgt : Nat} (C : Cx Z cc nL own dd rt) (d : decode cc pc = .ok (.ifCond .le off, 3)) (ht : (pc : Int) + off = (tgt : Int)) (hx : in32 x) (hc : ¬ (x ≤ 0)) (k : MW Z Q nL n g h ce sl (pc + 3) lvs rest) : MW Z Q nL n g h ce sl pc lvs (iv x :: rest) :=
  fun H locs ls hP hS hl => lv_if_le (tgt := tgt) C.hx C.hb d ht (fun q => absurd ((i_0 ▸ i_le hx in32_0).mp q) hc) (fun q => k H locs ls hP hS hl)
theorem l_cmp {x y : Int} (hx : in64 x) (hy : in64 y) : lg_cmp (Int64.ofInt x) (Int64.ofInt y) = Int32.ofInt (if x < y then -1 else if x = y then 0 else 1) := by
  unfold lg_cmp
  simp only [gt_iff_lt, l_lt hy hx, l_eq hx hy]
  by_cases h1 : y < x
  · rw [if_pos h1, if_neg (show ¬ x < y by omega), if_neg (show ¬ x = y by omega)]; rfl
  · by_cases h2 : x = y
    · subst h2
      rw [if_neg h1, if_pos rfl, if_neg h1, if_pos rfl]; rfl
    · rw [if_neg h1, if_neg h2, if_pos (show x < y by omega)]; rfl
theorem in_cmp {x y : Int} : in32 (if x < y then -1 else if x = y then 0 else 1) := by
  split
  · decide
  · split <;> decide
theorem cmp_eq {x y : Int} : (if x < y then (-1 : Int) else if x = y then 0 else 1) = 0 ↔ x = y := by
  by_cases h1 : x < y
  · simp [h1]; try omega
  · by_cases h2 : x = y
    · subst h2; simp
    · simp [h1, h2]; try omega
theorem mw_lcmp_eq_t {x y : Int} {off : Int} {tgt : Nat} (C : Cx Z cc nL own dd rt) (d : decode cc pc = .ok (.lcmp, 1)) (d2 : decode cc (pc + 1) = .ok (.ifCond .eq off, 3)) (ht : ((pc + 1 : Nat) : Int) + off = (tgt : Int)) (hx : in64 x) (hy : in64 y) (hc : (x = y)) (k : MW Z Q nL n g h ce sl tgt lvs rest) : MW Z Q nL n g h ce sl pc lvs (lvv y :: lvv x :: rest) :=
  fun H locs ls hP hS hl => W.lcmp C.hx C.hb d (by rw [l_cmp hx hy]; exact mw_if_eq_t (tgt := tgt) C d2 ht in_cmp (cmp_eq.mpr hc) k H locs ls hP hS hl)
theorem mw_lcmp_eq_f {x y : Int} {off : Int} {tgt : Nat} (C : Cx Z cc nL own dd rt) (d : decode cc pc = .ok (.lcmp, 1)) (d2 : decode cc (pc + 1) = .ok (.ifCond .eq off, 3)) (ht : ((pc + 1 : Nat) : Int) + off = (tgt : Int)) (hx : in64 x) (hy : in64 y) (hc : ¬ (x = y)) (k : MW Z Q nL n g h ce sl (pc + 4) lvs rest) : MW Z Q nL n g h ce sl pc lvs (lvv y :: lvv x :: rest) :=
  fun H locs ls hP hS hl => W.lcmp C.hx C.hb d (by rw [l_cmp hx hy]; exact mw_if_eq_f (tgt := tgt) C d2 ht in_cmp (fun q => hc (cmp_eq.mp q)) k H locs ls hP hS hl)
theorem cmp_ne {x y : Int} : (if x < y then (-1 : Int) else if x = y then 0 else 1) ≠ 0 ↔ x ≠ y := by
  by_cases h1 : x < y
  · simp [h1]; try omega
  · by_cases h2 : x = y
    · subst h2; simp
    · simp [h1, h2]; try omega
theorem mw_lcmp_ne_t {x y : Int} {off : Int} {tgt : Nat} (C : Cx Z cc nL own dd rt) (d : decode cc pc = .ok (.lcmp, 1)) (d2 : decode cc (pc + 1) = .ok (.ifCond .ne off, 3)) (ht : ((pc + 1 : Nat) : Int) + off = (tgt : Int)) (hx : in64 x) (hy : in64 y) (hc : (x ≠ y)) (k : MW Z Q nL n g h ce sl tgt lvs rest) : MW Z Q nL n g h ce sl pc lvs (lvv y :: lvv x :: rest) :=
  fun H locs ls hP hS hl => W.lcmp C.hx C.hb d (by rw [l_cmp hx hy]; exact mw_if_ne_t (tgt := tgt) C d2 ht in_cmp (cmp_ne.mpr hc) k H locs ls hP hS hl)
theorem mw_lcmp_ne_f {x y : Int} {off : Int} {tgt : Nat} (C : Cx Z cc nL own dd rt) (d : decode cc pc = .ok (.lcmp, 1)) (d2 : decode cc (pc + 1) = .ok (.ifCond .ne off, 3)) (ht : ((pc + 1 : Nat) : Int) + off = (tgt : Int)) (hx : in64 x) (hy : in64 y) (hc : ¬ (x ≠ y)) (k : MW Z Q nL n g h ce sl (pc + 4) lvs rest) : MW Z Q nL n g h ce sl pc lvs (lvv y :: lvv x :: rest) :=
  fun H locs ls hP hS hl => W.lcmp C.hx C.hb d (by rw [l_cmp hx hy]; exact mw_if_ne_f (tgt := tgt) C d2 ht in_cmp (fun q => hc (cmp_ne.mp q)) k H locs ls hP hS hl)
theorem cmp_lt {x y : Int} : (if x < y then (-1 : Int) else if x = y then 0 else 1) < 0 ↔ x < y := by
  by_cases h1 : x < y
  · simp [h1]; try omega
  · by_cases h2 : x = y
    · subst h2; simp
    · simp [h1, h2]; try omega
theorem mw_lcmp_lt_t {x y : Int} {off : Int} {tgt : Nat} (C : Cx Z cc nL own dd rt) (d : decode cc pc = .ok (.lcmp, 1)) (d2 : decode cc (pc + 1) = .ok (.ifCond .lt off, 3)) (ht : ((pc + 1 : Nat) : Int) + off = (tgt : Int)) (hx : in64 x) (hy : in64 y) (hc : (x < y)) (k : MW Z Q nL n g h ce sl tgt lvs rest) : MW Z Q nL n g h ce sl pc lvs (lvv y :: lvv x :: rest) :=
  fun H locs ls hP hS hl => W.lcmp C.hx C.hb d (by rw [l_cmp hx hy]; exact mw_if_lt_t (tgt := tgt) C d2 ht in_cmp (cmp_lt.mpr hc) k H locs ls hP hS hl)
theorem mw_lcmp_lt_f {x y : Int} {off : Int} {tgt : Nat} (C : Cx Z cc nL own dd rt) (d : decode cc pc = .ok (.lcmp, 1)) (d2 : decode cc (pc + 1) = .ok (.ifCond .lt off, 3)) (ht : ((pc + 1 : Nat) : Int) + off = (tgt : Int)) (hx : in64 x) (hy : in64 y) (hc : ¬ (x < y)) (k : MW Z Q nL n g h ce sl (pc + 4) lvs rest) : MW Z Q nL n g h ce sl pc lvs (lvv y :: lvv x :: rest) :=
  fun H locs ls hP hS hl => W.lcmp C.hx C.hb d (by rw [l_cmp hx hy]; exact mw_if_lt_f (tgt := tgt) C d2 ht in_cmp (fun q => hc (cmp_lt.mp q)) k H locs ls hP hS hl)
theorem cmp_ge {x y : Int} : 0 ≤ (if x < y then (-1 : Int) else if x = y then 0 else 1) ↔ y ≤ x := by
  by_cases h1 : x < y
  · simp [h1]; try omega
  · by_cases h2 : x = y
    · subst h2; simp
    · simp [h1, h2]; try omega
theorem mw_lcmp_ge_t {x y : Int} {off : Int} {tgt : Nat} (C : Cx Z cc nL own dd rt) (d : decode cc pc = .ok (.lcmp, 1)) (d2 : decode cc (pc + 1) = .ok (.ifCond .ge off, 3)) (ht : ((pc + 1 : Nat) : Int) + off = (tgt : Int)) (hx : in64 x) (hy : in64 y) (hc : (y ≤ x)) (k : MW Z Q nL n g h ce sl tgt lvs rest) : MW Z Q nL n g h ce sl pc lvs (lvv y :: lvv x :: rest) :=
  fun H locs ls hP hS hl => W.lcmp C.hx C.hb d (by rw [l_cmp hx hy]; exact mw_if_ge_t (tgt := tgt) C d2 ht in_cmp (cmp_ge.mpr hc) k H locs ls hP hS hl)
theorem mw_lcmp_ge_f {x y : Int} {off : Int} {tgt : Nat} (C : Cx Z cc nL own dd rt) (d : decode cc pc = .ok (.lcmp, 1)) (d2 : decode cc (pc + 1) = .ok (.ifCond .ge off, 3)) (ht : ((pc + 1 : Nat) : Int) + off = (tgt : Int)) (hx : in64 x) (hy : in64 y) (hc : ¬ (y ≤ x)) (k : MW Z Q nL n g h ce sl (pc + 4) lvs rest) : MW Z Q nL n g h ce sl pc lvs (lvv y :: lvv x :: rest) :=
  fun H locs ls hP hS hl => W.lcmp C.hx C.hb d (by rw [l_cmp hx hy]; exact mw_if_ge_f (tgt := tgt) C d2 ht in_cmp (fun q => hc (cmp_ge.mp q)) k H locs ls hP hS hl)
theorem cmp_gt {x y : Int} : 0 < (if x < y then (-1 : Int) else if x = y then 0 else 1) ↔ y < x := by
  by_cases h1 : x < y
  · simp [h1]; try omega
  · by_cases h2 : x = y
    · subst h2; simp
    · simp [h1, h2]; try omega
theorem mw_lcmp_gt_t {x y : Int} {off : Int} {tgt : Nat} (C : Cx Z cc nL own dd rt) (d : decode cc pc = .ok (.lcmp, 1)) (d2 : decode cc (pc + 1) = .ok (.ifCond .gt off, 3)) (ht : ((pc + 1 : Nat) : Int) + off = (tgt : Int)) (hx : in64 x) (hy : in64 y) (hc : (y < x)) (k : MW Z Q nL n g h ce sl tgt lvs rest) : MW Z Q nL n g h ce sl pc lvs (lvv y :: lvv x :: rest) :=
  fun H locs ls hP hS hl => W.lcmp C.hx C.hb d (by rw [l_cmp hx hy]; exact mw_if_gt_t (tgt := tgt) C d2 ht in_cmp (cmp_gt.mpr hc) k H locs ls hP hS hl)
theorem mw_lcmp_gt_f {x y : Int} {off : Int} {tgt : Nat} (C : Cx Z cc nL own dd rt) (d : decode cc pc = .ok (.lcmp, 1)) (d2 : decode cc (pc + 1) = .ok (.ifCond .gt off, 3)) (ht : ((pc + 1 : Nat) : Int) + off = (tgt : Int)) (hx : in64 x) (hy : in64 y) (hc : ¬ (y < x)) (k : MW Z Q nL n g h ce sl (pc + 4) lvs rest) : MW Z Q nL n g h ce sl pc lvs (lvv y :: lvv x :: rest) :=
  fun H locs ls hP hS hl => W.lcmp C.hx C.hb d (by rw [l_cmp hx hy]; exact mw_if_gt_f (tgt := tgt) C d2 ht in_cmp (fun q => hc (cmp_gt.mp q)) k H locs ls hP hS hl)
theorem cmp_le {x y : Int} : (if x < y then (-1 : Int) else if x = y then 0 else 1) ≤ 0 ↔ x ≤ y := by
  by_cases h1 : x < y
  · simp [h1]; try omega
  · by_cases h2 : x = y
    · subst h2; simp
    · simp [h1, h2]; try omega
theorem mw_lcmp_le_t {x y : Int} {off : Int} {tgt : Nat} (C : Cx Z cc nL own dd rt) (d : decode cc pc = .ok (.lcmp, 1)) (d2 : decode cc (pc + 1) = .ok (.ifCond .le off, 3)) (ht : ((pc + 1 : Nat) : Int) + off = (tgt : Int)) (hx : in64 x) (hy : in64 y) (hc : (x ≤ y)) (k : MW Z Q nL n g h ce sl tgt lvs rest) : MW Z Q nL n g h ce sl pc lvs (lvv y :: lvv x :: rest) :=
  fun H locs ls hP hS hl => W.lcmp C.hx C.hb d (by rw [l_cmp hx hy]; exact mw_if_le_t (tgt := tgt) C d2 ht in_cmp (cmp_le.mpr hc) k H locs ls hP hS hl)
theorem mw_lcmp_le_f {x y : Int} {off : Int} {tgt : Nat} (C : Cx Z cc nL own dd rt) (d : decode cc pc = .ok (.lcmp, 1)) (d2 : decode cc (pc + 1) = .ok (.ifCond .le off, 3)) (ht : ((pc + 1 : Nat) : Int) + off = (tgt : Int)) (hx : in64 x) (hy : in64 y) (hc : ¬ (x ≤ y)) (k : MW Z Q nL n g h ce sl (pc + 4) lvs rest) : MW Z Q nL n g h ce sl pc lvs (lvv y :: lvv x :: rest) :=
  fun H locs ls hP hS hl => W.lcmp C.hx C.hb d (by rw [l_cmp hx hy]; exact mw_if_le_f (tgt := tgt) C d2 ht in_cmp (fun q => hc (cmp_le.mp q)) k H locs ls hP hS hl)
end MWR
