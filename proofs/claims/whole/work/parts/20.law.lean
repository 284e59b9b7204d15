def R_law : String := "BottleLineLaw"
def lw_P (b : Addr) (xs : List Int32) (args : Array Value) (s : State) : Prop := args = #[.ref b] ∧ s.IntsAt b xs ∧ xs.length ≤ 3584 ∧ (Jvm.Cond.and given_1 narrow_1).before args s = true
def lw_Q (_ : Array Value) (s : State) (o : Outcome) (t : State) : Prop := o = .returned (some (.int 1)) ∧ Framed s o t [] 600000 7302250
def lw_Z (below : List Frame) (a : Array Value) (s : State) : State → Prop := fun t => ∃ o, t.status = .running ∧ Ended t below o ∧ lw_Q a s o t
/-- the law's own end, with 1 on the stack, nothing written that was there before, its room as the claim has it -/
theorem lw_ret {p : Program} {l : Launch} {e : Env} {s : State} {m : MethodId} {below : List Frame} {meth : Method} {c : Code} {b : Nat} (hx : p.tables.exec = Jvm.exec) (hb : c.code = code) (hr : meth.sig.returnType = ret) (hlocks : meth.locks = false) {pc : Nat} {H : Heap} {ls : Array Slot} (hdg : decode code pc = .ok (.ireturn, 1)) : W p l e room_1 s m #[Value.ref b] below meth c H [] 600000 7302250 (lw_Z below #[Value.ref b] s) (F0 m pc ls [.int 1]) := by
  intro T hT X
  obtain ⟨fs, hret, hrun, hended, hW, hframe⟩ := X.leave (v := some (.int 1)) (hlocks := hlocks) (fun h => by rw [hr] at h; cases h)
  have hmeth' : T.vm.method? m = some meth := X.method'
  refine ⟨T.setFrames fs, ?_, .returned (some (.int 1)), hrun, hended, rfl, ⟨_, rfl⟩, hW, hframe⟩
  jvm_step X.here [X.here.top, hx, hb, hdg, hmeth', hr, ret, narrow_b1]
  (try refine ⟨rfl, ?_⟩); (try refine ⟨rfl, ?_⟩)
  first | (intro acts; rw [hret _ acts rfl rfl rfl]) | rw [hret _ _ rfl rfl rfl]
  exact Steps.refl _
/-- what holds at the law's entry: the machine, the code, the tables' words (any of lw_tbl by 'hts w (by decide +kernel)'), the script of L ints xs at the cell b, what the Statement gives of the start (any of its parts by flat_of_before) -/
def lw_At (p : Program) (s : State) (m : MethodId) (meth : Method) (c : Code) (b L : Nat) (xs : Nat → Int32) : Prop :=
  p.tables.exec = Jvm.exec ∧ c.code = code ∧ meth.sig.returnType = ret ∧ c.maxLocals = 4 ∧ s.vm.findClass R_law = some m.cls ∧ (∀ w ∈ lw_tbl, w.before #[Value.ref b] s = true) ∧ va_X b L xs s s.heap ∧ b < s.heap.size ∧ meth.locks = false ∧ (Jvm.Cond.and given_1 narrow_1).before #[Value.ref b] s = true
/-! ===== the law ===== -/
theorem in32_t (x : Int32) : in32 x.toInt := ⟨by have := x.le_toInt; omega, by have := x.toInt_lt; omega⟩
section LAWR
variable {Z : ZT} {Q : State → Prop} {cc : ByteArray} {nL : Nat} {own : String} {dd : Nat} {rt : Option FieldType} {n : Nat} {g : GH} {h : MH} {ce sl pc : Nat} {lvs : List (Nat × Value)} {rest : List Value} {b L : Nat} {xs : Nat → Int32}
theorem mw_sld {x : Int} (C : Cx Z cc nL own dd rt) (d : decode cc pc = .ok (.iaload, 1)) (hX : va_X b L xs (zs Z) (zs Z).heap) (hbl : b < (zs Z).heap.size) (hbA : ¬ zA (zX Z) b) (hL : L < 100000) (hx : 0 ≤ x ∧ x < (L : Int)) (k : MW Z Q nL n g h ce sl (pc + 1) lvs (iv (xs x.toNat).toInt :: rest)) : MW Z Q nL n g h ce sl pc lvs (iv x :: .ref b :: rest) :=
  fun H locs ls hP hS hl => va_sld C.hx C.hb hX hbl hbA hS (i_in hx (by omega)) d (by
    have e := k H locs ls hP hS hl
    rw [iv, i_bk] at e
    rw [i_cl (by omega)]
    exact e)
theorem mw_slen (C : Cx Z cc nL own dd rt) (d : decode cc pc = .ok (.arraylength, 1)) (hX : va_X b L xs (zs Z) (zs Z).heap) (hbl : b < (zs Z).heap.size) (hbA : ¬ zA (zX Z) b) (k : MW Z Q nL n g h ce sl (pc + 1) lvs (iv (L : Int) :: rest)) : MW Z Q nL n g h ce sl pc lvs (.ref b :: rest) :=
  fun H locs ls hP hS hl => va_slen C.hx C.hb hX hbl hbA hS d (by rw [← Int32.ofInt_eq_ofNat]; exact k H locs ls hP hS hl)
end LAWR
theorem land63 (x : Int32) : 0 ≤ land32 x.toInt 63 ∧ land32 x.toInt 63 ≤ 63 := by
  unfold land32
  rw [i_bk, show Int32.ofInt 63 = (63 : Int32) from rfl]
  obtain ⟨j, hj, e⟩ := pk_andE x (m := 63) 6 (by decide)
  rw [e, nI_toInt (by omega)]
  omega
theorem law_status {Z : ZT} {Q : State → Prop} {b L : Nat} {xs : Nat → Int32} {ce sl : Nat} (C : Cx Z cL_law 4 RL 40 (some .boolean)) (hR : ce ≤ (zR Z).cells ∧ sl ≤ (zR Z).slots) (hX : va_X b L xs (zs Z) (zs Z).heap) (hbl : b < (zs Z).heap.size) (hbA : ¬ zA (zX Z) b) (hL : L < 100000) {i : Int} (hi : 0 ≤ i ∧ i + 7 ≤ (L : Int)) {h h1 h2 : MH} {r : Int} (hx : F_X11_status h = some (r, h1)) (hm : F_X12_status h1 = some (r, h2)) (hr : in32 r) (k : MW Z Q 4 zN zG h2 ce sl 1624 [(3, iv i), (2, rfv (xd (zX Z)) 141), (1, rfv (xd (zX Z)) 0), (0, .ref b)] []) : MW Z Q 4 zN zG h ce sl 220 [(3, iv i), (2, rfv (xd (zX Z)) 141), (1, rfv (xd (zX Z)) 0), (0, .ref b)] [] := by
  refine mw_aload_n 2 C dL_law_220 rfl rfl ?_
  refine mw_callV (c := 0) [] [] C dL_law_221 (T_X11_status (zl Z) (zX Z) _ _ hx) rfl zn0 zk0 (by decide) rfl wd268 wd269 wd270 wd1 wd271 hd_X11_status rfl (by decide) (by decide) (Nat.le_of_ble_eq_true rfl) ⟨hR.1, hR.2⟩ ?_
  refine mw_aload_n 1 C dL_law_224 rfl rfl ?_
  refine mw_callV (c := 141) [] [iv r] C dL_law_225 (T_X12_status (zl Z) (zX Z) _ _ hm) rfl zn141 zk141 (by decide) rfl wd941 wd942 wd943 wd14 wd944 hd_X12_status rfl (by decide) (by decide) (Nat.le_of_ble_eq_true rfl) ⟨hR.1, hR.2⟩ ?_
  refine mw_icmp_eq_t (tgt := 1624) C dL_law_228 (by decide) hr hr rfl ?_
  exact k
def Ob_status (RR : Nat → MH → Prop) : Prop := ∀ (n : Nat) (h : MH), n < 512 → RR n h → ∃ (r : Int) (h1 h2 : MH), F_X11_status  h = some (r, h1) ∧ F_X12_status  h1 = some (r, h2) ∧ in32 r ∧ RR (n + 1) h2
theorem law_top {Z : ZT} {Q : State → Prop} {b L : Nat} {xs : Nat → Int32} {ce sl : Nat} (C : Cx Z cL_law 4 RL 40 (some .boolean)) (hR : ce ≤ (zR Z).cells ∧ sl ≤ (zR Z).slots) (hX : va_X b L xs (zs Z) (zs Z).heap) (hbl : b < (zs Z).heap.size) (hbA : ¬ zA (zX Z) b) (hL : L < 100000) {i : Int} (hi : 0 ≤ i ∧ i + 7 ≤ (L : Int)) {h h1 h2 : MH} {r : Int} (hx : F_X11_top h = some (r, h1)) (hm : F_X12_top h1 = some (r, h2)) (hr : in64 r) (k : MW Z Q 4 zN zG h2 ce sl 1624 [(3, iv i), (2, rfv (xd (zX Z)) 141), (1, rfv (xd (zX Z)) 0), (0, .ref b)] []) : MW Z Q 4 zN zG h ce sl 233 [(3, iv i), (2, rfv (xd (zX Z)) 141), (1, rfv (xd (zX Z)) 0), (0, .ref b)] [] := by
  refine mw_aload_n 2 C dL_law_233 rfl rfl ?_
  refine mw_callV (c := 0) [] [] C dL_law_234 (T_X11_top (zl Z) (zX Z) _ _ hx) rfl zn0 zk0 (by decide) rfl wd272 wd273 wd274 wd1 wd275 hd_X11_top rfl (by decide) (by decide) (Nat.le_of_ble_eq_true rfl) ⟨hR.1, hR.2⟩ ?_
  refine mw_aload_n 1 C dL_law_237 rfl rfl ?_
  refine mw_callV (c := 141) [] [lvv r] C dL_law_238 (T_X12_top (zl Z) (zX Z) _ _ hm) rfl zn141 zk141 (by decide) rfl wd945 wd946 wd947 wd14 wd948 hd_X12_top rfl (by decide) (by decide) (Nat.le_of_ble_eq_true rfl) ⟨hR.1, hR.2⟩ ?_
  refine mw_lcmp_eq_t (tgt := 1624) C dL_law_241 dL_law_242 (by decide) hr hr rfl ?_
  exact k
def Ob_top (RR : Nat → MH → Prop) : Prop := ∀ (n : Nat) (h : MH), n < 512 → RR n h → ∃ (r : Int) (h1 h2 : MH), F_X11_top  h = some (r, h1) ∧ F_X12_top  h1 = some (r, h2) ∧ in64 r ∧ RR (n + 1) h2
theorem law_bottom {Z : ZT} {Q : State → Prop} {b L : Nat} {xs : Nat → Int32} {ce sl : Nat} (C : Cx Z cL_law 4 RL 40 (some .boolean)) (hR : ce ≤ (zR Z).cells ∧ sl ≤ (zR Z).slots) (hX : va_X b L xs (zs Z) (zs Z).heap) (hbl : b < (zs Z).heap.size) (hbA : ¬ zA (zX Z) b) (hL : L < 100000) {i : Int} (hi : 0 ≤ i ∧ i + 7 ≤ (L : Int)) {h h1 h2 : MH} {r : Int} (hx : F_X11_bottom h = some (r, h1)) (hm : F_X12_bottom h1 = some (r, h2)) (hr : in64 r) (k : MW Z Q 4 zN zG h2 ce sl 1624 [(3, iv i), (2, rfv (xd (zX Z)) 141), (1, rfv (xd (zX Z)) 0), (0, .ref b)] []) : MW Z Q 4 zN zG h ce sl 247 [(3, iv i), (2, rfv (xd (zX Z)) 141), (1, rfv (xd (zX Z)) 0), (0, .ref b)] [] := by
  refine mw_aload_n 2 C dL_law_247 rfl rfl ?_
  refine mw_callV (c := 0) [] [] C dL_law_248 (T_X11_bottom (zl Z) (zX Z) _ _ hx) rfl zn0 zk0 (by decide) rfl wd276 wd277 wd278 wd1 wd279 hd_X11_bottom rfl (by decide) (by decide) (Nat.le_of_ble_eq_true rfl) ⟨hR.1, hR.2⟩ ?_
  refine mw_aload_n 1 C dL_law_251 rfl rfl ?_
  refine mw_callV (c := 141) [] [lvv r] C dL_law_252 (T_X12_bottom (zl Z) (zX Z) _ _ hm) rfl zn141 zk141 (by decide) rfl wd949 wd950 wd951 wd14 wd952 hd_X12_bottom rfl (by decide) (by decide) (Nat.le_of_ble_eq_true rfl) ⟨hR.1, hR.2⟩ ?_
  refine mw_lcmp_eq_t (tgt := 1624) C dL_law_255 dL_law_256 (by decide) hr hr rfl ?_
  exact k
def Ob_bottom (RR : Nat → MH → Prop) : Prop := ∀ (n : Nat) (h : MH), n < 512 → RR n h → ∃ (r : Int) (h1 h2 : MH), F_X11_bottom  h = some (r, h1) ∧ F_X12_bottom  h1 = some (r, h2) ∧ in64 r ∧ RR (n + 1) h2
theorem law_tray {Z : ZT} {Q : State → Prop} {b L : Nat} {xs : Nat → Int32} {ce sl : Nat} (C : Cx Z cL_law 4 RL 40 (some .boolean)) (hR : ce ≤ (zR Z).cells ∧ sl ≤ (zR Z).slots) (hX : va_X b L xs (zs Z) (zs Z).heap) (hbl : b < (zs Z).heap.size) (hbA : ¬ zA (zX Z) b) (hL : L < 100000) {i : Int} (hi : 0 ≤ i ∧ i + 7 ≤ (L : Int)) {h h1 h2 : MH} {r : Int} (hx : F_X11_tray ((xs (i + 1).toNat).toInt) ((xs (i + 2).toNat).toInt) ((xs (i + 3).toNat).toInt) h = some (r, h1)) (hm : F_X12_tray ((xs (i + 1).toNat).toInt) ((xs (i + 2).toNat).toInt) ((xs (i + 3).toNat).toInt) h1 = some (r, h2)) (hr : in32 r) (k : MW Z Q 4 zN zG h2 ce sl 1624 [(3, iv i), (2, rfv (xd (zX Z)) 141), (1, rfv (xd (zX Z)) 0), (0, .ref b)] []) : MW Z Q 4 zN zG h ce sl 261 [(3, iv i), (2, rfv (xd (zX Z)) 141), (1, rfv (xd (zX Z)) 0), (0, .ref b)] [] := by
  refine mw_aload_n 2 C dL_law_261 rfl rfl ?_
  refine mw_aload_n 3 C dL_law_262 rfl rfl ?_
  refine mw_iload_n 0 C dL_law_263 rfl rfl ?_
  refine mw_iconst C dL_law_264 ?_
  refine mw_iadd C dL_law_265 ?_
  refine mw_sld C dL_law_266 hX hbl hbA hL (by omega) ?_
  refine mw_aload_n 3 C dL_law_267 rfl rfl ?_
  refine mw_iload_n 0 C dL_law_268 rfl rfl ?_
  refine mw_iconst C dL_law_269 ?_
  refine mw_iadd C dL_law_270 ?_
  refine mw_sld C dL_law_271 hX hbl hbA hL (by omega) ?_
  refine mw_aload_n 3 C dL_law_272 rfl rfl ?_
  refine mw_iload_n 0 C dL_law_273 rfl rfl ?_
  refine mw_iconst C dL_law_274 ?_
  refine mw_iadd C dL_law_275 ?_
  refine mw_sld C dL_law_276 hX hbl hbA hL (by omega) ?_
  refine mw_callV (c := 0) [iv ((xs (i + 1).toNat).toInt), iv ((xs (i + 2).toNat).toInt), iv ((xs (i + 3).toNat).toInt)] [] C dL_law_277 (T_X11_tray (zl Z) (zX Z) ((xs (i + 1).toNat).toInt) ((xs (i + 2).toNat).toInt) ((xs (i + 3).toNat).toInt) _ _ hx) rfl zn0 zk0 (by decide) rfl wd280 wd281 wd282 wd1 wd283 hd_X11_tray rfl (by decide) (by decide) (Nat.le_of_ble_eq_true rfl) ⟨hR.1, hR.2⟩ ?_
  refine mw_aload_n 1 C dL_law_280 rfl rfl ?_
  refine mw_aload_n 3 C dL_law_281 rfl rfl ?_
  refine mw_iload_n 0 C dL_law_282 rfl rfl ?_
  refine mw_iconst C dL_law_283 ?_
  refine mw_iadd C dL_law_284 ?_
  refine mw_sld C dL_law_285 hX hbl hbA hL (by omega) ?_
  refine mw_aload_n 3 C dL_law_286 rfl rfl ?_
  refine mw_iload_n 0 C dL_law_287 rfl rfl ?_
  refine mw_iconst C dL_law_288 ?_
  refine mw_iadd C dL_law_289 ?_
  refine mw_sld C dL_law_290 hX hbl hbA hL (by omega) ?_
  refine mw_aload_n 3 C dL_law_291 rfl rfl ?_
  refine mw_iload_n 0 C dL_law_292 rfl rfl ?_
  refine mw_iconst C dL_law_293 ?_
  refine mw_iadd C dL_law_294 ?_
  refine mw_sld C dL_law_295 hX hbl hbA hL (by omega) ?_
  refine mw_callV (c := 141) [iv ((xs (i + 1).toNat).toInt), iv ((xs (i + 2).toNat).toInt), iv ((xs (i + 3).toNat).toInt)] [iv r] C dL_law_296 (T_X12_tray (zl Z) (zX Z) ((xs (i + 1).toNat).toInt) ((xs (i + 2).toNat).toInt) ((xs (i + 3).toNat).toInt) _ _ hm) rfl zn141 zk141 (by decide) rfl wd953 wd954 wd955 wd14 wd956 hd_X12_tray rfl (by decide) (by decide) (Nat.le_of_ble_eq_true rfl) ⟨hR.1, hR.2⟩ ?_
  refine mw_icmp_eq_t (tgt := 1624) C dL_law_299 (by decide) hr hr rfl ?_
  exact k
def Ob_tray (RR : Nat → MH → Prop) : Prop := ∀ (n : Nat) (h : MH) (a1 a2 a3 : Int), n < 512 → RR n h → in32 a1 → in32 a2 → in32 a3 → ∃ (r : Int) (h1 h2 : MH), F_X11_tray a1 a2 a3 h = some (r, h1) ∧ F_X12_tray a1 a2 a3 h1 = some (r, h2) ∧ in32 r ∧ RR (n + 1) h2
theorem law_write {Z : ZT} {Q : State → Prop} {b L : Nat} {xs : Nat → Int32} {ce sl : Nat} (C : Cx Z cL_law 4 RL 40 (some .boolean)) (hR : ce ≤ (zR Z).cells ∧ sl ≤ (zR Z).slots) (hX : va_X b L xs (zs Z) (zs Z).heap) (hbl : b < (zs Z).heap.size) (hbA : ¬ zA (zX Z) b) (hL : L < 100000) {i : Int} (hi : 0 ≤ i ∧ i + 7 ≤ (L : Int)) {h h1 h2 : MH} {r : Int} (hx : F_X11_write ((xs (i + 1).toNat).toInt) ((xs (i + 2).toNat).toInt) (lor64 (shl64 ((xs (i + 3).toNat).toInt) 32) (land64 ((xs (i + 4).toNat).toInt) 4294967295)) h = some (r, h1)) (hm : F_X12_write ((xs (i + 1).toNat).toInt) ((xs (i + 2).toNat).toInt) (lor64 (shl64 ((xs (i + 3).toNat).toInt) 32) (land64 ((xs (i + 4).toNat).toInt) 4294967295)) h1 = some (r, h2)) (hr : in32 r) (k : MW Z Q 4 zN zG h2 ce sl 1624 [(3, iv i), (2, rfv (xd (zX Z)) 141), (1, rfv (xd (zX Z)) 0), (0, .ref b)] []) : MW Z Q 4 zN zG h ce sl 304 [(3, iv i), (2, rfv (xd (zX Z)) 141), (1, rfv (xd (zX Z)) 0), (0, .ref b)] [] := by
  refine mw_aload_n 2 C dL_law_304 rfl rfl ?_
  refine mw_aload_n 3 C dL_law_305 rfl rfl ?_
  refine mw_iload_n 0 C dL_law_306 rfl rfl ?_
  refine mw_iconst C dL_law_307 ?_
  refine mw_iadd C dL_law_308 ?_
  refine mw_sld C dL_law_309 hX hbl hbA hL (by omega) ?_
  refine mw_aload_n 3 C dL_law_310 rfl rfl ?_
  refine mw_iload_n 0 C dL_law_311 rfl rfl ?_
  refine mw_iconst C dL_law_312 ?_
  refine mw_iadd C dL_law_313 ?_
  refine mw_sld C dL_law_314 hX hbl hbA hL (by omega) ?_
  refine mw_aload_n 3 C dL_law_315 rfl rfl ?_
  refine mw_iload_n 0 C dL_law_316 rfl rfl ?_
  refine mw_iconst C dL_law_317 ?_
  refine mw_iadd C dL_law_318 ?_
  refine mw_sld C dL_law_319 hX hbl hbA hL (by omega) ?_
  refine mw_i2l C dL_law_320 (in32_t _) ?_
  refine mw_bipush C dL_law_321 bp_32 ?_
  refine mw_lshl C dL_law_323 ?_
  refine mw_aload_n 3 C dL_law_324 rfl rfl ?_
  refine mw_iload_n 0 C dL_law_325 rfl rfl ?_
  refine mw_iconst C dL_law_326 ?_
  refine mw_iadd C dL_law_327 ?_
  refine mw_sld C dL_law_328 hX hbl hbA hL (by omega) ?_
  refine mw_i2l C dL_law_329 (in32_t _) ?_
  refine mw_ldc2 (a := 4294967295) C dL_law_330 wd1305 rfl ?_
  refine mw_land C dL_law_333 ?_
  refine mw_lor C dL_law_334 ?_
  refine mw_callV (c := 0) [iv ((xs (i + 1).toNat).toInt), iv ((xs (i + 2).toNat).toInt), lvv (lor64 (shl64 ((xs (i + 3).toNat).toInt) 32) (land64 ((xs (i + 4).toNat).toInt) 4294967295))] [] C dL_law_335 (T_X11_write (zl Z) (zX Z) ((xs (i + 1).toNat).toInt) ((xs (i + 2).toNat).toInt) (lor64 (shl64 ((xs (i + 3).toNat).toInt) 32) (land64 ((xs (i + 4).toNat).toInt) 4294967295)) _ _ hx) rfl zn0 zk0 (by decide) rfl wd301 wd302 wd303 wd1 wd304 hd_X11_write rfl (by decide) (by decide) (Nat.le_of_ble_eq_true rfl) ⟨hR.1, hR.2⟩ ?_
  refine mw_aload_n 1 C dL_law_338 rfl rfl ?_
  refine mw_aload_n 3 C dL_law_339 rfl rfl ?_
  refine mw_iload_n 0 C dL_law_340 rfl rfl ?_
  refine mw_iconst C dL_law_341 ?_
  refine mw_iadd C dL_law_342 ?_
  refine mw_sld C dL_law_343 hX hbl hbA hL (by omega) ?_
  refine mw_aload_n 3 C dL_law_344 rfl rfl ?_
  refine mw_iload_n 0 C dL_law_345 rfl rfl ?_
  refine mw_iconst C dL_law_346 ?_
  refine mw_iadd C dL_law_347 ?_
  refine mw_sld C dL_law_348 hX hbl hbA hL (by omega) ?_
  refine mw_aload_n 3 C dL_law_349 rfl rfl ?_
  refine mw_iload_n 0 C dL_law_350 rfl rfl ?_
  refine mw_iconst C dL_law_351 ?_
  refine mw_iadd C dL_law_352 ?_
  refine mw_sld C dL_law_353 hX hbl hbA hL (by omega) ?_
  refine mw_i2l C dL_law_354 (in32_t _) ?_
  refine mw_bipush C dL_law_355 bp_32 ?_
  refine mw_lshl C dL_law_357 ?_
  refine mw_aload_n 3 C dL_law_358 rfl rfl ?_
  refine mw_iload_n 0 C dL_law_359 rfl rfl ?_
  refine mw_iconst C dL_law_360 ?_
  refine mw_iadd C dL_law_361 ?_
  refine mw_sld C dL_law_362 hX hbl hbA hL (by omega) ?_
  refine mw_i2l C dL_law_363 (in32_t _) ?_
  refine mw_ldc2 (a := 4294967295) C dL_law_364 wd1305 rfl ?_
  refine mw_land C dL_law_367 ?_
  refine mw_lor C dL_law_368 ?_
  refine mw_callV (c := 141) [iv ((xs (i + 1).toNat).toInt), iv ((xs (i + 2).toNat).toInt), lvv (lor64 (shl64 ((xs (i + 3).toNat).toInt) 32) (land64 ((xs (i + 4).toNat).toInt) 4294967295))] [iv r] C dL_law_369 (T_X12_write (zl Z) (zX Z) ((xs (i + 1).toNat).toInt) ((xs (i + 2).toNat).toInt) (lor64 (shl64 ((xs (i + 3).toNat).toInt) 32) (land64 ((xs (i + 4).toNat).toInt) 4294967295)) _ _ hm) rfl zn141 zk141 (by decide) rfl wd963 wd964 wd965 wd14 wd966 hd_X12_write rfl (by decide) (by decide) (Nat.le_of_ble_eq_true rfl) ⟨hR.1, hR.2⟩ ?_
  refine mw_icmp_eq_t (tgt := 1624) C dL_law_372 (by decide) hr hr rfl ?_
  exact k
def Ob_write (RR : Nat → MH → Prop) : Prop := ∀ (n : Nat) (h : MH) (a1 a2 a3 : Int), n < 512 → RR n h → in32 a1 → in32 a2 → in64 a3 → ∃ (r : Int) (h1 h2 : MH), F_X11_write a1 a2 a3 h = some (r, h1) ∧ F_X12_write a1 a2 a3 h1 = some (r, h2) ∧ in32 r ∧ RR (n + 1) h2
theorem law_read {Z : ZT} {Q : State → Prop} {b L : Nat} {xs : Nat → Int32} {ce sl : Nat} (C : Cx Z cL_law 4 RL 40 (some .boolean)) (hR : ce ≤ (zR Z).cells ∧ sl ≤ (zR Z).slots) (hX : va_X b L xs (zs Z) (zs Z).heap) (hbl : b < (zs Z).heap.size) (hbA : ¬ zA (zX Z) b) (hL : L < 100000) {i : Int} (hi : 0 ≤ i ∧ i + 7 ≤ (L : Int)) {h h1 h2 : MH} {r : Int} (hx : F_X11_read ((xs (i + 1).toNat).toInt) ((xs (i + 2).toNat).toInt) h = some (r, h1)) (hm : F_X12_read ((xs (i + 1).toNat).toInt) ((xs (i + 2).toNat).toInt) h1 = some (r, h2)) (hr : in64 r) (k : MW Z Q 4 zN zG h2 ce sl 1624 [(3, iv i), (2, rfv (xd (zX Z)) 141), (1, rfv (xd (zX Z)) 0), (0, .ref b)] []) : MW Z Q 4 zN zG h ce sl 377 [(3, iv i), (2, rfv (xd (zX Z)) 141), (1, rfv (xd (zX Z)) 0), (0, .ref b)] [] := by
  refine mw_aload_n 2 C dL_law_377 rfl rfl ?_
  refine mw_aload_n 3 C dL_law_378 rfl rfl ?_
  refine mw_iload_n 0 C dL_law_379 rfl rfl ?_
  refine mw_iconst C dL_law_380 ?_
  refine mw_iadd C dL_law_381 ?_
  refine mw_sld C dL_law_382 hX hbl hbA hL (by omega) ?_
  refine mw_aload_n 3 C dL_law_383 rfl rfl ?_
  refine mw_iload_n 0 C dL_law_384 rfl rfl ?_
  refine mw_iconst C dL_law_385 ?_
  refine mw_iadd C dL_law_386 ?_
  refine mw_sld C dL_law_387 hX hbl hbA hL (by omega) ?_
  refine mw_callV (c := 0) [iv ((xs (i + 1).toNat).toInt), iv ((xs (i + 2).toNat).toInt)] [] C dL_law_388 (T_X11_read (zl Z) (zX Z) ((xs (i + 1).toNat).toInt) ((xs (i + 2).toNat).toInt) _ _ hx) rfl zn0 zk0 (by decide) rfl wd311 wd312 wd313 wd1 wd314 hd_X11_read rfl (by decide) (by decide) (Nat.le_of_ble_eq_true rfl) ⟨hR.1, hR.2⟩ ?_
  refine mw_aload_n 1 C dL_law_391 rfl rfl ?_
  refine mw_aload_n 3 C dL_law_392 rfl rfl ?_
  refine mw_iload_n 0 C dL_law_393 rfl rfl ?_
  refine mw_iconst C dL_law_394 ?_
  refine mw_iadd C dL_law_395 ?_
  refine mw_sld C dL_law_396 hX hbl hbA hL (by omega) ?_
  refine mw_aload_n 3 C dL_law_397 rfl rfl ?_
  refine mw_iload_n 0 C dL_law_398 rfl rfl ?_
  refine mw_iconst C dL_law_399 ?_
  refine mw_iadd C dL_law_400 ?_
  refine mw_sld C dL_law_401 hX hbl hbA hL (by omega) ?_
  refine mw_callV (c := 141) [iv ((xs (i + 1).toNat).toInt), iv ((xs (i + 2).toNat).toInt)] [lvv r] C dL_law_402 (T_X12_read (zl Z) (zX Z) ((xs (i + 1).toNat).toInt) ((xs (i + 2).toNat).toInt) _ _ hm) rfl zn141 zk141 (by decide) rfl wd973 wd974 wd975 wd14 wd976 hd_X12_read rfl (by decide) (by decide) (Nat.le_of_ble_eq_true rfl) ⟨hR.1, hR.2⟩ ?_
  refine mw_lcmp_eq_t (tgt := 1624) C dL_law_405 dL_law_406 (by decide) hr hr rfl ?_
  exact k
def Ob_read (RR : Nat → MH → Prop) : Prop := ∀ (n : Nat) (h : MH) (a1 a2 : Int), n < 512 → RR n h → in32 a1 → in32 a2 → ∃ (r : Int) (h1 h2 : MH), F_X11_read a1 a2 h = some (r, h1) ∧ F_X12_read a1 a2 h1 = some (r, h2) ∧ in64 r ∧ RR (n + 1) h2
theorem law_pour {Z : ZT} {Q : State → Prop} {b L : Nat} {xs : Nat → Int32} {ce sl : Nat} (C : Cx Z cL_law 4 RL 40 (some .boolean)) (hR : ce ≤ (zR Z).cells ∧ sl ≤ (zR Z).slots) (hX : va_X b L xs (zs Z) (zs Z).heap) (hbl : b < (zs Z).heap.size) (hbA : ¬ zA (zX Z) b) (hL : L < 100000) {i : Int} (hi : 0 ≤ i ∧ i + 7 ≤ (L : Int)) {h h1 h2 : MH} {r : Int} (hx : F_X11_pour ((xs (i + 1).toNat).toInt) ((xs (i + 2).toNat).toInt) ((xs (i + 3).toNat).toInt) ((xs (i + 4).toNat).toInt) ((xs (i + 5).toNat).toInt) h = some (r, h1)) (hm : F_X12_pour ((xs (i + 1).toNat).toInt) ((xs (i + 2).toNat).toInt) ((xs (i + 3).toNat).toInt) ((xs (i + 4).toNat).toInt) ((xs (i + 5).toNat).toInt) h1 = some (r, h2)) (hr : in32 r) (k : MW Z Q 4 zN zG h2 ce sl 1624 [(3, iv i), (2, rfv (xd (zX Z)) 141), (1, rfv (xd (zX Z)) 0), (0, .ref b)] []) : MW Z Q 4 zN zG h ce sl 411 [(3, iv i), (2, rfv (xd (zX Z)) 141), (1, rfv (xd (zX Z)) 0), (0, .ref b)] [] := by
  refine mw_aload_n 2 C dL_law_411 rfl rfl ?_
  refine mw_aload_n 3 C dL_law_412 rfl rfl ?_
  refine mw_iload_n 0 C dL_law_413 rfl rfl ?_
  refine mw_iconst C dL_law_414 ?_
  refine mw_iadd C dL_law_415 ?_
  refine mw_sld C dL_law_416 hX hbl hbA hL (by omega) ?_
  refine mw_aload_n 3 C dL_law_417 rfl rfl ?_
  refine mw_iload_n 0 C dL_law_418 rfl rfl ?_
  refine mw_iconst C dL_law_419 ?_
  refine mw_iadd C dL_law_420 ?_
  refine mw_sld C dL_law_421 hX hbl hbA hL (by omega) ?_
  refine mw_aload_n 3 C dL_law_422 rfl rfl ?_
  refine mw_iload_n 0 C dL_law_423 rfl rfl ?_
  refine mw_iconst C dL_law_424 ?_
  refine mw_iadd C dL_law_425 ?_
  refine mw_sld C dL_law_426 hX hbl hbA hL (by omega) ?_
  refine mw_aload_n 3 C dL_law_427 rfl rfl ?_
  refine mw_iload_n 0 C dL_law_428 rfl rfl ?_
  refine mw_iconst C dL_law_429 ?_
  refine mw_iadd C dL_law_430 ?_
  refine mw_sld C dL_law_431 hX hbl hbA hL (by omega) ?_
  refine mw_aload_n 3 C dL_law_432 rfl rfl ?_
  refine mw_iload_n 0 C dL_law_433 rfl rfl ?_
  refine mw_iconst C dL_law_434 ?_
  refine mw_iadd C dL_law_435 ?_
  refine mw_sld C dL_law_436 hX hbl hbA hL (by omega) ?_
  refine mw_callV (c := 0) [iv ((xs (i + 1).toNat).toInt), iv ((xs (i + 2).toNat).toInt), iv ((xs (i + 3).toNat).toInt), iv ((xs (i + 4).toNat).toInt), iv ((xs (i + 5).toNat).toInt)] [] C dL_law_437 (T_X11_pour (zl Z) (zX Z) ((xs (i + 1).toNat).toInt) ((xs (i + 2).toNat).toInt) ((xs (i + 3).toNat).toInt) ((xs (i + 4).toNat).toInt) ((xs (i + 5).toNat).toInt) _ _ hx) rfl zn0 zk0 (by decide) rfl wd318 wd319 wd320 wd1 wd321 hd_X11_pour rfl (by decide) (by decide) (Nat.le_of_ble_eq_true rfl) ⟨hR.1, hR.2⟩ ?_
  refine mw_aload_n 1 C dL_law_440 rfl rfl ?_
  refine mw_aload_n 3 C dL_law_441 rfl rfl ?_
  refine mw_iload_n 0 C dL_law_442 rfl rfl ?_
  refine mw_iconst C dL_law_443 ?_
  refine mw_iadd C dL_law_444 ?_
  refine mw_sld C dL_law_445 hX hbl hbA hL (by omega) ?_
  refine mw_aload_n 3 C dL_law_446 rfl rfl ?_
  refine mw_iload_n 0 C dL_law_447 rfl rfl ?_
  refine mw_iconst C dL_law_448 ?_
  refine mw_iadd C dL_law_449 ?_
  refine mw_sld C dL_law_450 hX hbl hbA hL (by omega) ?_
  refine mw_aload_n 3 C dL_law_451 rfl rfl ?_
  refine mw_iload_n 0 C dL_law_452 rfl rfl ?_
  refine mw_iconst C dL_law_453 ?_
  refine mw_iadd C dL_law_454 ?_
  refine mw_sld C dL_law_455 hX hbl hbA hL (by omega) ?_
  refine mw_aload_n 3 C dL_law_456 rfl rfl ?_
  refine mw_iload_n 0 C dL_law_457 rfl rfl ?_
  refine mw_iconst C dL_law_458 ?_
  refine mw_iadd C dL_law_459 ?_
  refine mw_sld C dL_law_460 hX hbl hbA hL (by omega) ?_
  refine mw_aload_n 3 C dL_law_461 rfl rfl ?_
  refine mw_iload_n 0 C dL_law_462 rfl rfl ?_
  refine mw_iconst C dL_law_463 ?_
  refine mw_iadd C dL_law_464 ?_
  refine mw_sld C dL_law_465 hX hbl hbA hL (by omega) ?_
  refine mw_callV (c := 141) [iv ((xs (i + 1).toNat).toInt), iv ((xs (i + 2).toNat).toInt), iv ((xs (i + 3).toNat).toInt), iv ((xs (i + 4).toNat).toInt), iv ((xs (i + 5).toNat).toInt)] [iv r] C dL_law_466 (T_X12_pour (zl Z) (zX Z) ((xs (i + 1).toNat).toInt) ((xs (i + 2).toNat).toInt) ((xs (i + 3).toNat).toInt) ((xs (i + 4).toNat).toInt) ((xs (i + 5).toNat).toInt) _ _ hm) rfl zn141 zk141 (by decide) rfl wd978 wd979 wd980 wd14 wd981 hd_X12_pour rfl (by decide) (by decide) (Nat.le_of_ble_eq_true rfl) ⟨hR.1, hR.2⟩ ?_
  refine mw_icmp_eq_t (tgt := 1624) C dL_law_469 (by decide) hr hr rfl ?_
  exact k
def Ob_pour (RR : Nat → MH → Prop) : Prop := ∀ (n : Nat) (h : MH) (a1 a2 a3 a4 a5 : Int), n < 512 → RR n h → in32 a1 → in32 a2 → in32 a3 → in32 a4 → in32 a5 → ∃ (r : Int) (h1 h2 : MH), F_X11_pour a1 a2 a3 a4 a5 h = some (r, h1) ∧ F_X12_pour a1 a2 a3 a4 a5 h1 = some (r, h2) ∧ in32 r ∧ RR (n + 1) h2
theorem law_feed {Z : ZT} {Q : State → Prop} {b L : Nat} {xs : Nat → Int32} {ce sl : Nat} (C : Cx Z cL_law 4 RL 40 (some .boolean)) (hR : ce ≤ (zR Z).cells ∧ sl ≤ (zR Z).slots) (hX : va_X b L xs (zs Z) (zs Z).heap) (hbl : b < (zs Z).heap.size) (hbA : ¬ zA (zX Z) b) (hL : L < 100000) {i : Int} (hi : 0 ≤ i ∧ i + 7 ≤ (L : Int)) {h h1 h2 : MH} {r : Int} (hx : F_X11_feed ((xs (i + 1).toNat).toInt) ((xs (i + 2).toNat).toInt) ((xs (i + 3).toNat).toInt) ((xs (i + 4).toNat).toInt) ((xs (i + 5).toNat).toInt) h = some (r, h1)) (hm : F_X12_feed ((xs (i + 1).toNat).toInt) ((xs (i + 2).toNat).toInt) ((xs (i + 3).toNat).toInt) ((xs (i + 4).toNat).toInt) ((xs (i + 5).toNat).toInt) h1 = some (r, h2)) (hr : in32 r) (k : MW Z Q 4 zN zG h2 ce sl 1624 [(3, iv i), (2, rfv (xd (zX Z)) 141), (1, rfv (xd (zX Z)) 0), (0, .ref b)] []) : MW Z Q 4 zN zG h ce sl 474 [(3, iv i), (2, rfv (xd (zX Z)) 141), (1, rfv (xd (zX Z)) 0), (0, .ref b)] [] := by
  refine mw_aload_n 2 C dL_law_474 rfl rfl ?_
  refine mw_aload_n 3 C dL_law_475 rfl rfl ?_
  refine mw_iload_n 0 C dL_law_476 rfl rfl ?_
  refine mw_iconst C dL_law_477 ?_
  refine mw_iadd C dL_law_478 ?_
  refine mw_sld C dL_law_479 hX hbl hbA hL (by omega) ?_
  refine mw_aload_n 3 C dL_law_480 rfl rfl ?_
  refine mw_iload_n 0 C dL_law_481 rfl rfl ?_
  refine mw_iconst C dL_law_482 ?_
  refine mw_iadd C dL_law_483 ?_
  refine mw_sld C dL_law_484 hX hbl hbA hL (by omega) ?_
  refine mw_aload_n 3 C dL_law_485 rfl rfl ?_
  refine mw_iload_n 0 C dL_law_486 rfl rfl ?_
  refine mw_iconst C dL_law_487 ?_
  refine mw_iadd C dL_law_488 ?_
  refine mw_sld C dL_law_489 hX hbl hbA hL (by omega) ?_
  refine mw_aload_n 3 C dL_law_490 rfl rfl ?_
  refine mw_iload_n 0 C dL_law_491 rfl rfl ?_
  refine mw_iconst C dL_law_492 ?_
  refine mw_iadd C dL_law_493 ?_
  refine mw_sld C dL_law_494 hX hbl hbA hL (by omega) ?_
  refine mw_aload_n 3 C dL_law_495 rfl rfl ?_
  refine mw_iload_n 0 C dL_law_496 rfl rfl ?_
  refine mw_iconst C dL_law_497 ?_
  refine mw_iadd C dL_law_498 ?_
  refine mw_sld C dL_law_499 hX hbl hbA hL (by omega) ?_
  refine mw_callV (c := 0) [iv ((xs (i + 1).toNat).toInt), iv ((xs (i + 2).toNat).toInt), iv ((xs (i + 3).toNat).toInt), iv ((xs (i + 4).toNat).toInt), iv ((xs (i + 5).toNat).toInt)] [] C dL_law_500 (T_X11_feed (zl Z) (zX Z) ((xs (i + 1).toNat).toInt) ((xs (i + 2).toNat).toInt) ((xs (i + 3).toNat).toInt) ((xs (i + 4).toNat).toInt) ((xs (i + 5).toNat).toInt) _ _ hx) rfl zn0 zk0 (by decide) rfl wd325 wd326 wd327 wd1 wd328 hd_X11_feed rfl (by decide) (by decide) (Nat.le_of_ble_eq_true rfl) ⟨hR.1, hR.2⟩ ?_
  refine mw_aload_n 1 C dL_law_503 rfl rfl ?_
  refine mw_aload_n 3 C dL_law_504 rfl rfl ?_
  refine mw_iload_n 0 C dL_law_505 rfl rfl ?_
  refine mw_iconst C dL_law_506 ?_
  refine mw_iadd C dL_law_507 ?_
  refine mw_sld C dL_law_508 hX hbl hbA hL (by omega) ?_
  refine mw_aload_n 3 C dL_law_509 rfl rfl ?_
  refine mw_iload_n 0 C dL_law_510 rfl rfl ?_
  refine mw_iconst C dL_law_511 ?_
  refine mw_iadd C dL_law_512 ?_
  refine mw_sld C dL_law_513 hX hbl hbA hL (by omega) ?_
  refine mw_aload_n 3 C dL_law_514 rfl rfl ?_
  refine mw_iload_n 0 C dL_law_515 rfl rfl ?_
  refine mw_iconst C dL_law_516 ?_
  refine mw_iadd C dL_law_517 ?_
  refine mw_sld C dL_law_518 hX hbl hbA hL (by omega) ?_
  refine mw_aload_n 3 C dL_law_519 rfl rfl ?_
  refine mw_iload_n 0 C dL_law_520 rfl rfl ?_
  refine mw_iconst C dL_law_521 ?_
  refine mw_iadd C dL_law_522 ?_
  refine mw_sld C dL_law_523 hX hbl hbA hL (by omega) ?_
  refine mw_aload_n 3 C dL_law_524 rfl rfl ?_
  refine mw_iload_n 0 C dL_law_525 rfl rfl ?_
  refine mw_iconst C dL_law_526 ?_
  refine mw_iadd C dL_law_527 ?_
  refine mw_sld C dL_law_528 hX hbl hbA hL (by omega) ?_
  refine mw_callV (c := 141) [iv ((xs (i + 1).toNat).toInt), iv ((xs (i + 2).toNat).toInt), iv ((xs (i + 3).toNat).toInt), iv ((xs (i + 4).toNat).toInt), iv ((xs (i + 5).toNat).toInt)] [iv r] C dL_law_529 (T_X12_feed (zl Z) (zX Z) ((xs (i + 1).toNat).toInt) ((xs (i + 2).toNat).toInt) ((xs (i + 3).toNat).toInt) ((xs (i + 4).toNat).toInt) ((xs (i + 5).toNat).toInt) _ _ hm) rfl zn141 zk141 (by decide) rfl wd982 wd983 wd984 wd14 wd985 hd_X12_feed rfl (by decide) (by decide) (Nat.le_of_ble_eq_true rfl) ⟨hR.1, hR.2⟩ ?_
  refine mw_icmp_eq_t (tgt := 1624) C dL_law_532 (by decide) hr hr rfl ?_
  exact k
def Ob_feed (RR : Nat → MH → Prop) : Prop := ∀ (n : Nat) (h : MH) (a1 a2 a3 a4 a5 : Int), n < 512 → RR n h → in32 a1 → in32 a2 → in32 a3 → in32 a4 → in32 a5 → ∃ (r : Int) (h1 h2 : MH), F_X11_feed a1 a2 a3 a4 a5 h = some (r, h1) ∧ F_X12_feed a1 a2 a3 a4 a5 h1 = some (r, h2) ∧ in32 r ∧ RR (n + 1) h2
theorem law_line {Z : ZT} {Q : State → Prop} {b L : Nat} {xs : Nat → Int32} {ce sl : Nat} (C : Cx Z cL_law 4 RL 40 (some .boolean)) (hR : ce ≤ (zR Z).cells ∧ sl ≤ (zR Z).slots) (hX : va_X b L xs (zs Z) (zs Z).heap) (hbl : b < (zs Z).heap.size) (hbA : ¬ zA (zX Z) b) (hL : L < 100000) {i : Int} (hi : 0 ≤ i ∧ i + 7 ≤ (L : Int)) {h h1 h2 : MH} {r : Int} (hx : F_X11_line ((xs (i + 1).toNat).toInt) h = some (r, h1)) (hm : F_X12_line ((xs (i + 1).toNat).toInt) h1 = some (r, h2)) (hr : in32 r) (k : MW Z Q 4 zN zG h2 ce sl 1624 [(3, iv i), (2, rfv (xd (zX Z)) 141), (1, rfv (xd (zX Z)) 0), (0, .ref b)] []) : MW Z Q 4 zN zG h ce sl 537 [(3, iv i), (2, rfv (xd (zX Z)) 141), (1, rfv (xd (zX Z)) 0), (0, .ref b)] [] := by
  refine mw_aload_n 2 C dL_law_537 rfl rfl ?_
  refine mw_aload_n 3 C dL_law_538 rfl rfl ?_
  refine mw_iload_n 0 C dL_law_539 rfl rfl ?_
  refine mw_iconst C dL_law_540 ?_
  refine mw_iadd C dL_law_541 ?_
  refine mw_sld C dL_law_542 hX hbl hbA hL (by omega) ?_
  refine mw_callV (c := 0) [iv ((xs (i + 1).toNat).toInt)] [] C dL_law_543 (T_X11_line (zl Z) (zX Z) ((xs (i + 1).toNat).toInt) _ _ hx) rfl zn0 zk0 (by decide) rfl wd333 wd334 wd335 wd1 wd336 hd_X11_line rfl (by decide) (by decide) (Nat.le_of_ble_eq_true rfl) ⟨hR.1, hR.2⟩ ?_
  refine mw_aload_n 1 C dL_law_546 rfl rfl ?_
  refine mw_aload_n 3 C dL_law_547 rfl rfl ?_
  refine mw_iload_n 0 C dL_law_548 rfl rfl ?_
  refine mw_iconst C dL_law_549 ?_
  refine mw_iadd C dL_law_550 ?_
  refine mw_sld C dL_law_551 hX hbl hbA hL (by omega) ?_
  refine mw_callV (c := 141) [iv ((xs (i + 1).toNat).toInt)] [iv r] C dL_law_552 (T_X12_line (zl Z) (zX Z) ((xs (i + 1).toNat).toInt) _ _ hm) rfl zn141 zk141 (by decide) rfl wd993 wd994 wd995 wd14 wd996 hd_X12_line rfl (by decide) (by decide) (Nat.le_of_ble_eq_true rfl) ⟨hR.1, hR.2⟩ ?_
  refine mw_icmp_eq_t (tgt := 1624) C dL_law_555 (by decide) hr hr rfl ?_
  exact k
def Ob_line (RR : Nat → MH → Prop) : Prop := ∀ (n : Nat) (h : MH) (a1 : Int), n < 512 → RR n h → in32 a1 → ∃ (r : Int) (h1 h2 : MH), F_X11_line a1 h = some (r, h1) ∧ F_X12_line a1 h1 = some (r, h2) ∧ in32 r ∧ RR (n + 1) h2
theorem law_shift {Z : ZT} {Q : State → Prop} {b L : Nat} {xs : Nat → Int32} {ce sl : Nat} (C : Cx Z cL_law 4 RL 40 (some .boolean)) (hR : ce ≤ (zR Z).cells ∧ sl ≤ (zR Z).slots) (hX : va_X b L xs (zs Z) (zs Z).heap) (hbl : b < (zs Z).heap.size) (hbA : ¬ zA (zX Z) b) (hL : L < 100000) {i : Int} (hi : 0 ≤ i ∧ i + 7 ≤ (L : Int)) {h h1 h2 : MH} {r : Int} (hx : F_X11_shift ((xs (i + 1).toNat).toInt) h = some (r, h1)) (hm : F_X12_shift ((xs (i + 1).toNat).toInt) h1 = some (r, h2)) (hr : in32 r) (k : MW Z Q 4 zN zG h2 ce sl 1624 [(3, iv i), (2, rfv (xd (zX Z)) 141), (1, rfv (xd (zX Z)) 0), (0, .ref b)] []) : MW Z Q 4 zN zG h ce sl 560 [(3, iv i), (2, rfv (xd (zX Z)) 141), (1, rfv (xd (zX Z)) 0), (0, .ref b)] [] := by
  refine mw_aload_n 2 C dL_law_560 rfl rfl ?_
  refine mw_aload_n 3 C dL_law_561 rfl rfl ?_
  refine mw_iload_n 0 C dL_law_562 rfl rfl ?_
  refine mw_iconst C dL_law_563 ?_
  refine mw_iadd C dL_law_564 ?_
  refine mw_sld C dL_law_565 hX hbl hbA hL (by omega) ?_
  refine mw_callV (c := 0) [iv ((xs (i + 1).toNat).toInt)] [] C dL_law_566 (T_X11_shift (zl Z) (zX Z) ((xs (i + 1).toNat).toInt) _ _ hx) rfl zn0 zk0 (by decide) rfl wd497 wd498 wd499 wd1 wd500 hd_X11_shift rfl (by decide) (by decide) (Nat.le_of_ble_eq_true rfl) ⟨hR.1, hR.2⟩ ?_
  refine mw_aload_n 1 C dL_law_569 rfl rfl ?_
  refine mw_aload_n 3 C dL_law_570 rfl rfl ?_
  refine mw_iload_n 0 C dL_law_571 rfl rfl ?_
  refine mw_iconst C dL_law_572 ?_
  refine mw_iadd C dL_law_573 ?_
  refine mw_sld C dL_law_574 hX hbl hbA hL (by omega) ?_
  refine mw_callV (c := 141) [iv ((xs (i + 1).toNat).toInt)] [iv r] C dL_law_575 (T_X12_shift (zl Z) (zX Z) ((xs (i + 1).toNat).toInt) _ _ hm) rfl zn141 zk141 (by decide) rfl wd1072 wd1073 wd1074 wd14 wd1075 hd_X12_shift rfl (by decide) (by decide) (Nat.le_of_ble_eq_true rfl) ⟨hR.1, hR.2⟩ ?_
  refine mw_icmp_eq_t (tgt := 1624) C dL_law_578 (by decide) hr hr rfl ?_
  exact k
def Ob_shift (RR : Nat → MH → Prop) : Prop := ∀ (n : Nat) (h : MH) (a1 : Int), n < 512 → RR n h → in32 a1 → ∃ (r : Int) (h1 h2 : MH), F_X11_shift a1 h = some (r, h1) ∧ F_X12_shift a1 h1 = some (r, h2) ∧ in32 r ∧ RR (n + 1) h2
theorem law_fault {Z : ZT} {Q : State → Prop} {b L : Nat} {xs : Nat → Int32} {ce sl : Nat} (C : Cx Z cL_law 4 RL 40 (some .boolean)) (hR : ce ≤ (zR Z).cells ∧ sl ≤ (zR Z).slots) (hX : va_X b L xs (zs Z) (zs Z).heap) (hbl : b < (zs Z).heap.size) (hbA : ¬ zA (zX Z) b) (hL : L < 100000) {i : Int} (hi : 0 ≤ i ∧ i + 7 ≤ (L : Int)) {h h1 h2 : MH} {r : Int} (hx : F_X11_fault ((xs (i + 1).toNat).toInt) h = some (r, h1)) (hm : F_X12_fault ((xs (i + 1).toNat).toInt) h1 = some (r, h2)) (hr : in32 r) (k : MW Z Q 4 zN zG h2 ce sl 1624 [(3, iv i), (2, rfv (xd (zX Z)) 141), (1, rfv (xd (zX Z)) 0), (0, .ref b)] []) : MW Z Q 4 zN zG h ce sl 583 [(3, iv i), (2, rfv (xd (zX Z)) 141), (1, rfv (xd (zX Z)) 0), (0, .ref b)] [] := by
  refine mw_aload_n 2 C dL_law_583 rfl rfl ?_
  refine mw_aload_n 3 C dL_law_584 rfl rfl ?_
  refine mw_iload_n 0 C dL_law_585 rfl rfl ?_
  refine mw_iconst C dL_law_586 ?_
  refine mw_iadd C dL_law_587 ?_
  refine mw_sld C dL_law_588 hX hbl hbA hL (by omega) ?_
  refine mw_callV (c := 0) [iv ((xs (i + 1).toNat).toInt)] [] C dL_law_589 (T_X11_fault (zl Z) (zX Z) ((xs (i + 1).toNat).toInt) _ _ hx) rfl zn0 zk0 (by decide) rfl wd543 wd544 wd545 wd1 wd546 hd_X11_fault rfl (by decide) (by decide) (Nat.le_of_ble_eq_true rfl) ⟨hR.1, hR.2⟩ ?_
  refine mw_aload_n 1 C dL_law_592 rfl rfl ?_
  refine mw_aload_n 3 C dL_law_593 rfl rfl ?_
  refine mw_iload_n 0 C dL_law_594 rfl rfl ?_
  refine mw_iconst C dL_law_595 ?_
  refine mw_iadd C dL_law_596 ?_
  refine mw_sld C dL_law_597 hX hbl hbA hL (by omega) ?_
  refine mw_callV (c := 141) [iv ((xs (i + 1).toNat).toInt)] [iv r] C dL_law_598 (T_X12_fault (zl Z) (zX Z) ((xs (i + 1).toNat).toInt) _ _ hm) rfl zn141 zk141 (by decide) rfl wd989 wd990 wd991 wd14 wd992 hd_X12_fault rfl (by decide) (by decide) (Nat.le_of_ble_eq_true rfl) ⟨hR.1, hR.2⟩ ?_
  refine mw_icmp_eq_t (tgt := 1624) C dL_law_601 (by decide) hr hr rfl ?_
  exact k
def Ob_fault (RR : Nat → MH → Prop) : Prop := ∀ (n : Nat) (h : MH) (a1 : Int), n < 512 → RR n h → in32 a1 → ∃ (r : Int) (h1 h2 : MH), F_X11_fault a1 h = some (r, h1) ∧ F_X12_fault a1 h1 = some (r, h2) ∧ in32 r ∧ RR (n + 1) h2
theorem law_many {Z : ZT} {Q : State → Prop} {b L : Nat} {xs : Nat → Int32} {ce sl : Nat} (C : Cx Z cL_law 4 RL 40 (some .boolean)) (hR : ce ≤ (zR Z).cells ∧ sl ≤ (zR Z).slots) (hX : va_X b L xs (zs Z) (zs Z).heap) (hbl : b < (zs Z).heap.size) (hbA : ¬ zA (zX Z) b) (hL : L < 100000) {i : Int} (hi : 0 ≤ i ∧ i + 7 ≤ (L : Int)) {h h1 h2 : MH} {r : Int} (hx : F_X11_many ((xs (i + 1).toNat).toInt) h = some (r, h1)) (hm : F_X12_many ((xs (i + 1).toNat).toInt) h1 = some (r, h2)) (hr : in32 r) (k : MW Z Q 4 zN zG h2 ce sl 1624 [(3, iv i), (2, rfv (xd (zX Z)) 141), (1, rfv (xd (zX Z)) 0), (0, .ref b)] []) : MW Z Q 4 zN zG h ce sl 606 [(3, iv i), (2, rfv (xd (zX Z)) 141), (1, rfv (xd (zX Z)) 0), (0, .ref b)] [] := by
  refine mw_aload_n 2 C dL_law_606 rfl rfl ?_
  refine mw_aload_n 3 C dL_law_607 rfl rfl ?_
  refine mw_iload_n 0 C dL_law_608 rfl rfl ?_
  refine mw_iconst C dL_law_609 ?_
  refine mw_iadd C dL_law_610 ?_
  refine mw_sld C dL_law_611 hX hbl hbA hL (by omega) ?_
  refine mw_callV (c := 0) [iv ((xs (i + 1).toNat).toInt)] [] C dL_law_612 (T_X11_many (zl Z) (zX Z) ((xs (i + 1).toNat).toInt) _ _ hx) rfl zn0 zk0 (by decide) rfl wd547 wd548 wd549 wd1 wd550 hd_X11_many rfl (by decide) (by decide) (Nat.le_of_ble_eq_true rfl) ⟨hR.1, hR.2⟩ ?_
  refine mw_aload_n 1 C dL_law_615 rfl rfl ?_
  refine mw_aload_n 3 C dL_law_616 rfl rfl ?_
  refine mw_iload_n 0 C dL_law_617 rfl rfl ?_
  refine mw_iconst C dL_law_618 ?_
  refine mw_iadd C dL_law_619 ?_
  refine mw_sld C dL_law_620 hX hbl hbA hL (by omega) ?_
  refine mw_callV (c := 141) [iv ((xs (i + 1).toNat).toInt)] [iv r] C dL_law_621 (T_X12_many (zl Z) (zX Z) ((xs (i + 1).toNat).toInt) _ _ hm) rfl zn141 zk141 (by decide) rfl wd1079 wd1080 wd1081 wd14 wd1082 hd_X12_many rfl (by decide) (by decide) (Nat.le_of_ble_eq_true rfl) ⟨hR.1, hR.2⟩ ?_
  refine mw_icmp_eq_t (tgt := 1624) C dL_law_624 (by decide) hr hr rfl ?_
  exact k
def Ob_many (RR : Nat → MH → Prop) : Prop := ∀ (n : Nat) (h : MH) (a1 : Int), n < 512 → RR n h → in32 a1 → ∃ (r : Int) (h1 h2 : MH), F_X11_many a1 h = some (r, h1) ∧ F_X12_many a1 h1 = some (r, h2) ∧ in32 r ∧ RR (n + 1) h2
theorem law_machine {Z : ZT} {Q : State → Prop} {b L : Nat} {xs : Nat → Int32} {ce sl : Nat} (C : Cx Z cL_law 4 RL 40 (some .boolean)) (hR : ce ≤ (zR Z).cells ∧ sl ≤ (zR Z).slots) (hX : va_X b L xs (zs Z) (zs Z).heap) (hbl : b < (zs Z).heap.size) (hbA : ¬ zA (zX Z) b) (hL : L < 100000) {i : Int} (hi : 0 ≤ i ∧ i + 7 ≤ (L : Int)) {h h1 h2 : MH} {r : Int} (hx : F_X11_machine ((xs (i + 1).toNat).toInt) ((xs (i + 2).toNat).toInt) h = some (r, h1)) (hm : F_X12_machine ((xs (i + 1).toNat).toInt) ((xs (i + 2).toNat).toInt) h1 = some (r, h2)) (hr : in32 r) (k : MW Z Q 4 zN zG h2 ce sl 1624 [(3, iv i), (2, rfv (xd (zX Z)) 141), (1, rfv (xd (zX Z)) 0), (0, .ref b)] []) : MW Z Q 4 zN zG h ce sl 629 [(3, iv i), (2, rfv (xd (zX Z)) 141), (1, rfv (xd (zX Z)) 0), (0, .ref b)] [] := by
  refine mw_aload_n 2 C dL_law_629 rfl rfl ?_
  refine mw_aload_n 3 C dL_law_630 rfl rfl ?_
  refine mw_iload_n 0 C dL_law_631 rfl rfl ?_
  refine mw_iconst C dL_law_632 ?_
  refine mw_iadd C dL_law_633 ?_
  refine mw_sld C dL_law_634 hX hbl hbA hL (by omega) ?_
  refine mw_aload_n 3 C dL_law_635 rfl rfl ?_
  refine mw_iload_n 0 C dL_law_636 rfl rfl ?_
  refine mw_iconst C dL_law_637 ?_
  refine mw_iadd C dL_law_638 ?_
  refine mw_sld C dL_law_639 hX hbl hbA hL (by omega) ?_
  refine mw_callV (c := 0) [iv ((xs (i + 1).toNat).toInt), iv ((xs (i + 2).toNat).toInt)] [] C dL_law_640 (T_X11_machine (zl Z) (zX Z) ((xs (i + 1).toNat).toInt) ((xs (i + 2).toNat).toInt) _ _ hx) rfl zn0 zk0 (by decide) rfl wd555 wd556 wd557 wd1 wd558 hd_X11_machine rfl (by decide) (by decide) (Nat.le_of_ble_eq_true rfl) ⟨hR.1, hR.2⟩ ?_
  refine mw_aload_n 1 C dL_law_643 rfl rfl ?_
  refine mw_aload_n 3 C dL_law_644 rfl rfl ?_
  refine mw_iload_n 0 C dL_law_645 rfl rfl ?_
  refine mw_iconst C dL_law_646 ?_
  refine mw_iadd C dL_law_647 ?_
  refine mw_sld C dL_law_648 hX hbl hbA hL (by omega) ?_
  refine mw_aload_n 3 C dL_law_649 rfl rfl ?_
  refine mw_iload_n 0 C dL_law_650 rfl rfl ?_
  refine mw_iconst C dL_law_651 ?_
  refine mw_iadd C dL_law_652 ?_
  refine mw_sld C dL_law_653 hX hbl hbA hL (by omega) ?_
  refine mw_callV (c := 141) [iv ((xs (i + 1).toNat).toInt), iv ((xs (i + 2).toNat).toInt)] [iv r] C dL_law_654 (T_X12_machine (zl Z) (zX Z) ((xs (i + 1).toNat).toInt) ((xs (i + 2).toNat).toInt) _ _ hm) rfl zn141 zk141 (by decide) rfl wd1089 wd1090 wd1091 wd14 wd1092 hd_X12_machine rfl (by decide) (by decide) (Nat.le_of_ble_eq_true rfl) ⟨hR.1, hR.2⟩ ?_
  refine mw_icmp_eq_t (tgt := 1624) C dL_law_657 (by decide) hr hr rfl ?_
  exact k
def Ob_machine (RR : Nat → MH → Prop) : Prop := ∀ (n : Nat) (h : MH) (a1 a2 : Int), n < 512 → RR n h → in32 a1 → in32 a2 → ∃ (r : Int) (h1 h2 : MH), F_X11_machine a1 a2 h = some (r, h1) ∧ F_X12_machine a1 a2 h1 = some (r, h2) ∧ in32 r ∧ RR (n + 1) h2
theorem law_table {Z : ZT} {Q : State → Prop} {b L : Nat} {xs : Nat → Int32} {ce sl : Nat} (C : Cx Z cL_law 4 RL 40 (some .boolean)) (hR : ce ≤ (zR Z).cells ∧ sl ≤ (zR Z).slots) (hX : va_X b L xs (zs Z) (zs Z).heap) (hbl : b < (zs Z).heap.size) (hbA : ¬ zA (zX Z) b) (hL : L < 100000) {i : Int} (hi : 0 ≤ i ∧ i + 7 ≤ (L : Int)) {h h1 h2 : MH} {r : Int} (hx : F_X11_table ((xs (i + 1).toNat).toInt) ((xs (i + 2).toNat).toInt) h = some (r, h1)) (hm : F_X12_table ((xs (i + 1).toNat).toInt) ((xs (i + 2).toNat).toInt) h1 = some (r, h2)) (hr : in32 r) (k : MW Z Q 4 zN zG h2 ce sl 1624 [(3, iv i), (2, rfv (xd (zX Z)) 141), (1, rfv (xd (zX Z)) 0), (0, .ref b)] []) : MW Z Q 4 zN zG h ce sl 662 [(3, iv i), (2, rfv (xd (zX Z)) 141), (1, rfv (xd (zX Z)) 0), (0, .ref b)] [] := by
  refine mw_aload_n 2 C dL_law_662 rfl rfl ?_
  refine mw_aload_n 3 C dL_law_663 rfl rfl ?_
  refine mw_iload_n 0 C dL_law_664 rfl rfl ?_
  refine mw_iconst C dL_law_665 ?_
  refine mw_iadd C dL_law_666 ?_
  refine mw_sld C dL_law_667 hX hbl hbA hL (by omega) ?_
  refine mw_aload_n 3 C dL_law_668 rfl rfl ?_
  refine mw_iload_n 0 C dL_law_669 rfl rfl ?_
  refine mw_iconst C dL_law_670 ?_
  refine mw_iadd C dL_law_671 ?_
  refine mw_sld C dL_law_672 hX hbl hbA hL (by omega) ?_
  refine mw_callV (c := 0) [iv ((xs (i + 1).toNat).toInt), iv ((xs (i + 2).toNat).toInt)] [] C dL_law_673 (T_X11_table (zl Z) (zX Z) ((xs (i + 1).toNat).toInt) ((xs (i + 2).toNat).toInt) _ _ hx) rfl zn0 zk0 (by decide) rfl wd562 wd563 wd564 wd1 wd565 hd_X11_table rfl (by decide) (by decide) (Nat.le_of_ble_eq_true rfl) ⟨hR.1, hR.2⟩ ?_
  refine mw_aload_n 1 C dL_law_676 rfl rfl ?_
  refine mw_aload_n 3 C dL_law_677 rfl rfl ?_
  refine mw_iload_n 0 C dL_law_678 rfl rfl ?_
  refine mw_iconst C dL_law_679 ?_
  refine mw_iadd C dL_law_680 ?_
  refine mw_sld C dL_law_681 hX hbl hbA hL (by omega) ?_
  refine mw_aload_n 3 C dL_law_682 rfl rfl ?_
  refine mw_iload_n 0 C dL_law_683 rfl rfl ?_
  refine mw_iconst C dL_law_684 ?_
  refine mw_iadd C dL_law_685 ?_
  refine mw_sld C dL_law_686 hX hbl hbA hL (by omega) ?_
  refine mw_callV (c := 141) [iv ((xs (i + 1).toNat).toInt), iv ((xs (i + 2).toNat).toInt)] [iv r] C dL_law_687 (T_X12_table (zl Z) (zX Z) ((xs (i + 1).toNat).toInt) ((xs (i + 2).toNat).toInt) _ _ hm) rfl zn141 zk141 (by decide) rfl wd1096 wd1097 wd1098 wd14 wd1099 hd_X12_table rfl (by decide) (by decide) (Nat.le_of_ble_eq_true rfl) ⟨hR.1, hR.2⟩ ?_
  refine mw_icmp_eq_t (tgt := 1624) C dL_law_690 (by decide) hr hr rfl ?_
  exact k
def Ob_table (RR : Nat → MH → Prop) : Prop := ∀ (n : Nat) (h : MH) (a1 a2 : Int), n < 512 → RR n h → in32 a1 → in32 a2 → ∃ (r : Int) (h1 h2 : MH), F_X11_table a1 a2 h = some (r, h1) ∧ F_X12_table a1 a2 h1 = some (r, h2) ∧ in32 r ∧ RR (n + 1) h2
theorem law_wash {Z : ZT} {Q : State → Prop} {b L : Nat} {xs : Nat → Int32} {ce sl : Nat} (C : Cx Z cL_law 4 RL 40 (some .boolean)) (hR : ce ≤ (zR Z).cells ∧ sl ≤ (zR Z).slots) (hX : va_X b L xs (zs Z) (zs Z).heap) (hbl : b < (zs Z).heap.size) (hbA : ¬ zA (zX Z) b) (hL : L < 100000) {i : Int} (hi : 0 ≤ i ∧ i + 7 ≤ (L : Int)) {h h1 h2 : MH} {r : Int} (hx : F_X11_wash ((xs (i + 1).toNat).toInt) ((xs (i + 2).toNat).toInt) h = some (r, h1)) (hm : F_X12_wash ((xs (i + 1).toNat).toInt) ((xs (i + 2).toNat).toInt) h1 = some (r, h2)) (hr : in32 r) (k : MW Z Q 4 zN zG h2 ce sl 1624 [(3, iv i), (2, rfv (xd (zX Z)) 141), (1, rfv (xd (zX Z)) 0), (0, .ref b)] []) : MW Z Q 4 zN zG h ce sl 695 [(3, iv i), (2, rfv (xd (zX Z)) 141), (1, rfv (xd (zX Z)) 0), (0, .ref b)] [] := by
  refine mw_aload_n 2 C dL_law_695 rfl rfl ?_
  refine mw_aload_n 3 C dL_law_696 rfl rfl ?_
  refine mw_iload_n 0 C dL_law_697 rfl rfl ?_
  refine mw_iconst C dL_law_698 ?_
  refine mw_iadd C dL_law_699 ?_
  refine mw_sld C dL_law_700 hX hbl hbA hL (by omega) ?_
  refine mw_aload_n 3 C dL_law_701 rfl rfl ?_
  refine mw_iload_n 0 C dL_law_702 rfl rfl ?_
  refine mw_iconst C dL_law_703 ?_
  refine mw_iadd C dL_law_704 ?_
  refine mw_sld C dL_law_705 hX hbl hbA hL (by omega) ?_
  refine mw_callV (c := 0) [iv ((xs (i + 1).toNat).toInt), iv ((xs (i + 2).toNat).toInt)] [] C dL_law_706 (T_X11_wash (zl Z) (zX Z) ((xs (i + 1).toNat).toInt) ((xs (i + 2).toNat).toInt) _ _ hx) rfl zn0 zk0 (by decide) rfl wd573 wd574 wd575 wd1 wd576 hd_X11_wash rfl (by decide) (by decide) (Nat.le_of_ble_eq_true rfl) ⟨hR.1, hR.2⟩ ?_
  refine mw_aload_n 1 C dL_law_709 rfl rfl ?_
  refine mw_aload_n 3 C dL_law_710 rfl rfl ?_
  refine mw_iload_n 0 C dL_law_711 rfl rfl ?_
  refine mw_iconst C dL_law_712 ?_
  refine mw_iadd C dL_law_713 ?_
  refine mw_sld C dL_law_714 hX hbl hbA hL (by omega) ?_
  refine mw_aload_n 3 C dL_law_715 rfl rfl ?_
  refine mw_iload_n 0 C dL_law_716 rfl rfl ?_
  refine mw_iconst C dL_law_717 ?_
  refine mw_iadd C dL_law_718 ?_
  refine mw_sld C dL_law_719 hX hbl hbA hL (by omega) ?_
  refine mw_callV (c := 141) [iv ((xs (i + 1).toNat).toInt), iv ((xs (i + 2).toNat).toInt)] [iv r] C dL_law_720 (T_X12_wash (zl Z) (zX Z) ((xs (i + 1).toNat).toInt) ((xs (i + 2).toNat).toInt) _ _ hm) rfl zn141 zk141 (by decide) rfl wd1104 wd1105 wd1106 wd14 wd1107 hd_X12_wash rfl (by decide) (by decide) (Nat.le_of_ble_eq_true rfl) ⟨hR.1, hR.2⟩ ?_
  refine mw_icmp_eq_t (tgt := 1624) C dL_law_723 (by decide) hr hr rfl ?_
  exact k
def Ob_wash (RR : Nat → MH → Prop) : Prop := ∀ (n : Nat) (h : MH) (a1 a2 : Int), n < 512 → RR n h → in32 a1 → in32 a2 → ∃ (r : Int) (h1 h2 : MH), F_X11_wash a1 a2 h = some (r, h1) ∧ F_X12_wash a1 a2 h1 = some (r, h2) ∧ in32 r ∧ RR (n + 1) h2
theorem law_begin {Z : ZT} {Q : State → Prop} {b L : Nat} {xs : Nat → Int32} {ce sl : Nat} (C : Cx Z cL_law 4 RL 40 (some .boolean)) (hR : ce ≤ (zR Z).cells ∧ sl ≤ (zR Z).slots) (hX : va_X b L xs (zs Z) (zs Z).heap) (hbl : b < (zs Z).heap.size) (hbA : ¬ zA (zX Z) b) (hL : L < 100000) {i : Int} (hi : 0 ≤ i ∧ i + 7 ≤ (L : Int)) {h h1 h2 : MH} {r : Int} (hx : F_X11_begin ((xs (i + 1).toNat).toInt) h = some (r, h1)) (hm : F_X12_begin ((xs (i + 1).toNat).toInt) h1 = some (r, h2)) (hr : in32 r) (k : MW Z Q 4 zN zG h2 ce sl 1624 [(3, iv i), (2, rfv (xd (zX Z)) 141), (1, rfv (xd (zX Z)) 0), (0, .ref b)] []) : MW Z Q 4 zN zG h ce sl 728 [(3, iv i), (2, rfv (xd (zX Z)) 141), (1, rfv (xd (zX Z)) 0), (0, .ref b)] [] := by
  refine mw_aload_n 2 C dL_law_728 rfl rfl ?_
  refine mw_aload_n 3 C dL_law_729 rfl rfl ?_
  refine mw_iload_n 0 C dL_law_730 rfl rfl ?_
  refine mw_iconst C dL_law_731 ?_
  refine mw_iadd C dL_law_732 ?_
  refine mw_sld C dL_law_733 hX hbl hbA hL (by omega) ?_
  refine mw_callV (c := 0) [iv ((xs (i + 1).toNat).toInt)] [] C dL_law_734 (T_X11_begin (zl Z) (zX Z) ((xs (i + 1).toNat).toInt) _ _ hx) rfl zn0 zk0 (by decide) rfl wd585 wd586 wd587 wd1 wd588 hd_X11_begin rfl (by decide) (by decide) (Nat.le_of_ble_eq_true rfl) ⟨hR.1, hR.2⟩ ?_
  refine mw_aload_n 1 C dL_law_737 rfl rfl ?_
  refine mw_aload_n 3 C dL_law_738 rfl rfl ?_
  refine mw_iload_n 0 C dL_law_739 rfl rfl ?_
  refine mw_iconst C dL_law_740 ?_
  refine mw_iadd C dL_law_741 ?_
  refine mw_sld C dL_law_742 hX hbl hbA hL (by omega) ?_
  refine mw_callV (c := 141) [iv ((xs (i + 1).toNat).toInt)] [iv r] C dL_law_743 (T_X12_begin (zl Z) (zX Z) ((xs (i + 1).toNat).toInt) _ _ hm) rfl zn141 zk141 (by decide) rfl wd1111 wd1112 wd1113 wd14 wd1114 hd_X12_begin rfl (by decide) (by decide) (Nat.le_of_ble_eq_true rfl) ⟨hR.1, hR.2⟩ ?_
  refine mw_icmp_eq_t (tgt := 1624) C dL_law_746 (by decide) hr hr rfl ?_
  exact k
def Ob_begin (RR : Nat → MH → Prop) : Prop := ∀ (n : Nat) (h : MH) (a1 : Int), n < 512 → RR n h → in32 a1 → ∃ (r : Int) (h1 h2 : MH), F_X11_begin a1 h = some (r, h1) ∧ F_X12_begin a1 h1 = some (r, h2) ∧ in32 r ∧ RR (n + 1) h2
theorem law_run {Z : ZT} {Q : State → Prop} {b L : Nat} {xs : Nat → Int32} {ce sl : Nat} (C : Cx Z cL_law 4 RL 40 (some .boolean)) (hR : ce ≤ (zR Z).cells ∧ sl ≤ (zR Z).slots) (hX : va_X b L xs (zs Z) (zs Z).heap) (hbl : b < (zs Z).heap.size) (hbA : ¬ zA (zX Z) b) (hL : L < 100000) {i : Int} (hi : 0 ≤ i ∧ i + 7 ≤ (L : Int)) {h h1 h2 : MH} {r : Int} (hx : F_X11_run ((xs (i + 1).toNat).toInt) h = some (r, h1)) (hm : F_X12_run ((xs (i + 1).toNat).toInt) h1 = some (r, h2)) (hr : in32 r) (k : MW Z Q 4 zN zG h2 ce sl 1624 [(3, iv i), (2, rfv (xd (zX Z)) 141), (1, rfv (xd (zX Z)) 0), (0, .ref b)] []) : MW Z Q 4 zN zG h ce sl 751 [(3, iv i), (2, rfv (xd (zX Z)) 141), (1, rfv (xd (zX Z)) 0), (0, .ref b)] [] := by
  refine mw_aload_n 2 C dL_law_751 rfl rfl ?_
  refine mw_aload_n 3 C dL_law_752 rfl rfl ?_
  refine mw_iload_n 0 C dL_law_753 rfl rfl ?_
  refine mw_iconst C dL_law_754 ?_
  refine mw_iadd C dL_law_755 ?_
  refine mw_sld C dL_law_756 hX hbl hbA hL (by omega) ?_
  refine mw_callV (c := 0) [iv ((xs (i + 1).toNat).toInt)] [] C dL_law_757 (T_X11_run (zl Z) (zX Z) ((xs (i + 1).toNat).toInt) _ _ hx) rfl zn0 zk0 (by decide) rfl wd591 wd592 wd593 wd1 wd594 hd_X11_run rfl (by decide) (by decide) (Nat.le_of_ble_eq_true rfl) ⟨hR.1, hR.2⟩ ?_
  refine mw_aload_n 1 C dL_law_760 rfl rfl ?_
  refine mw_aload_n 3 C dL_law_761 rfl rfl ?_
  refine mw_iload_n 0 C dL_law_762 rfl rfl ?_
  refine mw_iconst C dL_law_763 ?_
  refine mw_iadd C dL_law_764 ?_
  refine mw_sld C dL_law_765 hX hbl hbA hL (by omega) ?_
  refine mw_callV (c := 141) [iv ((xs (i + 1).toNat).toInt)] [iv r] C dL_law_766 (T_X12_run (zl Z) (zX Z) ((xs (i + 1).toNat).toInt) _ _ hm) rfl zn141 zk141 (by decide) rfl wd1119 wd1120 wd1121 wd14 wd1122 hd_X12_run rfl (by decide) (by decide) (Nat.le_of_ble_eq_true rfl) ⟨hR.1, hR.2⟩ ?_
  refine mw_icmp_eq_t (tgt := 1624) C dL_law_769 (by decide) hr hr rfl ?_
  exact k
def Ob_run (RR : Nat → MH → Prop) : Prop := ∀ (n : Nat) (h : MH) (a1 : Int), n < 512 → RR n h → in32 a1 → ∃ (r : Int) (h1 h2 : MH), F_X11_run a1 h = some (r, h1) ∧ F_X12_run a1 h1 = some (r, h2) ∧ in32 r ∧ RR (n + 1) h2
theorem law_minutes {Z : ZT} {Q : State → Prop} {b L : Nat} {xs : Nat → Int32} {ce sl : Nat} (C : Cx Z cL_law 4 RL 40 (some .boolean)) (hR : ce ≤ (zR Z).cells ∧ sl ≤ (zR Z).slots) (hX : va_X b L xs (zs Z) (zs Z).heap) (hbl : b < (zs Z).heap.size) (hbA : ¬ zA (zX Z) b) (hL : L < 100000) {i : Int} (hi : 0 ≤ i ∧ i + 7 ≤ (L : Int)) {h h1 h2 : MH} {r : Int} (hx : F_X11_minutes ((xs (i + 1).toNat).toInt) ((xs (i + 2).toNat).toInt) h = some (r, h1)) (hm : F_X12_minutes ((xs (i + 1).toNat).toInt) ((xs (i + 2).toNat).toInt) h1 = some (r, h2)) (hr : in32 r) (k : MW Z Q 4 zN zG h2 ce sl 1624 [(3, iv i), (2, rfv (xd (zX Z)) 141), (1, rfv (xd (zX Z)) 0), (0, .ref b)] []) : MW Z Q 4 zN zG h ce sl 774 [(3, iv i), (2, rfv (xd (zX Z)) 141), (1, rfv (xd (zX Z)) 0), (0, .ref b)] [] := by
  refine mw_aload_n 2 C dL_law_774 rfl rfl ?_
  refine mw_aload_n 3 C dL_law_775 rfl rfl ?_
  refine mw_iload_n 0 C dL_law_776 rfl rfl ?_
  refine mw_iconst C dL_law_777 ?_
  refine mw_iadd C dL_law_778 ?_
  refine mw_sld C dL_law_779 hX hbl hbA hL (by omega) ?_
  refine mw_aload_n 3 C dL_law_780 rfl rfl ?_
  refine mw_iload_n 0 C dL_law_781 rfl rfl ?_
  refine mw_iconst C dL_law_782 ?_
  refine mw_iadd C dL_law_783 ?_
  refine mw_sld C dL_law_784 hX hbl hbA hL (by omega) ?_
  refine mw_callV (c := 0) [iv ((xs (i + 1).toNat).toInt), iv ((xs (i + 2).toNat).toInt)] [] C dL_law_785 (T_X11_minutes (zl Z) (zX Z) ((xs (i + 1).toNat).toInt) ((xs (i + 2).toNat).toInt) _ _ hx) rfl zn0 zk0 (by decide) rfl wd626 wd627 wd628 wd1 wd629 hd_X11_minutes rfl (by decide) (by decide) (Nat.le_of_ble_eq_true rfl) ⟨hR.1, hR.2⟩ ?_
  refine mw_aload_n 1 C dL_law_788 rfl rfl ?_
  refine mw_aload_n 3 C dL_law_789 rfl rfl ?_
  refine mw_iload_n 0 C dL_law_790 rfl rfl ?_
  refine mw_iconst C dL_law_791 ?_
  refine mw_iadd C dL_law_792 ?_
  refine mw_sld C dL_law_793 hX hbl hbA hL (by omega) ?_
  refine mw_aload_n 3 C dL_law_794 rfl rfl ?_
  refine mw_iload_n 0 C dL_law_795 rfl rfl ?_
  refine mw_iconst C dL_law_796 ?_
  refine mw_iadd C dL_law_797 ?_
  refine mw_sld C dL_law_798 hX hbl hbA hL (by omega) ?_
  refine mw_callV (c := 141) [iv ((xs (i + 1).toNat).toInt), iv ((xs (i + 2).toNat).toInt)] [iv r] C dL_law_799 (T_X12_minutes (zl Z) (zX Z) ((xs (i + 1).toNat).toInt) ((xs (i + 2).toNat).toInt) _ _ hm) rfl zn141 zk141 (by decide) rfl wd1148 wd1149 wd1150 wd14 wd1151 hd_X12_minutes rfl (by decide) (by decide) (Nat.le_of_ble_eq_true rfl) ⟨hR.1, hR.2⟩ ?_
  refine mw_icmp_eq_t (tgt := 1624) C dL_law_802 (by decide) hr hr rfl ?_
  exact k
def Ob_minutes (RR : Nat → MH → Prop) : Prop := ∀ (n : Nat) (h : MH) (a1 a2 : Int), n < 512 → RR n h → in32 a1 → in32 a2 → ∃ (r : Int) (h1 h2 : MH), F_X11_minutes a1 a2 h = some (r, h1) ∧ F_X12_minutes a1 a2 h1 = some (r, h2) ∧ in32 r ∧ RR (n + 1) h2
theorem law_blame {Z : ZT} {Q : State → Prop} {b L : Nat} {xs : Nat → Int32} {ce sl : Nat} (C : Cx Z cL_law 4 RL 40 (some .boolean)) (hR : ce ≤ (zR Z).cells ∧ sl ≤ (zR Z).slots) (hX : va_X b L xs (zs Z) (zs Z).heap) (hbl : b < (zs Z).heap.size) (hbA : ¬ zA (zX Z) b) (hL : L < 100000) {i : Int} (hi : 0 ≤ i ∧ i + 7 ≤ (L : Int)) {h h1 h2 : MH} {r : Int} (hx : F_X11_blame ((xs (i + 1).toNat).toInt) ((xs (i + 2).toNat).toInt) h = some (r, h1)) (hm : F_X12_blame ((xs (i + 1).toNat).toInt) ((xs (i + 2).toNat).toInt) h1 = some (r, h2)) (hr : in32 r) (k : MW Z Q 4 zN zG h2 ce sl 1624 [(3, iv i), (2, rfv (xd (zX Z)) 141), (1, rfv (xd (zX Z)) 0), (0, .ref b)] []) : MW Z Q 4 zN zG h ce sl 807 [(3, iv i), (2, rfv (xd (zX Z)) 141), (1, rfv (xd (zX Z)) 0), (0, .ref b)] [] := by
  refine mw_aload_n 2 C dL_law_807 rfl rfl ?_
  refine mw_aload_n 3 C dL_law_808 rfl rfl ?_
  refine mw_iload_n 0 C dL_law_809 rfl rfl ?_
  refine mw_iconst C dL_law_810 ?_
  refine mw_iadd C dL_law_811 ?_
  refine mw_sld C dL_law_812 hX hbl hbA hL (by omega) ?_
  refine mw_aload_n 3 C dL_law_813 rfl rfl ?_
  refine mw_iload_n 0 C dL_law_814 rfl rfl ?_
  refine mw_iconst C dL_law_815 ?_
  refine mw_iadd C dL_law_816 ?_
  refine mw_sld C dL_law_817 hX hbl hbA hL (by omega) ?_
  refine mw_callV (c := 0) [iv ((xs (i + 1).toNat).toInt), iv ((xs (i + 2).toNat).toInt)] [] C dL_law_818 (T_X11_blame (zl Z) (zX Z) ((xs (i + 1).toNat).toInt) ((xs (i + 2).toNat).toInt) _ _ hx) rfl zn0 zk0 (by decide) rfl wd630 wd631 wd632 wd1 wd633 hd_X11_blame rfl (by decide) (by decide) (Nat.le_of_ble_eq_true rfl) ⟨hR.1, hR.2⟩ ?_
  refine mw_aload_n 1 C dL_law_821 rfl rfl ?_
  refine mw_aload_n 3 C dL_law_822 rfl rfl ?_
  refine mw_iload_n 0 C dL_law_823 rfl rfl ?_
  refine mw_iconst C dL_law_824 ?_
  refine mw_iadd C dL_law_825 ?_
  refine mw_sld C dL_law_826 hX hbl hbA hL (by omega) ?_
  refine mw_aload_n 3 C dL_law_827 rfl rfl ?_
  refine mw_iload_n 0 C dL_law_828 rfl rfl ?_
  refine mw_iconst C dL_law_829 ?_
  refine mw_iadd C dL_law_830 ?_
  refine mw_sld C dL_law_831 hX hbl hbA hL (by omega) ?_
  refine mw_callV (c := 141) [iv ((xs (i + 1).toNat).toInt), iv ((xs (i + 2).toNat).toInt)] [iv r] C dL_law_832 (T_X12_blame (zl Z) (zX Z) ((xs (i + 1).toNat).toInt) ((xs (i + 2).toNat).toInt) _ _ hm) rfl zn141 zk141 (by decide) rfl wd1152 wd1153 wd1154 wd14 wd1155 hd_X12_blame rfl (by decide) (by decide) (Nat.le_of_ble_eq_true rfl) ⟨hR.1, hR.2⟩ ?_
  refine mw_icmp_eq_t (tgt := 1624) C dL_law_835 (by decide) hr hr rfl ?_
  exact k
def Ob_blame (RR : Nat → MH → Prop) : Prop := ∀ (n : Nat) (h : MH) (a1 a2 : Int), n < 512 → RR n h → in32 a1 → in32 a2 → ∃ (r : Int) (h1 h2 : MH), F_X11_blame a1 a2 h = some (r, h1) ∧ F_X12_blame a1 a2 h1 = some (r, h2) ∧ in32 r ∧ RR (n + 1) h2
theorem law_share {Z : ZT} {Q : State → Prop} {b L : Nat} {xs : Nat → Int32} {ce sl : Nat} (C : Cx Z cL_law 4 RL 40 (some .boolean)) (hR : ce ≤ (zR Z).cells ∧ sl ≤ (zR Z).slots) (hX : va_X b L xs (zs Z) (zs Z).heap) (hbl : b < (zs Z).heap.size) (hbA : ¬ zA (zX Z) b) (hL : L < 100000) {i : Int} (hi : 0 ≤ i ∧ i + 7 ≤ (L : Int)) {h h1 h2 : MH} {r : Int} (hx : F_X11_share ((xs (i + 1).toNat).toInt) h = some (r, h1)) (hm : F_X12_share ((xs (i + 1).toNat).toInt) h1 = some (r, h2)) (hr : in32 r) (k : MW Z Q 4 zN zG h2 ce sl 1624 [(3, iv i), (2, rfv (xd (zX Z)) 141), (1, rfv (xd (zX Z)) 0), (0, .ref b)] []) : MW Z Q 4 zN zG h ce sl 840 [(3, iv i), (2, rfv (xd (zX Z)) 141), (1, rfv (xd (zX Z)) 0), (0, .ref b)] [] := by
  refine mw_aload_n 2 C dL_law_840 rfl rfl ?_
  refine mw_aload_n 3 C dL_law_841 rfl rfl ?_
  refine mw_iload_n 0 C dL_law_842 rfl rfl ?_
  refine mw_iconst C dL_law_843 ?_
  refine mw_iadd C dL_law_844 ?_
  refine mw_sld C dL_law_845 hX hbl hbA hL (by omega) ?_
  refine mw_callV (c := 0) [iv ((xs (i + 1).toNat).toInt)] [] C dL_law_846 (T_X11_share (zl Z) (zX Z) ((xs (i + 1).toNat).toInt) _ _ hx) rfl zn0 zk0 (by decide) rfl wd634 wd635 wd636 wd1 wd637 hd_X11_share rfl (by decide) (by decide) (Nat.le_of_ble_eq_true rfl) ⟨hR.1, hR.2⟩ ?_
  refine mw_aload_n 1 C dL_law_849 rfl rfl ?_
  refine mw_aload_n 3 C dL_law_850 rfl rfl ?_
  refine mw_iload_n 0 C dL_law_851 rfl rfl ?_
  refine mw_iconst C dL_law_852 ?_
  refine mw_iadd C dL_law_853 ?_
  refine mw_sld C dL_law_854 hX hbl hbA hL (by omega) ?_
  refine mw_callV (c := 141) [iv ((xs (i + 1).toNat).toInt)] [iv r] C dL_law_855 (T_X12_share (zl Z) (zX Z) ((xs (i + 1).toNat).toInt) _ _ hm) rfl zn141 zk141 (by decide) rfl wd1156 wd1157 wd1158 wd14 wd1159 hd_X12_share rfl (by decide) (by decide) (Nat.le_of_ble_eq_true rfl) ⟨hR.1, hR.2⟩ ?_
  refine mw_icmp_eq_t (tgt := 1624) C dL_law_858 (by decide) hr hr rfl ?_
  exact k
def Ob_share (RR : Nat → MH → Prop) : Prop := ∀ (n : Nat) (h : MH) (a1 : Int), n < 512 → RR n h → in32 a1 → ∃ (r : Int) (h1 h2 : MH), F_X11_share a1 h = some (r, h1) ∧ F_X12_share a1 h1 = some (r, h2) ∧ in32 r ∧ RR (n + 1) h2
theorem law_tried {Z : ZT} {Q : State → Prop} {b L : Nat} {xs : Nat → Int32} {ce sl : Nat} (C : Cx Z cL_law 4 RL 40 (some .boolean)) (hR : ce ≤ (zR Z).cells ∧ sl ≤ (zR Z).slots) (hX : va_X b L xs (zs Z) (zs Z).heap) (hbl : b < (zs Z).heap.size) (hbA : ¬ zA (zX Z) b) (hL : L < 100000) {i : Int} (hi : 0 ≤ i ∧ i + 7 ≤ (L : Int)) {h h1 h2 : MH} {r : Int} (hx : F_X11_tried ((xs (i + 1).toNat).toInt) ((xs (i + 2).toNat).toInt) ((xs (i + 3).toNat).toInt) h = some (r, h1)) (hm : F_X12_tried ((xs (i + 1).toNat).toInt) ((xs (i + 2).toNat).toInt) ((xs (i + 3).toNat).toInt) h1 = some (r, h2)) (hr : in32 r) (k : MW Z Q 4 zN zG h2 ce sl 1624 [(3, iv i), (2, rfv (xd (zX Z)) 141), (1, rfv (xd (zX Z)) 0), (0, .ref b)] []) : MW Z Q 4 zN zG h ce sl 863 [(3, iv i), (2, rfv (xd (zX Z)) 141), (1, rfv (xd (zX Z)) 0), (0, .ref b)] [] := by
  refine mw_aload_n 2 C dL_law_863 rfl rfl ?_
  refine mw_aload_n 3 C dL_law_864 rfl rfl ?_
  refine mw_iload_n 0 C dL_law_865 rfl rfl ?_
  refine mw_iconst C dL_law_866 ?_
  refine mw_iadd C dL_law_867 ?_
  refine mw_sld C dL_law_868 hX hbl hbA hL (by omega) ?_
  refine mw_aload_n 3 C dL_law_869 rfl rfl ?_
  refine mw_iload_n 0 C dL_law_870 rfl rfl ?_
  refine mw_iconst C dL_law_871 ?_
  refine mw_iadd C dL_law_872 ?_
  refine mw_sld C dL_law_873 hX hbl hbA hL (by omega) ?_
  refine mw_aload_n 3 C dL_law_874 rfl rfl ?_
  refine mw_iload_n 0 C dL_law_875 rfl rfl ?_
  refine mw_iconst C dL_law_876 ?_
  refine mw_iadd C dL_law_877 ?_
  refine mw_sld C dL_law_878 hX hbl hbA hL (by omega) ?_
  refine mw_callV (c := 0) [iv ((xs (i + 1).toNat).toInt), iv ((xs (i + 2).toNat).toInt), iv ((xs (i + 3).toNat).toInt)] [] C dL_law_879 (T_X11_tried (zl Z) (zX Z) ((xs (i + 1).toNat).toInt) ((xs (i + 2).toNat).toInt) ((xs (i + 3).toNat).toInt) _ _ hx) rfl zn0 zk0 (by decide) rfl wd644 wd645 wd646 wd1 wd647 hd_X11_tried rfl (by decide) (by decide) (Nat.le_of_ble_eq_true rfl) ⟨hR.1, hR.2⟩ ?_
  refine mw_aload_n 1 C dL_law_882 rfl rfl ?_
  refine mw_aload_n 3 C dL_law_883 rfl rfl ?_
  refine mw_iload_n 0 C dL_law_884 rfl rfl ?_
  refine mw_iconst C dL_law_885 ?_
  refine mw_iadd C dL_law_886 ?_
  refine mw_sld C dL_law_887 hX hbl hbA hL (by omega) ?_
  refine mw_aload_n 3 C dL_law_888 rfl rfl ?_
  refine mw_iload_n 0 C dL_law_889 rfl rfl ?_
  refine mw_iconst C dL_law_890 ?_
  refine mw_iadd C dL_law_891 ?_
  refine mw_sld C dL_law_892 hX hbl hbA hL (by omega) ?_
  refine mw_aload_n 3 C dL_law_893 rfl rfl ?_
  refine mw_iload_n 0 C dL_law_894 rfl rfl ?_
  refine mw_iconst C dL_law_895 ?_
  refine mw_iadd C dL_law_896 ?_
  refine mw_sld C dL_law_897 hX hbl hbA hL (by omega) ?_
  refine mw_callV (c := 141) [iv ((xs (i + 1).toNat).toInt), iv ((xs (i + 2).toNat).toInt), iv ((xs (i + 3).toNat).toInt)] [iv r] C dL_law_898 (T_X12_tried (zl Z) (zX Z) ((xs (i + 1).toNat).toInt) ((xs (i + 2).toNat).toInt) ((xs (i + 3).toNat).toInt) _ _ hm) rfl zn141 zk141 (by decide) rfl wd1163 wd1164 wd1165 wd14 wd1166 hd_X12_tried rfl (by decide) (by decide) (Nat.le_of_ble_eq_true rfl) ⟨hR.1, hR.2⟩ ?_
  refine mw_icmp_eq_t (tgt := 1624) C dL_law_901 (by decide) hr hr rfl ?_
  exact k
def Ob_tried (RR : Nat → MH → Prop) : Prop := ∀ (n : Nat) (h : MH) (a1 a2 a3 : Int), n < 512 → RR n h → in32 a1 → in32 a2 → in32 a3 → ∃ (r : Int) (h1 h2 : MH), F_X11_tried a1 a2 a3 h = some (r, h1) ∧ F_X12_tried a1 a2 a3 h1 = some (r, h2) ∧ in32 r ∧ RR (n + 1) h2
theorem law_holder {Z : ZT} {Q : State → Prop} {b L : Nat} {xs : Nat → Int32} {ce sl : Nat} (C : Cx Z cL_law 4 RL 40 (some .boolean)) (hR : ce ≤ (zR Z).cells ∧ sl ≤ (zR Z).slots) (hX : va_X b L xs (zs Z) (zs Z).heap) (hbl : b < (zs Z).heap.size) (hbA : ¬ zA (zX Z) b) (hL : L < 100000) {i : Int} (hi : 0 ≤ i ∧ i + 7 ≤ (L : Int)) {h h1 h2 : MH} {r : Int} (hx : F_X11_holder ((xs (i + 1).toNat).toInt) ((xs (i + 2).toNat).toInt) h = some (r, h1)) (hm : F_X12_holder ((xs (i + 1).toNat).toInt) ((xs (i + 2).toNat).toInt) h1 = some (r, h2)) (hr : in32 r) (k : MW Z Q 4 zN zG h2 ce sl 1624 [(3, iv i), (2, rfv (xd (zX Z)) 141), (1, rfv (xd (zX Z)) 0), (0, .ref b)] []) : MW Z Q 4 zN zG h ce sl 906 [(3, iv i), (2, rfv (xd (zX Z)) 141), (1, rfv (xd (zX Z)) 0), (0, .ref b)] [] := by
  refine mw_aload_n 2 C dL_law_906 rfl rfl ?_
  refine mw_aload_n 3 C dL_law_907 rfl rfl ?_
  refine mw_iload_n 0 C dL_law_908 rfl rfl ?_
  refine mw_iconst C dL_law_909 ?_
  refine mw_iadd C dL_law_910 ?_
  refine mw_sld C dL_law_911 hX hbl hbA hL (by omega) ?_
  refine mw_aload_n 3 C dL_law_912 rfl rfl ?_
  refine mw_iload_n 0 C dL_law_913 rfl rfl ?_
  refine mw_iconst C dL_law_914 ?_
  refine mw_iadd C dL_law_915 ?_
  refine mw_sld C dL_law_916 hX hbl hbA hL (by omega) ?_
  refine mw_callV (c := 0) [iv ((xs (i + 1).toNat).toInt), iv ((xs (i + 2).toNat).toInt)] [] C dL_law_917 (T_X11_holder (zl Z) (zX Z) ((xs (i + 1).toNat).toInt) ((xs (i + 2).toNat).toInt) _ _ hx) rfl zn0 zk0 (by decide) rfl wd658 wd659 wd660 wd1 wd661 hd_X11_holder rfl (by decide) (by decide) (Nat.le_of_ble_eq_true rfl) ⟨hR.1, hR.2⟩ ?_
  refine mw_aload_n 1 C dL_law_920 rfl rfl ?_
  refine mw_aload_n 3 C dL_law_921 rfl rfl ?_
  refine mw_iload_n 0 C dL_law_922 rfl rfl ?_
  refine mw_iconst C dL_law_923 ?_
  refine mw_iadd C dL_law_924 ?_
  refine mw_sld C dL_law_925 hX hbl hbA hL (by omega) ?_
  refine mw_aload_n 3 C dL_law_926 rfl rfl ?_
  refine mw_iload_n 0 C dL_law_927 rfl rfl ?_
  refine mw_iconst C dL_law_928 ?_
  refine mw_iadd C dL_law_929 ?_
  refine mw_sld C dL_law_930 hX hbl hbA hL (by omega) ?_
  refine mw_callV (c := 141) [iv ((xs (i + 1).toNat).toInt), iv ((xs (i + 2).toNat).toInt)] [iv r] C dL_law_931 (T_X12_holder (zl Z) (zX Z) ((xs (i + 1).toNat).toInt) ((xs (i + 2).toNat).toInt) _ _ hm) rfl zn141 zk141 (by decide) rfl wd1174 wd1175 wd1176 wd14 wd1177 hd_X12_holder rfl (by decide) (by decide) (Nat.le_of_ble_eq_true rfl) ⟨hR.1, hR.2⟩ ?_
  refine mw_icmp_eq_t (tgt := 1624) C dL_law_934 (by decide) hr hr rfl ?_
  exact k
def Ob_holder (RR : Nat → MH → Prop) : Prop := ∀ (n : Nat) (h : MH) (a1 a2 : Int), n < 512 → RR n h → in32 a1 → in32 a2 → ∃ (r : Int) (h1 h2 : MH), F_X11_holder a1 a2 h = some (r, h1) ∧ F_X12_holder a1 a2 h1 = some (r, h2) ∧ in32 r ∧ RR (n + 1) h2
theorem law_gained {Z : ZT} {Q : State → Prop} {b L : Nat} {xs : Nat → Int32} {ce sl : Nat} (C : Cx Z cL_law 4 RL 40 (some .boolean)) (hR : ce ≤ (zR Z).cells ∧ sl ≤ (zR Z).slots) (hX : va_X b L xs (zs Z) (zs Z).heap) (hbl : b < (zs Z).heap.size) (hbA : ¬ zA (zX Z) b) (hL : L < 100000) {i : Int} (hi : 0 ≤ i ∧ i + 7 ≤ (L : Int)) {h h1 h2 : MH} {r : Int} (hx : F_X11_gained h = some (r, h1)) (hm : F_X12_gained h1 = some (r, h2)) (hr : in32 r) (k : MW Z Q 4 zN zG h2 ce sl 1624 [(3, iv i), (2, rfv (xd (zX Z)) 141), (1, rfv (xd (zX Z)) 0), (0, .ref b)] []) : MW Z Q 4 zN zG h ce sl 939 [(3, iv i), (2, rfv (xd (zX Z)) 141), (1, rfv (xd (zX Z)) 0), (0, .ref b)] [] := by
  refine mw_aload_n 2 C dL_law_939 rfl rfl ?_
  refine mw_callV (c := 0) [] [] C dL_law_940 (T_X11_gained (zl Z) (zX Z) _ _ hx) rfl zn0 zk0 (by decide) rfl wd672 wd673 wd674 wd1 wd675 hd_X11_gained rfl (by decide) (by decide) (Nat.le_of_ble_eq_true rfl) ⟨hR.1, hR.2⟩ ?_
  refine mw_aload_n 1 C dL_law_943 rfl rfl ?_
  refine mw_callV (c := 141) [] [iv r] C dL_law_944 (T_X12_gained (zl Z) (zX Z) _ _ hm) rfl zn141 zk141 (by decide) rfl wd1178 wd1179 wd1180 wd14 wd1181 hd_X12_gained rfl (by decide) (by decide) (Nat.le_of_ble_eq_true rfl) ⟨hR.1, hR.2⟩ ?_
  refine mw_icmp_eq_t (tgt := 1624) C dL_law_947 (by decide) hr hr rfl ?_
  exact k
def Ob_gained (RR : Nat → MH → Prop) : Prop := ∀ (n : Nat) (h : MH), n < 512 → RR n h → ∃ (r : Int) (h1 h2 : MH), F_X11_gained  h = some (r, h1) ∧ F_X12_gained  h1 = some (r, h2) ∧ in32 r ∧ RR (n + 1) h2
theorem law_shared {Z : ZT} {Q : State → Prop} {b L : Nat} {xs : Nat → Int32} {ce sl : Nat} (C : Cx Z cL_law 4 RL 40 (some .boolean)) (hR : ce ≤ (zR Z).cells ∧ sl ≤ (zR Z).slots) (hX : va_X b L xs (zs Z) (zs Z).heap) (hbl : b < (zs Z).heap.size) (hbA : ¬ zA (zX Z) b) (hL : L < 100000) {i : Int} (hi : 0 ≤ i ∧ i + 7 ≤ (L : Int)) {h h1 h2 : MH} {r : Int} (hx : F_X11_shared ((xs (i + 1).toNat).toInt) ((xs (i + 2).toNat).toInt) ((xs (i + 3).toNat).toInt) h = some (r, h1)) (hm : F_X12_shared ((xs (i + 1).toNat).toInt) ((xs (i + 2).toNat).toInt) ((xs (i + 3).toNat).toInt) h1 = some (r, h2)) (hr : in32 r) (k : MW Z Q 4 zN zG h2 ce sl 1624 [(3, iv i), (2, rfv (xd (zX Z)) 141), (1, rfv (xd (zX Z)) 0), (0, .ref b)] []) : MW Z Q 4 zN zG h ce sl 952 [(3, iv i), (2, rfv (xd (zX Z)) 141), (1, rfv (xd (zX Z)) 0), (0, .ref b)] [] := by
  refine mw_aload_n 2 C dL_law_952 rfl rfl ?_
  refine mw_aload_n 3 C dL_law_953 rfl rfl ?_
  refine mw_iload_n 0 C dL_law_954 rfl rfl ?_
  refine mw_iconst C dL_law_955 ?_
  refine mw_iadd C dL_law_956 ?_
  refine mw_sld C dL_law_957 hX hbl hbA hL (by omega) ?_
  refine mw_aload_n 3 C dL_law_958 rfl rfl ?_
  refine mw_iload_n 0 C dL_law_959 rfl rfl ?_
  refine mw_iconst C dL_law_960 ?_
  refine mw_iadd C dL_law_961 ?_
  refine mw_sld C dL_law_962 hX hbl hbA hL (by omega) ?_
  refine mw_aload_n 3 C dL_law_963 rfl rfl ?_
  refine mw_iload_n 0 C dL_law_964 rfl rfl ?_
  refine mw_iconst C dL_law_965 ?_
  refine mw_iadd C dL_law_966 ?_
  refine mw_sld C dL_law_967 hX hbl hbA hL (by omega) ?_
  refine mw_callV (c := 0) [iv ((xs (i + 1).toNat).toInt), iv ((xs (i + 2).toNat).toInt), iv ((xs (i + 3).toNat).toInt)] [] C dL_law_968 (T_X11_shared (zl Z) (zX Z) ((xs (i + 1).toNat).toInt) ((xs (i + 2).toNat).toInt) ((xs (i + 3).toNat).toInt) _ _ hx) rfl zn0 zk0 (by decide) rfl wd676 wd677 wd678 wd1 wd679 hd_X11_shared rfl (by decide) (by decide) (Nat.le_of_ble_eq_true rfl) ⟨hR.1, hR.2⟩ ?_
  refine mw_aload_n 1 C dL_law_971 rfl rfl ?_
  refine mw_aload_n 3 C dL_law_972 rfl rfl ?_
  refine mw_iload_n 0 C dL_law_973 rfl rfl ?_
  refine mw_iconst C dL_law_974 ?_
  refine mw_iadd C dL_law_975 ?_
  refine mw_sld C dL_law_976 hX hbl hbA hL (by omega) ?_
  refine mw_aload_n 3 C dL_law_977 rfl rfl ?_
  refine mw_iload_n 0 C dL_law_978 rfl rfl ?_
  refine mw_iconst C dL_law_979 ?_
  refine mw_iadd C dL_law_980 ?_
  refine mw_sld C dL_law_981 hX hbl hbA hL (by omega) ?_
  refine mw_aload_n 3 C dL_law_982 rfl rfl ?_
  refine mw_iload_n 0 C dL_law_983 rfl rfl ?_
  refine mw_iconst C dL_law_984 ?_
  refine mw_iadd C dL_law_985 ?_
  refine mw_sld C dL_law_986 hX hbl hbA hL (by omega) ?_
  refine mw_callV (c := 141) [iv ((xs (i + 1).toNat).toInt), iv ((xs (i + 2).toNat).toInt), iv ((xs (i + 3).toNat).toInt)] [iv r] C dL_law_987 (T_X12_shared (zl Z) (zX Z) ((xs (i + 1).toNat).toInt) ((xs (i + 2).toNat).toInt) ((xs (i + 3).toNat).toInt) _ _ hm) rfl zn141 zk141 (by decide) rfl wd1194 wd1195 wd1196 wd14 wd1197 hd_X12_shared rfl (by decide) (by decide) (Nat.le_of_ble_eq_true rfl) ⟨hR.1, hR.2⟩ ?_
  refine mw_icmp_eq_t (tgt := 1624) C dL_law_990 (by decide) hr hr rfl ?_
  exact k
def Ob_shared (RR : Nat → MH → Prop) : Prop := ∀ (n : Nat) (h : MH) (a1 a2 a3 : Int), n < 512 → RR n h → in32 a1 → in32 a2 → in32 a3 → ∃ (r : Int) (h1 h2 : MH), F_X11_shared a1 a2 a3 h = some (r, h1) ∧ F_X12_shared a1 a2 a3 h1 = some (r, h2) ∧ in32 r ∧ RR (n + 1) h2
theorem law_unit {Z : ZT} {Q : State → Prop} {b L : Nat} {xs : Nat → Int32} {ce sl : Nat} (C : Cx Z cL_law 4 RL 40 (some .boolean)) (hR : ce ≤ (zR Z).cells ∧ sl ≤ (zR Z).slots) (hX : va_X b L xs (zs Z) (zs Z).heap) (hbl : b < (zs Z).heap.size) (hbA : ¬ zA (zX Z) b) (hL : L < 100000) {i : Int} (hi : 0 ≤ i ∧ i + 7 ≤ (L : Int)) {h h1 h2 : MH} {r : Int} (hx : F_X11_unit ((xs (i + 1).toNat).toInt) h = some (r, h1)) (hm : F_X12_unit ((xs (i + 1).toNat).toInt) h1 = some (r, h2)) (hr : in32 r) (k : MW Z Q 4 zN zG h2 ce sl 1624 [(3, iv i), (2, rfv (xd (zX Z)) 141), (1, rfv (xd (zX Z)) 0), (0, .ref b)] []) : MW Z Q 4 zN zG h ce sl 995 [(3, iv i), (2, rfv (xd (zX Z)) 141), (1, rfv (xd (zX Z)) 0), (0, .ref b)] [] := by
  refine mw_aload_n 2 C dL_law_995 rfl rfl ?_
  refine mw_aload_n 3 C dL_law_996 rfl rfl ?_
  refine mw_iload_n 0 C dL_law_997 rfl rfl ?_
  refine mw_iconst C dL_law_998 ?_
  refine mw_iadd C dL_law_999 ?_
  refine mw_sld C dL_law_1000 hX hbl hbA hL (by omega) ?_
  refine mw_callV (c := 0) [iv ((xs (i + 1).toNat).toInt)] [] C dL_law_1001 (T_X11_unit (zl Z) (zX Z) ((xs (i + 1).toNat).toInt) _ _ hx) rfl zn0 zk0 (by decide) rfl wd695 wd696 wd697 wd1 wd698 hd_X11_unit rfl (by decide) (by decide) (Nat.le_of_ble_eq_true rfl) ⟨hR.1, hR.2⟩ ?_
  refine mw_aload_n 1 C dL_law_1004 rfl rfl ?_
  refine mw_aload_n 3 C dL_law_1005 rfl rfl ?_
  refine mw_iload_n 0 C dL_law_1006 rfl rfl ?_
  refine mw_iconst C dL_law_1007 ?_
  refine mw_iadd C dL_law_1008 ?_
  refine mw_sld C dL_law_1009 hX hbl hbA hL (by omega) ?_
  refine mw_callV (c := 141) [iv ((xs (i + 1).toNat).toInt)] [iv r] C dL_law_1010 (T_X12_unit (zl Z) (zX Z) ((xs (i + 1).toNat).toInt) _ _ hm) rfl zn141 zk141 (by decide) rfl wd1198 wd1199 wd1200 wd14 wd1201 hd_X12_unit rfl (by decide) (by decide) (Nat.le_of_ble_eq_true rfl) ⟨hR.1, hR.2⟩ ?_
  refine mw_icmp_eq_t (tgt := 1624) C dL_law_1013 (by decide) hr hr rfl ?_
  exact k
def Ob_unit (RR : Nat → MH → Prop) : Prop := ∀ (n : Nat) (h : MH) (a1 : Int), n < 512 → RR n h → in32 a1 → ∃ (r : Int) (h1 h2 : MH), F_X11_unit a1 h = some (r, h1) ∧ F_X12_unit a1 h1 = some (r, h2) ∧ in32 r ∧ RR (n + 1) h2
theorem law_waits {Z : ZT} {Q : State → Prop} {b L : Nat} {xs : Nat → Int32} {ce sl : Nat} (C : Cx Z cL_law 4 RL 40 (some .boolean)) (hR : ce ≤ (zR Z).cells ∧ sl ≤ (zR Z).slots) (hX : va_X b L xs (zs Z) (zs Z).heap) (hbl : b < (zs Z).heap.size) (hbA : ¬ zA (zX Z) b) (hL : L < 100000) {i : Int} (hi : 0 ≤ i ∧ i + 7 ≤ (L : Int)) {h h1 h2 : MH} {r : Int} (hx : F_X11_waits ((xs (i + 1).toNat).toInt) ((xs (i + 2).toNat).toInt) ((xs (i + 3).toNat).toInt) h = some (r, h1)) (hm : F_X12_waits ((xs (i + 1).toNat).toInt) ((xs (i + 2).toNat).toInt) ((xs (i + 3).toNat).toInt) h1 = some (r, h2)) (hr : in32 r) (k : MW Z Q 4 zN zG h2 ce sl 1624 [(3, iv i), (2, rfv (xd (zX Z)) 141), (1, rfv (xd (zX Z)) 0), (0, .ref b)] []) : MW Z Q 4 zN zG h ce sl 1018 [(3, iv i), (2, rfv (xd (zX Z)) 141), (1, rfv (xd (zX Z)) 0), (0, .ref b)] [] := by
  refine mw_aload_n 2 C dL_law_1018 rfl rfl ?_
  refine mw_aload_n 3 C dL_law_1019 rfl rfl ?_
  refine mw_iload_n 0 C dL_law_1020 rfl rfl ?_
  refine mw_iconst C dL_law_1021 ?_
  refine mw_iadd C dL_law_1022 ?_
  refine mw_sld C dL_law_1023 hX hbl hbA hL (by omega) ?_
  refine mw_aload_n 3 C dL_law_1024 rfl rfl ?_
  refine mw_iload_n 0 C dL_law_1025 rfl rfl ?_
  refine mw_iconst C dL_law_1026 ?_
  refine mw_iadd C dL_law_1027 ?_
  refine mw_sld C dL_law_1028 hX hbl hbA hL (by omega) ?_
  refine mw_aload_n 3 C dL_law_1029 rfl rfl ?_
  refine mw_iload_n 0 C dL_law_1030 rfl rfl ?_
  refine mw_iconst C dL_law_1031 ?_
  refine mw_iadd C dL_law_1032 ?_
  refine mw_sld C dL_law_1033 hX hbl hbA hL (by omega) ?_
  refine mw_callV (c := 0) [iv ((xs (i + 1).toNat).toInt), iv ((xs (i + 2).toNat).toInt), iv ((xs (i + 3).toNat).toInt)] [] C dL_law_1034 (T_X11_waits (zl Z) (zX Z) ((xs (i + 1).toNat).toInt) ((xs (i + 2).toNat).toInt) ((xs (i + 3).toNat).toInt) _ _ hx) rfl zn0 zk0 (by decide) rfl wd699 wd700 wd701 wd1 wd702 hd_X11_waits rfl (by decide) (by decide) (Nat.le_of_ble_eq_true rfl) ⟨hR.1, hR.2⟩ ?_
  refine mw_aload_n 1 C dL_law_1037 rfl rfl ?_
  refine mw_aload_n 3 C dL_law_1038 rfl rfl ?_
  refine mw_iload_n 0 C dL_law_1039 rfl rfl ?_
  refine mw_iconst C dL_law_1040 ?_
  refine mw_iadd C dL_law_1041 ?_
  refine mw_sld C dL_law_1042 hX hbl hbA hL (by omega) ?_
  refine mw_aload_n 3 C dL_law_1043 rfl rfl ?_
  refine mw_iload_n 0 C dL_law_1044 rfl rfl ?_
  refine mw_iconst C dL_law_1045 ?_
  refine mw_iadd C dL_law_1046 ?_
  refine mw_sld C dL_law_1047 hX hbl hbA hL (by omega) ?_
  refine mw_aload_n 3 C dL_law_1048 rfl rfl ?_
  refine mw_iload_n 0 C dL_law_1049 rfl rfl ?_
  refine mw_iconst C dL_law_1050 ?_
  refine mw_iadd C dL_law_1051 ?_
  refine mw_sld C dL_law_1052 hX hbl hbA hL (by omega) ?_
  refine mw_callV (c := 141) [iv ((xs (i + 1).toNat).toInt), iv ((xs (i + 2).toNat).toInt), iv ((xs (i + 3).toNat).toInt)] [iv r] C dL_law_1053 (T_X12_waits (zl Z) (zX Z) ((xs (i + 1).toNat).toInt) ((xs (i + 2).toNat).toInt) ((xs (i + 3).toNat).toInt) _ _ hm) rfl zn141 zk141 (by decide) rfl wd1182 wd1183 wd1184 wd14 wd1185 hd_X12_waits rfl (by decide) (by decide) (Nat.le_of_ble_eq_true rfl) ⟨hR.1, hR.2⟩ ?_
  refine mw_icmp_eq_t (tgt := 1624) C dL_law_1056 (by decide) hr hr rfl ?_
  exact k
def Ob_waits (RR : Nat → MH → Prop) : Prop := ∀ (n : Nat) (h : MH) (a1 a2 a3 : Int), n < 512 → RR n h → in32 a1 → in32 a2 → in32 a3 → ∃ (r : Int) (h1 h2 : MH), F_X11_waits a1 a2 a3 h = some (r, h1) ∧ F_X12_waits a1 a2 a3 h1 = some (r, h2) ∧ in32 r ∧ RR (n + 1) h2
theorem law_unwaited {Z : ZT} {Q : State → Prop} {b L : Nat} {xs : Nat → Int32} {ce sl : Nat} (C : Cx Z cL_law 4 RL 40 (some .boolean)) (hR : ce ≤ (zR Z).cells ∧ sl ≤ (zR Z).slots) (hX : va_X b L xs (zs Z) (zs Z).heap) (hbl : b < (zs Z).heap.size) (hbA : ¬ zA (zX Z) b) (hL : L < 100000) {i : Int} (hi : 0 ≤ i ∧ i + 7 ≤ (L : Int)) {h h1 h2 : MH} {r : Int} (hx : F_X11_unwaited ((xs (i + 1).toNat).toInt) ((xs (i + 2).toNat).toInt) h = some (r, h1)) (hm : F_X12_unwaited ((xs (i + 1).toNat).toInt) ((xs (i + 2).toNat).toInt) h1 = some (r, h2)) (hr : in32 r) (k : MW Z Q 4 zN zG h2 ce sl 1624 [(3, iv i), (2, rfv (xd (zX Z)) 141), (1, rfv (xd (zX Z)) 0), (0, .ref b)] []) : MW Z Q 4 zN zG h ce sl 1061 [(3, iv i), (2, rfv (xd (zX Z)) 141), (1, rfv (xd (zX Z)) 0), (0, .ref b)] [] := by
  refine mw_aload_n 2 C dL_law_1061 rfl rfl ?_
  refine mw_aload_n 3 C dL_law_1062 rfl rfl ?_
  refine mw_iload_n 0 C dL_law_1063 rfl rfl ?_
  refine mw_iconst C dL_law_1064 ?_
  refine mw_iadd C dL_law_1065 ?_
  refine mw_sld C dL_law_1066 hX hbl hbA hL (by omega) ?_
  refine mw_aload_n 3 C dL_law_1067 rfl rfl ?_
  refine mw_iload_n 0 C dL_law_1068 rfl rfl ?_
  refine mw_iconst C dL_law_1069 ?_
  refine mw_iadd C dL_law_1070 ?_
  refine mw_sld C dL_law_1071 hX hbl hbA hL (by omega) ?_
  refine mw_callV (c := 0) [iv ((xs (i + 1).toNat).toInt), iv ((xs (i + 2).toNat).toInt)] [] C dL_law_1072 (T_X11_unwaited (zl Z) (zX Z) ((xs (i + 1).toNat).toInt) ((xs (i + 2).toNat).toInt) _ _ hx) rfl zn0 zk0 (by decide) rfl wd708 wd709 wd710 wd1 wd711 hd_X11_unwaited rfl (by decide) (by decide) (Nat.le_of_ble_eq_true rfl) ⟨hR.1, hR.2⟩ ?_
  refine mw_aload_n 1 C dL_law_1075 rfl rfl ?_
  refine mw_aload_n 3 C dL_law_1076 rfl rfl ?_
  refine mw_iload_n 0 C dL_law_1077 rfl rfl ?_
  refine mw_iconst C dL_law_1078 ?_
  refine mw_iadd C dL_law_1079 ?_
  refine mw_sld C dL_law_1080 hX hbl hbA hL (by omega) ?_
  refine mw_aload_n 3 C dL_law_1081 rfl rfl ?_
  refine mw_iload_n 0 C dL_law_1082 rfl rfl ?_
  refine mw_iconst C dL_law_1083 ?_
  refine mw_iadd C dL_law_1084 ?_
  refine mw_sld C dL_law_1085 hX hbl hbA hL (by omega) ?_
  refine mw_callV (c := 141) [iv ((xs (i + 1).toNat).toInt), iv ((xs (i + 2).toNat).toInt)] [iv r] C dL_law_1086 (T_X12_unwaited (zl Z) (zX Z) ((xs (i + 1).toNat).toInt) ((xs (i + 2).toNat).toInt) _ _ hm) rfl zn141 zk141 (by decide) rfl wd1189 wd1190 wd1191 wd14 wd1192 hd_X12_unwaited rfl (by decide) (by decide) (Nat.le_of_ble_eq_true rfl) ⟨hR.1, hR.2⟩ ?_
  refine mw_icmp_eq_t (tgt := 1624) C dL_law_1089 (by decide) hr hr rfl ?_
  exact k
def Ob_unwaited (RR : Nat → MH → Prop) : Prop := ∀ (n : Nat) (h : MH) (a1 a2 : Int), n < 512 → RR n h → in32 a1 → in32 a2 → ∃ (r : Int) (h1 h2 : MH), F_X11_unwaited a1 a2 h = some (r, h1) ∧ F_X12_unwaited a1 a2 h1 = some (r, h2) ∧ in32 r ∧ RR (n + 1) h2
theorem law_work {Z : ZT} {Q : State → Prop} {b L : Nat} {xs : Nat → Int32} {ce sl : Nat} (C : Cx Z cL_law 4 RL 40 (some .boolean)) (hR : ce ≤ (zR Z).cells ∧ sl ≤ (zR Z).slots) (hX : va_X b L xs (zs Z) (zs Z).heap) (hbl : b < (zs Z).heap.size) (hbA : ¬ zA (zX Z) b) (hL : L < 100000) {i : Int} (hi : 0 ≤ i ∧ i + 7 ≤ (L : Int)) {h h1 h2 : MH} {r : Int} (hx : F_X11_work h = some (r, h1)) (hm : F_X12_work h1 = some (r, h2)) (hr : in32 r) (k : MW Z Q 4 zN zG h2 ce sl 1624 [(3, iv i), (2, rfv (xd (zX Z)) 141), (1, rfv (xd (zX Z)) 0), (0, .ref b)] []) : MW Z Q 4 zN zG h ce sl 1094 [(3, iv i), (2, rfv (xd (zX Z)) 141), (1, rfv (xd (zX Z)) 0), (0, .ref b)] [] := by
  refine mw_aload_n 2 C dL_law_1094 rfl rfl ?_
  refine mw_callV (c := 0) [] [] C dL_law_1095 (T_X11_work (zl Z) (zX Z) _ _ hx) rfl zn0 zk0 (by decide) rfl wd712 wd713 wd714 wd1 wd715 hd_X11_work rfl (by decide) (by decide) (Nat.le_of_ble_eq_true rfl) ⟨hR.1, hR.2⟩ ?_
  refine mw_aload_n 1 C dL_law_1098 rfl rfl ?_
  refine mw_callV (c := 141) [] [iv r] C dL_law_1099 (T_X12_work (zl Z) (zX Z) _ _ hm) rfl zn141 zk141 (by decide) rfl wd1202 wd1203 wd1204 wd14 wd1205 hd_X12_work rfl (by decide) (by decide) (Nat.le_of_ble_eq_true rfl) ⟨hR.1, hR.2⟩ ?_
  refine mw_icmp_eq_t (tgt := 1624) C dL_law_1102 (by decide) hr hr rfl ?_
  exact k
def Ob_work (RR : Nat → MH → Prop) : Prop := ∀ (n : Nat) (h : MH), n < 512 → RR n h → ∃ (r : Int) (h1 h2 : MH), F_X11_work  h = some (r, h1) ∧ F_X12_work  h1 = some (r, h2) ∧ in32 r ∧ RR (n + 1) h2
theorem law_worked {Z : ZT} {Q : State → Prop} {b L : Nat} {xs : Nat → Int32} {ce sl : Nat} (C : Cx Z cL_law 4 RL 40 (some .boolean)) (hR : ce ≤ (zR Z).cells ∧ sl ≤ (zR Z).slots) (hX : va_X b L xs (zs Z) (zs Z).heap) (hbl : b < (zs Z).heap.size) (hbA : ¬ zA (zX Z) b) (hL : L < 100000) {i : Int} (hi : 0 ≤ i ∧ i + 7 ≤ (L : Int)) {h h1 h2 : MH} {r : Int} (hx : F_X11_worked ((xs (i + 1).toNat).toInt) h = some (r, h1)) (hm : F_X12_worked ((xs (i + 1).toNat).toInt) h1 = some (r, h2)) (hr : in32 r) (k : MW Z Q 4 zN zG h2 ce sl 1624 [(3, iv i), (2, rfv (xd (zX Z)) 141), (1, rfv (xd (zX Z)) 0), (0, .ref b)] []) : MW Z Q 4 zN zG h ce sl 1107 [(3, iv i), (2, rfv (xd (zX Z)) 141), (1, rfv (xd (zX Z)) 0), (0, .ref b)] [] := by
  refine mw_aload_n 2 C dL_law_1107 rfl rfl ?_
  refine mw_aload_n 3 C dL_law_1108 rfl rfl ?_
  refine mw_iload_n 0 C dL_law_1109 rfl rfl ?_
  refine mw_iconst C dL_law_1110 ?_
  refine mw_iadd C dL_law_1111 ?_
  refine mw_sld C dL_law_1112 hX hbl hbA hL (by omega) ?_
  refine mw_callV (c := 0) [iv ((xs (i + 1).toNat).toInt)] [] C dL_law_1113 (T_X11_worked (zl Z) (zX Z) ((xs (i + 1).toNat).toInt) _ _ hx) rfl zn0 zk0 (by decide) rfl wd741 wd742 wd743 wd1 wd744 hd_X11_worked rfl (by decide) (by decide) (Nat.le_of_ble_eq_true rfl) ⟨hR.1, hR.2⟩ ?_
  refine mw_aload_n 1 C dL_law_1116 rfl rfl ?_
  refine mw_aload_n 3 C dL_law_1117 rfl rfl ?_
  refine mw_iload_n 0 C dL_law_1118 rfl rfl ?_
  refine mw_iconst C dL_law_1119 ?_
  refine mw_iadd C dL_law_1120 ?_
  refine mw_sld C dL_law_1121 hX hbl hbA hL (by omega) ?_
  refine mw_callV (c := 141) [iv ((xs (i + 1).toNat).toInt)] [iv r] C dL_law_1122 (T_X12_worked (zl Z) (zX Z) ((xs (i + 1).toNat).toInt) _ _ hm) rfl zn141 zk141 (by decide) rfl wd1217 wd1218 wd1219 wd14 wd1220 hd_X12_worked rfl (by decide) (by decide) (Nat.le_of_ble_eq_true rfl) ⟨hR.1, hR.2⟩ ?_
  refine mw_icmp_eq_t (tgt := 1624) C dL_law_1125 (by decide) hr hr rfl ?_
  exact k
def Ob_worked (RR : Nat → MH → Prop) : Prop := ∀ (n : Nat) (h : MH) (a1 : Int), n < 512 → RR n h → in32 a1 → ∃ (r : Int) (h1 h2 : MH), F_X11_worked a1 h = some (r, h1) ∧ F_X12_worked a1 h1 = some (r, h2) ∧ in32 r ∧ RR (n + 1) h2
theorem law_heads {Z : ZT} {Q : State → Prop} {b L : Nat} {xs : Nat → Int32} {ce sl : Nat} (C : Cx Z cL_law 4 RL 40 (some .boolean)) (hR : ce ≤ (zR Z).cells ∧ sl ≤ (zR Z).slots) (hX : va_X b L xs (zs Z) (zs Z).heap) (hbl : b < (zs Z).heap.size) (hbA : ¬ zA (zX Z) b) (hL : L < 100000) {i : Int} (hi : 0 ≤ i ∧ i + 7 ≤ (L : Int)) {h h1 h2 : MH} {r : Int} (hx : F_X11_heads ((xs (i + 1).toNat).toInt) ((xs (i + 2).toNat).toInt) ((xs (i + 3).toNat).toInt) h = some (r, h1)) (hm : F_X12_heads ((xs (i + 1).toNat).toInt) ((xs (i + 2).toNat).toInt) ((xs (i + 3).toNat).toInt) h1 = some (r, h2)) (hr : in32 r) (k : MW Z Q 4 zN zG h2 ce sl 1624 [(3, iv i), (2, rfv (xd (zX Z)) 141), (1, rfv (xd (zX Z)) 0), (0, .ref b)] []) : MW Z Q 4 zN zG h ce sl 1130 [(3, iv i), (2, rfv (xd (zX Z)) 141), (1, rfv (xd (zX Z)) 0), (0, .ref b)] [] := by
  refine mw_aload_n 2 C dL_law_1130 rfl rfl ?_
  refine mw_aload_n 3 C dL_law_1131 rfl rfl ?_
  refine mw_iload_n 0 C dL_law_1132 rfl rfl ?_
  refine mw_iconst C dL_law_1133 ?_
  refine mw_iadd C dL_law_1134 ?_
  refine mw_sld C dL_law_1135 hX hbl hbA hL (by omega) ?_
  refine mw_aload_n 3 C dL_law_1136 rfl rfl ?_
  refine mw_iload_n 0 C dL_law_1137 rfl rfl ?_
  refine mw_iconst C dL_law_1138 ?_
  refine mw_iadd C dL_law_1139 ?_
  refine mw_sld C dL_law_1140 hX hbl hbA hL (by omega) ?_
  refine mw_aload_n 3 C dL_law_1141 rfl rfl ?_
  refine mw_iload_n 0 C dL_law_1142 rfl rfl ?_
  refine mw_iconst C dL_law_1143 ?_
  refine mw_iadd C dL_law_1144 ?_
  refine mw_sld C dL_law_1145 hX hbl hbA hL (by omega) ?_
  refine mw_callV (c := 0) [iv ((xs (i + 1).toNat).toInt), iv ((xs (i + 2).toNat).toInt), iv ((xs (i + 3).toNat).toInt)] [] C dL_law_1146 (T_X11_heads (zl Z) (zX Z) ((xs (i + 1).toNat).toInt) ((xs (i + 2).toNat).toInt) ((xs (i + 3).toNat).toInt) _ _ hx) rfl zn0 zk0 (by decide) rfl wd746 wd747 wd748 wd1 wd749 hd_X11_heads rfl (by decide) (by decide) (Nat.le_of_ble_eq_true rfl) ⟨hR.1, hR.2⟩ ?_
  refine mw_aload_n 1 C dL_law_1149 rfl rfl ?_
  refine mw_aload_n 3 C dL_law_1150 rfl rfl ?_
  refine mw_iload_n 0 C dL_law_1151 rfl rfl ?_
  refine mw_iconst C dL_law_1152 ?_
  refine mw_iadd C dL_law_1153 ?_
  refine mw_sld C dL_law_1154 hX hbl hbA hL (by omega) ?_
  refine mw_aload_n 3 C dL_law_1155 rfl rfl ?_
  refine mw_iload_n 0 C dL_law_1156 rfl rfl ?_
  refine mw_iconst C dL_law_1157 ?_
  refine mw_iadd C dL_law_1158 ?_
  refine mw_sld C dL_law_1159 hX hbl hbA hL (by omega) ?_
  refine mw_aload_n 3 C dL_law_1160 rfl rfl ?_
  refine mw_iload_n 0 C dL_law_1161 rfl rfl ?_
  refine mw_iconst C dL_law_1162 ?_
  refine mw_iadd C dL_law_1163 ?_
  refine mw_sld C dL_law_1164 hX hbl hbA hL (by omega) ?_
  refine mw_callV (c := 141) [iv ((xs (i + 1).toNat).toInt), iv ((xs (i + 2).toNat).toInt), iv ((xs (i + 3).toNat).toInt)] [iv r] C dL_law_1165 (T_X12_heads (zl Z) (zX Z) ((xs (i + 1).toNat).toInt) ((xs (i + 2).toNat).toInt) ((xs (i + 3).toNat).toInt) _ _ hm) rfl zn141 zk141 (by decide) rfl wd1221 wd1222 wd1223 wd14 wd1224 hd_X12_heads rfl (by decide) (by decide) (Nat.le_of_ble_eq_true rfl) ⟨hR.1, hR.2⟩ ?_
  refine mw_icmp_eq_t (tgt := 1624) C dL_law_1168 (by decide) hr hr rfl ?_
  exact k
def Ob_heads (RR : Nat → MH → Prop) : Prop := ∀ (n : Nat) (h : MH) (a1 a2 a3 : Int), n < 512 → RR n h → in32 a1 → in32 a2 → in32 a3 → ∃ (r : Int) (h1 h2 : MH), F_X11_heads a1 a2 a3 h = some (r, h1) ∧ F_X12_heads a1 a2 a3 h1 = some (r, h2) ∧ in32 r ∧ RR (n + 1) h2
theorem law_head {Z : ZT} {Q : State → Prop} {b L : Nat} {xs : Nat → Int32} {ce sl : Nat} (C : Cx Z cL_law 4 RL 40 (some .boolean)) (hR : ce ≤ (zR Z).cells ∧ sl ≤ (zR Z).slots) (hX : va_X b L xs (zs Z) (zs Z).heap) (hbl : b < (zs Z).heap.size) (hbA : ¬ zA (zX Z) b) (hL : L < 100000) {i : Int} (hi : 0 ≤ i ∧ i + 7 ≤ (L : Int)) {h h1 h2 : MH} {r : Int} (hx : F_X11_head ((xs (i + 1).toNat).toInt) h = some (r, h1)) (hm : F_X12_head ((xs (i + 1).toNat).toInt) h1 = some (r, h2)) (hr : in32 r) (k : MW Z Q 4 zN zG h2 ce sl 1624 [(3, iv i), (2, rfv (xd (zX Z)) 141), (1, rfv (xd (zX Z)) 0), (0, .ref b)] []) : MW Z Q 4 zN zG h ce sl 1173 [(3, iv i), (2, rfv (xd (zX Z)) 141), (1, rfv (xd (zX Z)) 0), (0, .ref b)] [] := by
  refine mw_aload_n 2 C dL_law_1173 rfl rfl ?_
  refine mw_aload_n 3 C dL_law_1174 rfl rfl ?_
  refine mw_iload_n 0 C dL_law_1175 rfl rfl ?_
  refine mw_iconst C dL_law_1176 ?_
  refine mw_iadd C dL_law_1177 ?_
  refine mw_sld C dL_law_1178 hX hbl hbA hL (by omega) ?_
  refine mw_callV (c := 0) [iv ((xs (i + 1).toNat).toInt)] [] C dL_law_1179 (T_X11_head (zl Z) (zX Z) ((xs (i + 1).toNat).toInt) _ _ hx) rfl zn0 zk0 (by decide) rfl wd782 wd783 wd784 wd1 wd785 hd_X11_head rfl (by decide) (by decide) (Nat.le_of_ble_eq_true rfl) ⟨hR.1, hR.2⟩ ?_
  refine mw_aload_n 1 C dL_law_1182 rfl rfl ?_
  refine mw_aload_n 3 C dL_law_1183 rfl rfl ?_
  refine mw_iload_n 0 C dL_law_1184 rfl rfl ?_
  refine mw_iconst C dL_law_1185 ?_
  refine mw_iadd C dL_law_1186 ?_
  refine mw_sld C dL_law_1187 hX hbl hbA hL (by omega) ?_
  refine mw_callV (c := 141) [iv ((xs (i + 1).toNat).toInt)] [iv r] C dL_law_1188 (T_X12_head (zl Z) (zX Z) ((xs (i + 1).toNat).toInt) _ _ hm) rfl zn141 zk141 (by decide) rfl wd1238 wd1239 wd1240 wd14 wd1241 hd_X12_head rfl (by decide) (by decide) (Nat.le_of_ble_eq_true rfl) ⟨hR.1, hR.2⟩ ?_
  refine mw_icmp_eq_t (tgt := 1624) C dL_law_1191 (by decide) hr hr rfl ?_
  exact k
def Ob_head (RR : Nat → MH → Prop) : Prop := ∀ (n : Nat) (h : MH) (a1 : Int), n < 512 → RR n h → in32 a1 → ∃ (r : Int) (h1 h2 : MH), F_X11_head a1 h = some (r, h1) ∧ F_X12_head a1 h1 = some (r, h2) ∧ in32 r ∧ RR (n + 1) h2
theorem law_brief {Z : ZT} {Q : State → Prop} {b L : Nat} {xs : Nat → Int32} {ce sl : Nat} (C : Cx Z cL_law 4 RL 40 (some .boolean)) (hR : ce ≤ (zR Z).cells ∧ sl ≤ (zR Z).slots) (hX : va_X b L xs (zs Z) (zs Z).heap) (hbl : b < (zs Z).heap.size) (hbA : ¬ zA (zX Z) b) (hL : L < 100000) {i : Int} (hi : 0 ≤ i ∧ i + 7 ≤ (L : Int)) {h h1 h2 : MH} {r : Int} (hx : F_X11_brief ((xs (i + 1).toNat).toInt) ((xs (i + 2).toNat).toInt) ((xs (i + 3).toNat).toInt) ((xs (i + 4).toNat).toInt) ((xs (i + 5).toNat).toInt) h = some (r, h1)) (hm : F_X12_brief ((xs (i + 1).toNat).toInt) ((xs (i + 2).toNat).toInt) ((xs (i + 3).toNat).toInt) ((xs (i + 4).toNat).toInt) ((xs (i + 5).toNat).toInt) h1 = some (r, h2)) (hr : in32 r) (k : MW Z Q 4 zN zG h2 ce sl 1624 [(3, iv i), (2, rfv (xd (zX Z)) 141), (1, rfv (xd (zX Z)) 0), (0, .ref b)] []) : MW Z Q 4 zN zG h ce sl 1196 [(3, iv i), (2, rfv (xd (zX Z)) 141), (1, rfv (xd (zX Z)) 0), (0, .ref b)] [] := by
  refine mw_aload_n 2 C dL_law_1196 rfl rfl ?_
  refine mw_aload_n 3 C dL_law_1197 rfl rfl ?_
  refine mw_iload_n 0 C dL_law_1198 rfl rfl ?_
  refine mw_iconst C dL_law_1199 ?_
  refine mw_iadd C dL_law_1200 ?_
  refine mw_sld C dL_law_1201 hX hbl hbA hL (by omega) ?_
  refine mw_aload_n 3 C dL_law_1202 rfl rfl ?_
  refine mw_iload_n 0 C dL_law_1203 rfl rfl ?_
  refine mw_iconst C dL_law_1204 ?_
  refine mw_iadd C dL_law_1205 ?_
  refine mw_sld C dL_law_1206 hX hbl hbA hL (by omega) ?_
  refine mw_aload_n 3 C dL_law_1207 rfl rfl ?_
  refine mw_iload_n 0 C dL_law_1208 rfl rfl ?_
  refine mw_iconst C dL_law_1209 ?_
  refine mw_iadd C dL_law_1210 ?_
  refine mw_sld C dL_law_1211 hX hbl hbA hL (by omega) ?_
  refine mw_aload_n 3 C dL_law_1212 rfl rfl ?_
  refine mw_iload_n 0 C dL_law_1213 rfl rfl ?_
  refine mw_iconst C dL_law_1214 ?_
  refine mw_iadd C dL_law_1215 ?_
  refine mw_sld C dL_law_1216 hX hbl hbA hL (by omega) ?_
  refine mw_aload_n 3 C dL_law_1217 rfl rfl ?_
  refine mw_iload_n 0 C dL_law_1218 rfl rfl ?_
  refine mw_iconst C dL_law_1219 ?_
  refine mw_iadd C dL_law_1220 ?_
  refine mw_sld C dL_law_1221 hX hbl hbA hL (by omega) ?_
  refine mw_callV (c := 0) [iv ((xs (i + 1).toNat).toInt), iv ((xs (i + 2).toNat).toInt), iv ((xs (i + 3).toNat).toInt), iv ((xs (i + 4).toNat).toInt), iv ((xs (i + 5).toNat).toInt)] [] C dL_law_1222 (T_X11_brief (zl Z) (zX Z) ((xs (i + 1).toNat).toInt) ((xs (i + 2).toNat).toInt) ((xs (i + 3).toNat).toInt) ((xs (i + 4).toNat).toInt) ((xs (i + 5).toNat).toInt) _ _ hx) rfl zn0 zk0 (by decide) rfl wd787 wd788 wd789 wd1 wd790 hd_X11_brief rfl (by decide) (by decide) (Nat.le_of_ble_eq_true rfl) ⟨hR.1, hR.2⟩ ?_
  refine mw_aload_n 1 C dL_law_1225 rfl rfl ?_
  refine mw_aload_n 3 C dL_law_1226 rfl rfl ?_
  refine mw_iload_n 0 C dL_law_1227 rfl rfl ?_
  refine mw_iconst C dL_law_1228 ?_
  refine mw_iadd C dL_law_1229 ?_
  refine mw_sld C dL_law_1230 hX hbl hbA hL (by omega) ?_
  refine mw_aload_n 3 C dL_law_1231 rfl rfl ?_
  refine mw_iload_n 0 C dL_law_1232 rfl rfl ?_
  refine mw_iconst C dL_law_1233 ?_
  refine mw_iadd C dL_law_1234 ?_
  refine mw_sld C dL_law_1235 hX hbl hbA hL (by omega) ?_
  refine mw_aload_n 3 C dL_law_1236 rfl rfl ?_
  refine mw_iload_n 0 C dL_law_1237 rfl rfl ?_
  refine mw_iconst C dL_law_1238 ?_
  refine mw_iadd C dL_law_1239 ?_
  refine mw_sld C dL_law_1240 hX hbl hbA hL (by omega) ?_
  refine mw_aload_n 3 C dL_law_1241 rfl rfl ?_
  refine mw_iload_n 0 C dL_law_1242 rfl rfl ?_
  refine mw_iconst C dL_law_1243 ?_
  refine mw_iadd C dL_law_1244 ?_
  refine mw_sld C dL_law_1245 hX hbl hbA hL (by omega) ?_
  refine mw_aload_n 3 C dL_law_1246 rfl rfl ?_
  refine mw_iload_n 0 C dL_law_1247 rfl rfl ?_
  refine mw_iconst C dL_law_1248 ?_
  refine mw_iadd C dL_law_1249 ?_
  refine mw_sld C dL_law_1250 hX hbl hbA hL (by omega) ?_
  refine mw_callV (c := 141) [iv ((xs (i + 1).toNat).toInt), iv ((xs (i + 2).toNat).toInt), iv ((xs (i + 3).toNat).toInt), iv ((xs (i + 4).toNat).toInt), iv ((xs (i + 5).toNat).toInt)] [iv r] C dL_law_1251 (T_X12_brief (zl Z) (zX Z) ((xs (i + 1).toNat).toInt) ((xs (i + 2).toNat).toInt) ((xs (i + 3).toNat).toInt) ((xs (i + 4).toNat).toInt) ((xs (i + 5).toNat).toInt) _ _ hm) rfl zn141 zk141 (by decide) rfl wd1242 wd1243 wd1244 wd14 wd1245 hd_X12_brief rfl (by decide) (by decide) (Nat.le_of_ble_eq_true rfl) ⟨hR.1, hR.2⟩ ?_
  refine mw_icmp_eq_t (tgt := 1624) C dL_law_1254 (by decide) hr hr rfl ?_
  exact k
def Ob_brief (RR : Nat → MH → Prop) : Prop := ∀ (n : Nat) (h : MH) (a1 a2 a3 a4 a5 : Int), n < 512 → RR n h → in32 a1 → in32 a2 → in32 a3 → in32 a4 → in32 a5 → ∃ (r : Int) (h1 h2 : MH), F_X11_brief a1 a2 a3 a4 a5 h = some (r, h1) ∧ F_X12_brief a1 a2 a3 a4 a5 h1 = some (r, h2) ∧ in32 r ∧ RR (n + 1) h2
theorem law_glass {Z : ZT} {Q : State → Prop} {b L : Nat} {xs : Nat → Int32} {ce sl : Nat} (C : Cx Z cL_law 4 RL 40 (some .boolean)) (hR : ce ≤ (zR Z).cells ∧ sl ≤ (zR Z).slots) (hX : va_X b L xs (zs Z) (zs Z).heap) (hbl : b < (zs Z).heap.size) (hbA : ¬ zA (zX Z) b) (hL : L < 100000) {i : Int} (hi : 0 ≤ i ∧ i + 7 ≤ (L : Int)) {h h1 h2 : MH} {r : Int} (hx : F_X11_glass ((xs (i + 1).toNat).toInt) ((xs (i + 2).toNat).toInt) h = some (r, h1)) (hm : F_X12_glass ((xs (i + 1).toNat).toInt) ((xs (i + 2).toNat).toInt) h1 = some (r, h2)) (hr : in32 r) (k : MW Z Q 4 zN zG h2 ce sl 1624 [(3, iv i), (2, rfv (xd (zX Z)) 141), (1, rfv (xd (zX Z)) 0), (0, .ref b)] []) : MW Z Q 4 zN zG h ce sl 1259 [(3, iv i), (2, rfv (xd (zX Z)) 141), (1, rfv (xd (zX Z)) 0), (0, .ref b)] [] := by
  refine mw_aload_n 2 C dL_law_1259 rfl rfl ?_
  refine mw_aload_n 3 C dL_law_1260 rfl rfl ?_
  refine mw_iload_n 0 C dL_law_1261 rfl rfl ?_
  refine mw_iconst C dL_law_1262 ?_
  refine mw_iadd C dL_law_1263 ?_
  refine mw_sld C dL_law_1264 hX hbl hbA hL (by omega) ?_
  refine mw_aload_n 3 C dL_law_1265 rfl rfl ?_
  refine mw_iload_n 0 C dL_law_1266 rfl rfl ?_
  refine mw_iconst C dL_law_1267 ?_
  refine mw_iadd C dL_law_1268 ?_
  refine mw_sld C dL_law_1269 hX hbl hbA hL (by omega) ?_
  refine mw_callV (c := 0) [iv ((xs (i + 1).toNat).toInt), iv ((xs (i + 2).toNat).toInt)] [] C dL_law_1270 (T_X11_glass (zl Z) (zX Z) ((xs (i + 1).toNat).toInt) ((xs (i + 2).toNat).toInt) _ _ hx) rfl zn0 zk0 (by decide) rfl wd798 wd799 wd800 wd1 wd801 hd_X11_glass rfl (by decide) (by decide) (Nat.le_of_ble_eq_true rfl) ⟨hR.1, hR.2⟩ ?_
  refine mw_aload_n 1 C dL_law_1273 rfl rfl ?_
  refine mw_aload_n 3 C dL_law_1274 rfl rfl ?_
  refine mw_iload_n 0 C dL_law_1275 rfl rfl ?_
  refine mw_iconst C dL_law_1276 ?_
  refine mw_iadd C dL_law_1277 ?_
  refine mw_sld C dL_law_1278 hX hbl hbA hL (by omega) ?_
  refine mw_aload_n 3 C dL_law_1279 rfl rfl ?_
  refine mw_iload_n 0 C dL_law_1280 rfl rfl ?_
  refine mw_iconst C dL_law_1281 ?_
  refine mw_iadd C dL_law_1282 ?_
  refine mw_sld C dL_law_1283 hX hbl hbA hL (by omega) ?_
  refine mw_callV (c := 141) [iv ((xs (i + 1).toNat).toInt), iv ((xs (i + 2).toNat).toInt)] [iv r] C dL_law_1284 (T_X12_glass (zl Z) (zX Z) ((xs (i + 1).toNat).toInt) ((xs (i + 2).toNat).toInt) _ _ hm) rfl zn141 zk141 (by decide) rfl wd1250 wd1251 wd1252 wd14 wd1253 hd_X12_glass rfl (by decide) (by decide) (Nat.le_of_ble_eq_true rfl) ⟨hR.1, hR.2⟩ ?_
  refine mw_icmp_eq_t (tgt := 1624) C dL_law_1287 (by decide) hr hr rfl ?_
  exact k
def Ob_glass (RR : Nat → MH → Prop) : Prop := ∀ (n : Nat) (h : MH) (a1 a2 : Int), n < 512 → RR n h → in32 a1 → in32 a2 → ∃ (r : Int) (h1 h2 : MH), F_X11_glass a1 a2 h = some (r, h1) ∧ F_X12_glass a1 a2 h1 = some (r, h2) ∧ in32 r ∧ RR (n + 1) h2
theorem law_order {Z : ZT} {Q : State → Prop} {b L : Nat} {xs : Nat → Int32} {ce sl : Nat} (C : Cx Z cL_law 4 RL 40 (some .boolean)) (hR : ce ≤ (zR Z).cells ∧ sl ≤ (zR Z).slots) (hX : va_X b L xs (zs Z) (zs Z).heap) (hbl : b < (zs Z).heap.size) (hbA : ¬ zA (zX Z) b) (hL : L < 100000) {i : Int} (hi : 0 ≤ i ∧ i + 7 ≤ (L : Int)) {h h1 h2 : MH} {r : Int} (hx : F_X11_order ((xs (i + 1).toNat).toInt) ((xs (i + 2).toNat).toInt) h = some (r, h1)) (hm : F_X12_order ((xs (i + 1).toNat).toInt) ((xs (i + 2).toNat).toInt) h1 = some (r, h2)) (hr : in32 r) (k : MW Z Q 4 zN zG h2 ce sl 1624 [(3, iv i), (2, rfv (xd (zX Z)) 141), (1, rfv (xd (zX Z)) 0), (0, .ref b)] []) : MW Z Q 4 zN zG h ce sl 1292 [(3, iv i), (2, rfv (xd (zX Z)) 141), (1, rfv (xd (zX Z)) 0), (0, .ref b)] [] := by
  refine mw_aload_n 2 C dL_law_1292 rfl rfl ?_
  refine mw_aload_n 3 C dL_law_1293 rfl rfl ?_
  refine mw_iload_n 0 C dL_law_1294 rfl rfl ?_
  refine mw_iconst C dL_law_1295 ?_
  refine mw_iadd C dL_law_1296 ?_
  refine mw_sld C dL_law_1297 hX hbl hbA hL (by omega) ?_
  refine mw_aload_n 3 C dL_law_1298 rfl rfl ?_
  refine mw_iload_n 0 C dL_law_1299 rfl rfl ?_
  refine mw_iconst C dL_law_1300 ?_
  refine mw_iadd C dL_law_1301 ?_
  refine mw_sld C dL_law_1302 hX hbl hbA hL (by omega) ?_
  refine mw_callV (c := 0) [iv ((xs (i + 1).toNat).toInt), iv ((xs (i + 2).toNat).toInt)] [] C dL_law_1303 (T_X11_order (zl Z) (zX Z) ((xs (i + 1).toNat).toInt) ((xs (i + 2).toNat).toInt) _ _ hx) rfl zn0 zk0 (by decide) rfl wd814 wd815 wd816 wd1 wd817 hd_X11_order rfl (by decide) (by decide) (Nat.le_of_ble_eq_true rfl) ⟨hR.1, hR.2⟩ ?_
  refine mw_aload_n 1 C dL_law_1306 rfl rfl ?_
  refine mw_aload_n 3 C dL_law_1307 rfl rfl ?_
  refine mw_iload_n 0 C dL_law_1308 rfl rfl ?_
  refine mw_iconst C dL_law_1309 ?_
  refine mw_iadd C dL_law_1310 ?_
  refine mw_sld C dL_law_1311 hX hbl hbA hL (by omega) ?_
  refine mw_aload_n 3 C dL_law_1312 rfl rfl ?_
  refine mw_iload_n 0 C dL_law_1313 rfl rfl ?_
  refine mw_iconst C dL_law_1314 ?_
  refine mw_iadd C dL_law_1315 ?_
  refine mw_sld C dL_law_1316 hX hbl hbA hL (by omega) ?_
  refine mw_callV (c := 141) [iv ((xs (i + 1).toNat).toInt), iv ((xs (i + 2).toNat).toInt)] [iv r] C dL_law_1317 (T_X12_order (zl Z) (zX Z) ((xs (i + 1).toNat).toInt) ((xs (i + 2).toNat).toInt) _ _ hm) rfl zn141 zk141 (by decide) rfl wd1255 wd1256 wd1257 wd14 wd1258 hd_X12_order rfl (by decide) (by decide) (Nat.le_of_ble_eq_true rfl) ⟨hR.1, hR.2⟩ ?_
  refine mw_icmp_eq_t (tgt := 1624) C dL_law_1320 (by decide) hr hr rfl ?_
  exact k
def Ob_order (RR : Nat → MH → Prop) : Prop := ∀ (n : Nat) (h : MH) (a1 a2 : Int), n < 512 → RR n h → in32 a1 → in32 a2 → ∃ (r : Int) (h1 h2 : MH), F_X11_order a1 a2 h = some (r, h1) ∧ F_X12_order a1 a2 h1 = some (r, h2) ∧ in32 r ∧ RR (n + 1) h2
theorem law_ordered {Z : ZT} {Q : State → Prop} {b L : Nat} {xs : Nat → Int32} {ce sl : Nat} (C : Cx Z cL_law 4 RL 40 (some .boolean)) (hR : ce ≤ (zR Z).cells ∧ sl ≤ (zR Z).slots) (hX : va_X b L xs (zs Z) (zs Z).heap) (hbl : b < (zs Z).heap.size) (hbA : ¬ zA (zX Z) b) (hL : L < 100000) {i : Int} (hi : 0 ≤ i ∧ i + 7 ≤ (L : Int)) {h h1 h2 : MH} {r : Int} (hx : F_X11_ordered ((xs (i + 1).toNat).toInt) h = some (r, h1)) (hm : F_X12_ordered ((xs (i + 1).toNat).toInt) h1 = some (r, h2)) (hr : in32 r) (k : MW Z Q 4 zN zG h2 ce sl 1624 [(3, iv i), (2, rfv (xd (zX Z)) 141), (1, rfv (xd (zX Z)) 0), (0, .ref b)] []) : MW Z Q 4 zN zG h ce sl 1325 [(3, iv i), (2, rfv (xd (zX Z)) 141), (1, rfv (xd (zX Z)) 0), (0, .ref b)] [] := by
  refine mw_aload_n 2 C dL_law_1325 rfl rfl ?_
  refine mw_aload_n 3 C dL_law_1326 rfl rfl ?_
  refine mw_iload_n 0 C dL_law_1327 rfl rfl ?_
  refine mw_iconst C dL_law_1328 ?_
  refine mw_iadd C dL_law_1329 ?_
  refine mw_sld C dL_law_1330 hX hbl hbA hL (by omega) ?_
  refine mw_callV (c := 0) [iv ((xs (i + 1).toNat).toInt)] [] C dL_law_1331 (T_X11_ordered (zl Z) (zX Z) ((xs (i + 1).toNat).toInt) _ _ hx) rfl zn0 zk0 (by decide) rfl wd834 wd835 wd836 wd1 wd837 hd_X11_ordered rfl (by decide) (by decide) (Nat.le_of_ble_eq_true rfl) ⟨hR.1, hR.2⟩ ?_
  refine mw_aload_n 1 C dL_law_1334 rfl rfl ?_
  refine mw_aload_n 3 C dL_law_1335 rfl rfl ?_
  refine mw_iload_n 0 C dL_law_1336 rfl rfl ?_
  refine mw_iconst C dL_law_1337 ?_
  refine mw_iadd C dL_law_1338 ?_
  refine mw_sld C dL_law_1339 hX hbl hbA hL (by omega) ?_
  refine mw_callV (c := 141) [iv ((xs (i + 1).toNat).toInt)] [iv r] C dL_law_1340 (T_X12_ordered (zl Z) (zX Z) ((xs (i + 1).toNat).toInt) _ _ hm) rfl zn141 zk141 (by decide) rfl wd1263 wd1264 wd1265 wd14 wd1266 hd_X12_ordered rfl (by decide) (by decide) (Nat.le_of_ble_eq_true rfl) ⟨hR.1, hR.2⟩ ?_
  refine mw_icmp_eq_t (tgt := 1624) C dL_law_1343 (by decide) hr hr rfl ?_
  exact k
def Ob_ordered (RR : Nat → MH → Prop) : Prop := ∀ (n : Nat) (h : MH) (a1 : Int), n < 512 → RR n h → in32 a1 → ∃ (r : Int) (h1 h2 : MH), F_X11_ordered a1 h = some (r, h1) ∧ F_X12_ordered a1 h1 = some (r, h2) ∧ in32 r ∧ RR (n + 1) h2
theorem law_closes {Z : ZT} {Q : State → Prop} {b L : Nat} {xs : Nat → Int32} {ce sl : Nat} (C : Cx Z cL_law 4 RL 40 (some .boolean)) (hR : ce ≤ (zR Z).cells ∧ sl ≤ (zR Z).slots) (hX : va_X b L xs (zs Z) (zs Z).heap) (hbl : b < (zs Z).heap.size) (hbA : ¬ zA (zX Z) b) (hL : L < 100000) {i : Int} (hi : 0 ≤ i ∧ i + 7 ≤ (L : Int)) {h h1 h2 : MH} {r : Int} (hx : F_X11_closes ((xs (i + 1).toNat).toInt) h = some (r, h1)) (hm : F_X12_closes ((xs (i + 1).toNat).toInt) h1 = some (r, h2)) (hr : in32 r) (k : MW Z Q 4 zN zG h2 ce sl 1624 [(3, iv i), (2, rfv (xd (zX Z)) 141), (1, rfv (xd (zX Z)) 0), (0, .ref b)] []) : MW Z Q 4 zN zG h ce sl 1348 [(3, iv i), (2, rfv (xd (zX Z)) 141), (1, rfv (xd (zX Z)) 0), (0, .ref b)] [] := by
  refine mw_aload_n 2 C dL_law_1348 rfl rfl ?_
  refine mw_aload_n 3 C dL_law_1349 rfl rfl ?_
  refine mw_iload_n 0 C dL_law_1350 rfl rfl ?_
  refine mw_iconst C dL_law_1351 ?_
  refine mw_iadd C dL_law_1352 ?_
  refine mw_sld C dL_law_1353 hX hbl hbA hL (by omega) ?_
  refine mw_callV (c := 0) [iv ((xs (i + 1).toNat).toInt)] [] C dL_law_1354 (T_X11_closes (zl Z) (zX Z) ((xs (i + 1).toNat).toInt) _ _ hx) rfl zn0 zk0 (by decide) rfl wd838 wd839 wd840 wd1 wd841 hd_X11_closes rfl (by decide) (by decide) (Nat.le_of_ble_eq_true rfl) ⟨hR.1, hR.2⟩ ?_
  refine mw_aload_n 1 C dL_law_1357 rfl rfl ?_
  refine mw_aload_n 3 C dL_law_1358 rfl rfl ?_
  refine mw_iload_n 0 C dL_law_1359 rfl rfl ?_
  refine mw_iconst C dL_law_1360 ?_
  refine mw_iadd C dL_law_1361 ?_
  refine mw_sld C dL_law_1362 hX hbl hbA hL (by omega) ?_
  refine mw_callV (c := 141) [iv ((xs (i + 1).toNat).toInt)] [iv r] C dL_law_1363 (T_X12_closes (zl Z) (zX Z) ((xs (i + 1).toNat).toInt) _ _ hm) rfl zn141 zk141 (by decide) rfl wd1267 wd1268 wd1269 wd14 wd1270 hd_X12_closes rfl (by decide) (by decide) (Nat.le_of_ble_eq_true rfl) ⟨hR.1, hR.2⟩ ?_
  refine mw_icmp_eq_t (tgt := 1624) C dL_law_1366 (by decide) hr hr rfl ?_
  exact k
def Ob_closes (RR : Nat → MH → Prop) : Prop := ∀ (n : Nat) (h : MH) (a1 : Int), n < 512 → RR n h → in32 a1 → ∃ (r : Int) (h1 h2 : MH), F_X11_closes a1 h = some (r, h1) ∧ F_X12_closes a1 h1 = some (r, h2) ∧ in32 r ∧ RR (n + 1) h2
theorem law_recall {Z : ZT} {Q : State → Prop} {b L : Nat} {xs : Nat → Int32} {ce sl : Nat} (C : Cx Z cL_law 4 RL 40 (some .boolean)) (hR : ce ≤ (zR Z).cells ∧ sl ≤ (zR Z).slots) (hX : va_X b L xs (zs Z) (zs Z).heap) (hbl : b < (zs Z).heap.size) (hbA : ¬ zA (zX Z) b) (hL : L < 100000) {i : Int} (hi : 0 ≤ i ∧ i + 7 ≤ (L : Int)) {h h1 h2 : MH} {r : Int} (hx : F_X11_recall ((xs (i + 1).toNat).toInt) ((xs (i + 2).toNat).toInt) ((xs (i + 3).toNat).toInt) ((xs (i + 4).toNat).toInt) ((xs (i + 5).toNat).toInt) ((xs (i + 6).toNat).toInt) h = some (r, h1)) (hm : F_X12_recall ((xs (i + 1).toNat).toInt) ((xs (i + 2).toNat).toInt) ((xs (i + 3).toNat).toInt) ((xs (i + 4).toNat).toInt) ((xs (i + 5).toNat).toInt) ((xs (i + 6).toNat).toInt) h1 = some (r, h2)) (hr : in32 r) (k : MW Z Q 4 zN zG h2 ce sl 1624 [(3, iv i), (2, rfv (xd (zX Z)) 141), (1, rfv (xd (zX Z)) 0), (0, .ref b)] []) : MW Z Q 4 zN zG h ce sl 1371 [(3, iv i), (2, rfv (xd (zX Z)) 141), (1, rfv (xd (zX Z)) 0), (0, .ref b)] [] := by
  refine mw_aload_n 2 C dL_law_1371 rfl rfl ?_
  refine mw_aload_n 3 C dL_law_1372 rfl rfl ?_
  refine mw_iload_n 0 C dL_law_1373 rfl rfl ?_
  refine mw_iconst C dL_law_1374 ?_
  refine mw_iadd C dL_law_1375 ?_
  refine mw_sld C dL_law_1376 hX hbl hbA hL (by omega) ?_
  refine mw_aload_n 3 C dL_law_1377 rfl rfl ?_
  refine mw_iload_n 0 C dL_law_1378 rfl rfl ?_
  refine mw_iconst C dL_law_1379 ?_
  refine mw_iadd C dL_law_1380 ?_
  refine mw_sld C dL_law_1381 hX hbl hbA hL (by omega) ?_
  refine mw_aload_n 3 C dL_law_1382 rfl rfl ?_
  refine mw_iload_n 0 C dL_law_1383 rfl rfl ?_
  refine mw_iconst C dL_law_1384 ?_
  refine mw_iadd C dL_law_1385 ?_
  refine mw_sld C dL_law_1386 hX hbl hbA hL (by omega) ?_
  refine mw_aload_n 3 C dL_law_1387 rfl rfl ?_
  refine mw_iload_n 0 C dL_law_1388 rfl rfl ?_
  refine mw_iconst C dL_law_1389 ?_
  refine mw_iadd C dL_law_1390 ?_
  refine mw_sld C dL_law_1391 hX hbl hbA hL (by omega) ?_
  refine mw_aload_n 3 C dL_law_1392 rfl rfl ?_
  refine mw_iload_n 0 C dL_law_1393 rfl rfl ?_
  refine mw_iconst C dL_law_1394 ?_
  refine mw_iadd C dL_law_1395 ?_
  refine mw_sld C dL_law_1396 hX hbl hbA hL (by omega) ?_
  refine mw_aload_n 3 C dL_law_1397 rfl rfl ?_
  refine mw_iload_n 0 C dL_law_1398 rfl rfl ?_
  refine mw_bipush C dL_law_1399 bp_6 ?_
  refine mw_iadd C dL_law_1401 ?_
  refine mw_sld C dL_law_1402 hX hbl hbA hL (by omega) ?_
  refine mw_callV (c := 0) [iv ((xs (i + 1).toNat).toInt), iv ((xs (i + 2).toNat).toInt), iv ((xs (i + 3).toNat).toInt), iv ((xs (i + 4).toNat).toInt), iv ((xs (i + 5).toNat).toInt), iv ((xs (i + 6).toNat).toInt)] [] C dL_law_1403 (T_X11_recall (zl Z) (zX Z) ((xs (i + 1).toNat).toInt) ((xs (i + 2).toNat).toInt) ((xs (i + 3).toNat).toInt) ((xs (i + 4).toNat).toInt) ((xs (i + 5).toNat).toInt) ((xs (i + 6).toNat).toInt) _ _ hx) rfl zn0 zk0 (by decide) rfl wd843 wd844 wd845 wd1 wd846 hd_X11_recall rfl (by decide) (by decide) (Nat.le_of_ble_eq_true rfl) ⟨hR.1, hR.2⟩ ?_
  refine mw_aload_n 1 C dL_law_1406 rfl rfl ?_
  refine mw_aload_n 3 C dL_law_1407 rfl rfl ?_
  refine mw_iload_n 0 C dL_law_1408 rfl rfl ?_
  refine mw_iconst C dL_law_1409 ?_
  refine mw_iadd C dL_law_1410 ?_
  refine mw_sld C dL_law_1411 hX hbl hbA hL (by omega) ?_
  refine mw_aload_n 3 C dL_law_1412 rfl rfl ?_
  refine mw_iload_n 0 C dL_law_1413 rfl rfl ?_
  refine mw_iconst C dL_law_1414 ?_
  refine mw_iadd C dL_law_1415 ?_
  refine mw_sld C dL_law_1416 hX hbl hbA hL (by omega) ?_
  refine mw_aload_n 3 C dL_law_1417 rfl rfl ?_
  refine mw_iload_n 0 C dL_law_1418 rfl rfl ?_
  refine mw_iconst C dL_law_1419 ?_
  refine mw_iadd C dL_law_1420 ?_
  refine mw_sld C dL_law_1421 hX hbl hbA hL (by omega) ?_
  refine mw_aload_n 3 C dL_law_1422 rfl rfl ?_
  refine mw_iload_n 0 C dL_law_1423 rfl rfl ?_
  refine mw_iconst C dL_law_1424 ?_
  refine mw_iadd C dL_law_1425 ?_
  refine mw_sld C dL_law_1426 hX hbl hbA hL (by omega) ?_
  refine mw_aload_n 3 C dL_law_1427 rfl rfl ?_
  refine mw_iload_n 0 C dL_law_1428 rfl rfl ?_
  refine mw_iconst C dL_law_1429 ?_
  refine mw_iadd C dL_law_1430 ?_
  refine mw_sld C dL_law_1431 hX hbl hbA hL (by omega) ?_
  refine mw_aload_n 3 C dL_law_1432 rfl rfl ?_
  refine mw_iload_n 0 C dL_law_1433 rfl rfl ?_
  refine mw_bipush C dL_law_1434 bp_6 ?_
  refine mw_iadd C dL_law_1436 ?_
  refine mw_sld C dL_law_1437 hX hbl hbA hL (by omega) ?_
  refine mw_callV (c := 141) [iv ((xs (i + 1).toNat).toInt), iv ((xs (i + 2).toNat).toInt), iv ((xs (i + 3).toNat).toInt), iv ((xs (i + 4).toNat).toInt), iv ((xs (i + 5).toNat).toInt), iv ((xs (i + 6).toNat).toInt)] [iv r] C dL_law_1438 (T_X12_recall (zl Z) (zX Z) ((xs (i + 1).toNat).toInt) ((xs (i + 2).toNat).toInt) ((xs (i + 3).toNat).toInt) ((xs (i + 4).toNat).toInt) ((xs (i + 5).toNat).toInt) ((xs (i + 6).toNat).toInt) _ _ hm) rfl zn141 zk141 (by decide) rfl wd1272 wd1273 wd1274 wd14 wd1275 hd_X12_recall rfl (by decide) (by decide) (Nat.le_of_ble_eq_true rfl) ⟨hR.1, hR.2⟩ ?_
  refine mw_icmp_eq_t (tgt := 1624) C dL_law_1441 (by decide) hr hr rfl ?_
  exact k
def Ob_recall (RR : Nat → MH → Prop) : Prop := ∀ (n : Nat) (h : MH) (a1 a2 a3 a4 a5 a6 : Int), n < 512 → RR n h → in32 a1 → in32 a2 → in32 a3 → in32 a4 → in32 a5 → in32 a6 → ∃ (r : Int) (h1 h2 : MH), F_X11_recall a1 a2 a3 a4 a5 a6 h = some (r, h1) ∧ F_X12_recall a1 a2 a3 a4 a5 a6 h1 = some (r, h2) ∧ in32 r ∧ RR (n + 1) h2
theorem law_shifts {Z : ZT} {Q : State → Prop} {b L : Nat} {xs : Nat → Int32} {ce sl : Nat} (C : Cx Z cL_law 4 RL 40 (some .boolean)) (hR : ce ≤ (zR Z).cells ∧ sl ≤ (zR Z).slots) (hX : va_X b L xs (zs Z) (zs Z).heap) (hbl : b < (zs Z).heap.size) (hbA : ¬ zA (zX Z) b) (hL : L < 100000) {i : Int} (hi : 0 ≤ i ∧ i + 7 ≤ (L : Int)) {h h1 h2 : MH} {r : Int} (hx : F_X11_shifts ((xs (i + 1).toNat).toInt) ((xs (i + 2).toNat).toInt) ((xs (i + 3).toNat).toInt) h = some (r, h1)) (hm : F_X12_shifts ((xs (i + 1).toNat).toInt) ((xs (i + 2).toNat).toInt) ((xs (i + 3).toNat).toInt) h1 = some (r, h2)) (hr : in32 r) (k : MW Z Q 4 zN zG h2 ce sl 1624 [(3, iv i), (2, rfv (xd (zX Z)) 141), (1, rfv (xd (zX Z)) 0), (0, .ref b)] []) : MW Z Q 4 zN zG h ce sl 1446 [(3, iv i), (2, rfv (xd (zX Z)) 141), (1, rfv (xd (zX Z)) 0), (0, .ref b)] [] := by
  refine mw_aload_n 2 C dL_law_1446 rfl rfl ?_
  refine mw_aload_n 3 C dL_law_1447 rfl rfl ?_
  refine mw_iload_n 0 C dL_law_1448 rfl rfl ?_
  refine mw_iconst C dL_law_1449 ?_
  refine mw_iadd C dL_law_1450 ?_
  refine mw_sld C dL_law_1451 hX hbl hbA hL (by omega) ?_
  refine mw_aload_n 3 C dL_law_1452 rfl rfl ?_
  refine mw_iload_n 0 C dL_law_1453 rfl rfl ?_
  refine mw_iconst C dL_law_1454 ?_
  refine mw_iadd C dL_law_1455 ?_
  refine mw_sld C dL_law_1456 hX hbl hbA hL (by omega) ?_
  refine mw_aload_n 3 C dL_law_1457 rfl rfl ?_
  refine mw_iload_n 0 C dL_law_1458 rfl rfl ?_
  refine mw_iconst C dL_law_1459 ?_
  refine mw_iadd C dL_law_1460 ?_
  refine mw_sld C dL_law_1461 hX hbl hbA hL (by omega) ?_
  refine mw_callV (c := 0) [iv ((xs (i + 1).toNat).toInt), iv ((xs (i + 2).toNat).toInt), iv ((xs (i + 3).toNat).toInt)] [] C dL_law_1462 (T_X11_shifts (zl Z) (zX Z) ((xs (i + 1).toNat).toInt) ((xs (i + 2).toNat).toInt) ((xs (i + 3).toNat).toInt) _ _ hx) rfl zn0 zk0 (by decide) rfl wd847 wd848 wd849 wd1 wd850 hd_X11_shifts rfl (by decide) (by decide) (Nat.le_of_ble_eq_true rfl) ⟨hR.1, hR.2⟩ ?_
  refine mw_aload_n 1 C dL_law_1465 rfl rfl ?_
  refine mw_aload_n 3 C dL_law_1466 rfl rfl ?_
  refine mw_iload_n 0 C dL_law_1467 rfl rfl ?_
  refine mw_iconst C dL_law_1468 ?_
  refine mw_iadd C dL_law_1469 ?_
  refine mw_sld C dL_law_1470 hX hbl hbA hL (by omega) ?_
  refine mw_aload_n 3 C dL_law_1471 rfl rfl ?_
  refine mw_iload_n 0 C dL_law_1472 rfl rfl ?_
  refine mw_iconst C dL_law_1473 ?_
  refine mw_iadd C dL_law_1474 ?_
  refine mw_sld C dL_law_1475 hX hbl hbA hL (by omega) ?_
  refine mw_aload_n 3 C dL_law_1476 rfl rfl ?_
  refine mw_iload_n 0 C dL_law_1477 rfl rfl ?_
  refine mw_iconst C dL_law_1478 ?_
  refine mw_iadd C dL_law_1479 ?_
  refine mw_sld C dL_law_1480 hX hbl hbA hL (by omega) ?_
  refine mw_callV (c := 141) [iv ((xs (i + 1).toNat).toInt), iv ((xs (i + 2).toNat).toInt), iv ((xs (i + 3).toNat).toInt)] [iv r] C dL_law_1481 (T_X12_shifts (zl Z) (zX Z) ((xs (i + 1).toNat).toInt) ((xs (i + 2).toNat).toInt) ((xs (i + 3).toNat).toInt) _ _ hm) rfl zn141 zk141 (by decide) rfl wd1285 wd1286 wd1287 wd14 wd1288 hd_X12_shifts rfl (by decide) (by decide) (Nat.le_of_ble_eq_true rfl) ⟨hR.1, hR.2⟩ ?_
  refine mw_icmp_eq_t (tgt := 1624) C dL_law_1484 (by decide) hr hr rfl ?_
  exact k
def Ob_shifts (RR : Nat → MH → Prop) : Prop := ∀ (n : Nat) (h : MH) (a1 a2 a3 : Int), n < 512 → RR n h → in32 a1 → in32 a2 → in32 a3 → ∃ (r : Int) (h1 h2 : MH), F_X11_shifts a1 a2 a3 h = some (r, h1) ∧ F_X12_shifts a1 a2 a3 h1 = some (r, h2) ∧ in32 r ∧ RR (n + 1) h2
theorem law_shiftOf {Z : ZT} {Q : State → Prop} {b L : Nat} {xs : Nat → Int32} {ce sl : Nat} (C : Cx Z cL_law 4 RL 40 (some .boolean)) (hR : ce ≤ (zR Z).cells ∧ sl ≤ (zR Z).slots) (hX : va_X b L xs (zs Z) (zs Z).heap) (hbl : b < (zs Z).heap.size) (hbA : ¬ zA (zX Z) b) (hL : L < 100000) {i : Int} (hi : 0 ≤ i ∧ i + 7 ≤ (L : Int)) {h h1 h2 : MH} {r : Int} (hx : F_X11_shiftOf ((xs (i + 1).toNat).toInt) h = some (r, h1)) (hm : F_X12_shiftOf ((xs (i + 1).toNat).toInt) h1 = some (r, h2)) (hr : in32 r) (k : MW Z Q 4 zN zG h2 ce sl 1624 [(3, iv i), (2, rfv (xd (zX Z)) 141), (1, rfv (xd (zX Z)) 0), (0, .ref b)] []) : MW Z Q 4 zN zG h ce sl 1489 [(3, iv i), (2, rfv (xd (zX Z)) 141), (1, rfv (xd (zX Z)) 0), (0, .ref b)] [] := by
  refine mw_aload_n 2 C dL_law_1489 rfl rfl ?_
  refine mw_aload_n 3 C dL_law_1490 rfl rfl ?_
  refine mw_iload_n 0 C dL_law_1491 rfl rfl ?_
  refine mw_iconst C dL_law_1492 ?_
  refine mw_iadd C dL_law_1493 ?_
  refine mw_sld C dL_law_1494 hX hbl hbA hL (by omega) ?_
  refine mw_callV (c := 0) [iv ((xs (i + 1).toNat).toInt)] [] C dL_law_1495 (T_X11_shiftOf (zl Z) (zX Z) ((xs (i + 1).toNat).toInt) _ _ hx) rfl zn0 zk0 (by decide) rfl wd861 wd862 wd863 wd1 wd864 hd_X11_shiftOf rfl (by decide) (by decide) (Nat.le_of_ble_eq_true rfl) ⟨hR.1, hR.2⟩ ?_
  refine mw_aload_n 1 C dL_law_1498 rfl rfl ?_
  refine mw_aload_n 3 C dL_law_1499 rfl rfl ?_
  refine mw_iload_n 0 C dL_law_1500 rfl rfl ?_
  refine mw_iconst C dL_law_1501 ?_
  refine mw_iadd C dL_law_1502 ?_
  refine mw_sld C dL_law_1503 hX hbl hbA hL (by omega) ?_
  refine mw_callV (c := 141) [iv ((xs (i + 1).toNat).toInt)] [iv r] C dL_law_1504 (T_X12_shiftOf (zl Z) (zX Z) ((xs (i + 1).toNat).toInt) _ _ hm) rfl zn141 zk141 (by decide) rfl wd1293 wd1294 wd1295 wd14 wd1296 hd_X12_shiftOf rfl (by decide) (by decide) (Nat.le_of_ble_eq_true rfl) ⟨hR.1, hR.2⟩ ?_
  refine mw_icmp_eq_t (tgt := 1624) C dL_law_1507 (by decide) hr hr rfl ?_
  exact k
def Ob_shiftOf (RR : Nat → MH → Prop) : Prop := ∀ (n : Nat) (h : MH) (a1 : Int), n < 512 → RR n h → in32 a1 → ∃ (r : Int) (h1 h2 : MH), F_X11_shiftOf a1 h = some (r, h1) ∧ F_X12_shiftOf a1 h1 = some (r, h2) ∧ in32 r ∧ RR (n + 1) h2
theorem law_lot {Z : ZT} {Q : State → Prop} {b L : Nat} {xs : Nat → Int32} {ce sl : Nat} (C : Cx Z cL_law 4 RL 40 (some .boolean)) (hR : ce ≤ (zR Z).cells ∧ sl ≤ (zR Z).slots) (hX : va_X b L xs (zs Z) (zs Z).heap) (hbl : b < (zs Z).heap.size) (hbA : ¬ zA (zX Z) b) (hL : L < 100000) {i : Int} (hi : 0 ≤ i ∧ i + 7 ≤ (L : Int)) {h h1 h2 : MH} {r : Int} (hx : F_X11_lot ((xs (i + 1).toNat).toInt) ((xs (i + 2).toNat).toInt) ((xs (i + 3).toNat).toInt) h = some (r, h1)) (hm : F_X12_lot ((xs (i + 1).toNat).toInt) ((xs (i + 2).toNat).toInt) ((xs (i + 3).toNat).toInt) h1 = some (r, h2)) (hr : in32 r) (k : MW Z Q 4 zN zG h2 ce sl 1624 [(3, iv i), (2, rfv (xd (zX Z)) 141), (1, rfv (xd (zX Z)) 0), (0, .ref b)] []) : MW Z Q 4 zN zG h ce sl 1512 [(3, iv i), (2, rfv (xd (zX Z)) 141), (1, rfv (xd (zX Z)) 0), (0, .ref b)] [] := by
  refine mw_aload_n 2 C dL_law_1512 rfl rfl ?_
  refine mw_aload_n 3 C dL_law_1513 rfl rfl ?_
  refine mw_iload_n 0 C dL_law_1514 rfl rfl ?_
  refine mw_iconst C dL_law_1515 ?_
  refine mw_iadd C dL_law_1516 ?_
  refine mw_sld C dL_law_1517 hX hbl hbA hL (by omega) ?_
  refine mw_aload_n 3 C dL_law_1518 rfl rfl ?_
  refine mw_iload_n 0 C dL_law_1519 rfl rfl ?_
  refine mw_iconst C dL_law_1520 ?_
  refine mw_iadd C dL_law_1521 ?_
  refine mw_sld C dL_law_1522 hX hbl hbA hL (by omega) ?_
  refine mw_aload_n 3 C dL_law_1523 rfl rfl ?_
  refine mw_iload_n 0 C dL_law_1524 rfl rfl ?_
  refine mw_iconst C dL_law_1525 ?_
  refine mw_iadd C dL_law_1526 ?_
  refine mw_sld C dL_law_1527 hX hbl hbA hL (by omega) ?_
  refine mw_callV (c := 0) [iv ((xs (i + 1).toNat).toInt), iv ((xs (i + 2).toNat).toInt), iv ((xs (i + 3).toNat).toInt)] [] C dL_law_1528 (T_X11_lot (zl Z) (zX Z) ((xs (i + 1).toNat).toInt) ((xs (i + 2).toNat).toInt) ((xs (i + 3).toNat).toInt) _ _ hx) rfl zn0 zk0 (by decide) rfl wd865 wd866 wd867 wd1 wd868 hd_X11_lot rfl (by decide) (by decide) (Nat.le_of_ble_eq_true rfl) ⟨hR.1, hR.2⟩ ?_
  refine mw_aload_n 1 C dL_law_1531 rfl rfl ?_
  refine mw_aload_n 3 C dL_law_1532 rfl rfl ?_
  refine mw_iload_n 0 C dL_law_1533 rfl rfl ?_
  refine mw_iconst C dL_law_1534 ?_
  refine mw_iadd C dL_law_1535 ?_
  refine mw_sld C dL_law_1536 hX hbl hbA hL (by omega) ?_
  refine mw_aload_n 3 C dL_law_1537 rfl rfl ?_
  refine mw_iload_n 0 C dL_law_1538 rfl rfl ?_
  refine mw_iconst C dL_law_1539 ?_
  refine mw_iadd C dL_law_1540 ?_
  refine mw_sld C dL_law_1541 hX hbl hbA hL (by omega) ?_
  refine mw_aload_n 3 C dL_law_1542 rfl rfl ?_
  refine mw_iload_n 0 C dL_law_1543 rfl rfl ?_
  refine mw_iconst C dL_law_1544 ?_
  refine mw_iadd C dL_law_1545 ?_
  refine mw_sld C dL_law_1546 hX hbl hbA hL (by omega) ?_
  refine mw_callV (c := 141) [iv ((xs (i + 1).toNat).toInt), iv ((xs (i + 2).toNat).toInt), iv ((xs (i + 3).toNat).toInt)] [iv r] C dL_law_1547 (T_X12_lot (zl Z) (zX Z) ((xs (i + 1).toNat).toInt) ((xs (i + 2).toNat).toInt) ((xs (i + 3).toNat).toInt) _ _ hm) rfl zn141 zk141 (by decide) rfl wd1276 wd1277 wd1278 wd14 wd1279 hd_X12_lot rfl (by decide) (by decide) (Nat.le_of_ble_eq_true rfl) ⟨hR.1, hR.2⟩ ?_
  refine mw_icmp_eq_t (tgt := 1624) C dL_law_1550 (by decide) hr hr rfl ?_
  exact k
def Ob_lot (RR : Nat → MH → Prop) : Prop := ∀ (n : Nat) (h : MH) (a1 a2 a3 : Int), n < 512 → RR n h → in32 a1 → in32 a2 → in32 a3 → ∃ (r : Int) (h1 h2 : MH), F_X11_lot a1 a2 a3 h = some (r, h1) ∧ F_X12_lot a1 a2 a3 h1 = some (r, h2) ∧ in32 r ∧ RR (n + 1) h2
theorem law_torn {Z : ZT} {Q : State → Prop} {b L : Nat} {xs : Nat → Int32} {ce sl : Nat} (C : Cx Z cL_law 4 RL 40 (some .boolean)) (hR : ce ≤ (zR Z).cells ∧ sl ≤ (zR Z).slots) (hX : va_X b L xs (zs Z) (zs Z).heap) (hbl : b < (zs Z).heap.size) (hbA : ¬ zA (zX Z) b) (hL : L < 100000) {i : Int} (hi : 0 ≤ i ∧ i + 7 ≤ (L : Int)) {h h1 h2 : MH} {r : Int} (hx : F_X11_torn ((xs (i + 1).toNat).toInt) ((xs (i + 2).toNat).toInt) ((xs (i + 3).toNat).toInt) h = some (r, h1)) (hm : F_X12_torn ((xs (i + 1).toNat).toInt) ((xs (i + 2).toNat).toInt) ((xs (i + 3).toNat).toInt) h1 = some (r, h2)) (hr : in32 r) (k : MW Z Q 4 zN zG h2 ce sl 1624 [(3, iv i), (2, rfv (xd (zX Z)) 141), (1, rfv (xd (zX Z)) 0), (0, .ref b)] []) : MW Z Q 4 zN zG h ce sl 1555 [(3, iv i), (2, rfv (xd (zX Z)) 141), (1, rfv (xd (zX Z)) 0), (0, .ref b)] [] := by
  refine mw_aload_n 2 C dL_law_1555 rfl rfl ?_
  refine mw_aload_n 3 C dL_law_1556 rfl rfl ?_
  refine mw_iload_n 0 C dL_law_1557 rfl rfl ?_
  refine mw_iconst C dL_law_1558 ?_
  refine mw_iadd C dL_law_1559 ?_
  refine mw_sld C dL_law_1560 hX hbl hbA hL (by omega) ?_
  refine mw_aload_n 3 C dL_law_1561 rfl rfl ?_
  refine mw_iload_n 0 C dL_law_1562 rfl rfl ?_
  refine mw_iconst C dL_law_1563 ?_
  refine mw_iadd C dL_law_1564 ?_
  refine mw_sld C dL_law_1565 hX hbl hbA hL (by omega) ?_
  refine mw_aload_n 3 C dL_law_1566 rfl rfl ?_
  refine mw_iload_n 0 C dL_law_1567 rfl rfl ?_
  refine mw_iconst C dL_law_1568 ?_
  refine mw_iadd C dL_law_1569 ?_
  refine mw_sld C dL_law_1570 hX hbl hbA hL (by omega) ?_
  refine mw_callV (c := 0) [iv ((xs (i + 1).toNat).toInt), iv ((xs (i + 2).toNat).toInt), iv ((xs (i + 3).toNat).toInt)] [] C dL_law_1571 (T_X11_torn (zl Z) (zX Z) ((xs (i + 1).toNat).toInt) ((xs (i + 2).toNat).toInt) ((xs (i + 3).toNat).toInt) _ _ hx) rfl zn0 zk0 (by decide) rfl wd870 wd871 wd872 wd1 wd873 hd_X11_torn rfl (by decide) (by decide) (Nat.le_of_ble_eq_true rfl) ⟨hR.1, hR.2⟩ ?_
  refine mw_aload_n 1 C dL_law_1574 rfl rfl ?_
  refine mw_aload_n 3 C dL_law_1575 rfl rfl ?_
  refine mw_iload_n 0 C dL_law_1576 rfl rfl ?_
  refine mw_iconst C dL_law_1577 ?_
  refine mw_iadd C dL_law_1578 ?_
  refine mw_sld C dL_law_1579 hX hbl hbA hL (by omega) ?_
  refine mw_aload_n 3 C dL_law_1580 rfl rfl ?_
  refine mw_iload_n 0 C dL_law_1581 rfl rfl ?_
  refine mw_iconst C dL_law_1582 ?_
  refine mw_iadd C dL_law_1583 ?_
  refine mw_sld C dL_law_1584 hX hbl hbA hL (by omega) ?_
  refine mw_aload_n 3 C dL_law_1585 rfl rfl ?_
  refine mw_iload_n 0 C dL_law_1586 rfl rfl ?_
  refine mw_iconst C dL_law_1587 ?_
  refine mw_iadd C dL_law_1588 ?_
  refine mw_sld C dL_law_1589 hX hbl hbA hL (by omega) ?_
  refine mw_callV (c := 141) [iv ((xs (i + 1).toNat).toInt), iv ((xs (i + 2).toNat).toInt), iv ((xs (i + 3).toNat).toInt)] [iv r] C dL_law_1590 (T_X12_torn (zl Z) (zX Z) ((xs (i + 1).toNat).toInt) ((xs (i + 2).toNat).toInt) ((xs (i + 3).toNat).toInt) _ _ hm) rfl zn141 zk141 (by decide) rfl wd1281 wd1282 wd1283 wd14 wd1284 hd_X12_torn rfl (by decide) (by decide) (Nat.le_of_ble_eq_true rfl) ⟨hR.1, hR.2⟩ ?_
  refine mw_icmp_eq_t (tgt := 1624) C dL_law_1593 (by decide) hr hr rfl ?_
  exact k
def Ob_torn (RR : Nat → MH → Prop) : Prop := ∀ (n : Nat) (h : MH) (a1 a2 a3 : Int), n < 512 → RR n h → in32 a1 → in32 a2 → in32 a3 → ∃ (r : Int) (h1 h2 : MH), F_X11_torn a1 a2 a3 h = some (r, h1) ∧ F_X12_torn a1 a2 a3 h1 = some (r, h2) ∧ in32 r ∧ RR (n + 1) h2
theorem law_mark {Z : ZT} {Q : State → Prop} {b L : Nat} {xs : Nat → Int32} {ce sl : Nat} (C : Cx Z cL_law 4 RL 40 (some .boolean)) (hR : ce ≤ (zR Z).cells ∧ sl ≤ (zR Z).slots) (hX : va_X b L xs (zs Z) (zs Z).heap) (hbl : b < (zs Z).heap.size) (hbA : ¬ zA (zX Z) b) (hL : L < 100000) {i : Int} (hi : 0 ≤ i ∧ i + 7 ≤ (L : Int)) {h h1 h2 : MH} {r : Int} (hx : F_X11_mark h = some (r, h1)) (hm : F_X12_mark h1 = some (r, h2)) (hr : in32 r) (k : MW Z Q 4 zN zG h2 ce sl 1624 [(3, iv i), (2, rfv (xd (zX Z)) 141), (1, rfv (xd (zX Z)) 0), (0, .ref b)] []) : MW Z Q 4 zN zG h ce sl 1598 [(3, iv i), (2, rfv (xd (zX Z)) 141), (1, rfv (xd (zX Z)) 0), (0, .ref b)] [] := by
  refine mw_aload_n 2 C dL_law_1598 rfl rfl ?_
  refine mw_callV (c := 0) [] [] C dL_law_1599 (T_X11_mark (zl Z) (zX Z) _ _ hx) rfl zn0 zk0 (by decide) rfl wd875 wd876 wd877 wd1 wd878 hd_X11_mark rfl (by decide) (by decide) (Nat.le_of_ble_eq_true rfl) ⟨hR.1, hR.2⟩ ?_
  refine mw_aload_n 1 C dL_law_1602 rfl rfl ?_
  refine mw_callV (c := 141) [] [iv r] C dL_law_1603 (T_X12_mark (zl Z) (zX Z) _ _ hm) rfl zn141 zk141 (by decide) rfl wd1297 wd1298 wd1299 wd14 wd1300 hd_X12_mark rfl (by decide) (by decide) (Nat.le_of_ble_eq_true rfl) ⟨hR.1, hR.2⟩ ?_
  refine mw_icmp_eq_t (tgt := 1624) C dL_law_1606 (by decide) hr hr rfl ?_
  exact k
def Ob_mark (RR : Nat → MH → Prop) : Prop := ∀ (n : Nat) (h : MH), n < 512 → RR n h → ∃ (r : Int) (h1 h2 : MH), F_X11_mark  h = some (r, h1) ∧ F_X12_mark  h1 = some (r, h2) ∧ in32 r ∧ RR (n + 1) h2
theorem law_back {Z : ZT} {Q : State → Prop} {b L : Nat} {xs : Nat → Int32} {ce sl : Nat} (C : Cx Z cL_law 4 RL 40 (some .boolean)) (hR : ce ≤ (zR Z).cells ∧ sl ≤ (zR Z).slots) (hX : va_X b L xs (zs Z) (zs Z).heap) (hbl : b < (zs Z).heap.size) (hbA : ¬ zA (zX Z) b) (hL : L < 100000) {i : Int} (hi : 0 ≤ i ∧ i + 7 ≤ (L : Int)) {h h1 h2 : MH} {r : Int} (hx : F_X11_back h = some (r, h1)) (hm : F_X12_back h1 = some (r, h2)) (hr : in32 r) (k : MW Z Q 4 zN zG h2 ce sl 1624 [(3, iv i), (2, rfv (xd (zX Z)) 141), (1, rfv (xd (zX Z)) 0), (0, .ref b)] []) : MW Z Q 4 zN zG h ce sl 1611 [(3, iv i), (2, rfv (xd (zX Z)) 141), (1, rfv (xd (zX Z)) 0), (0, .ref b)] [] := by
  refine mw_aload_n 2 C dL_law_1611 rfl rfl ?_
  refine mw_callV (c := 0) [] [] C dL_law_1612 (T_X11_back (zl Z) (zX Z) _ _ hx) rfl zn0 zk0 (by decide) rfl wd879 wd880 wd881 wd1 wd882 hd_X11_back rfl (by decide) (by decide) (Nat.le_of_ble_eq_true rfl) ⟨hR.1, hR.2⟩ ?_
  refine mw_aload_n 1 C dL_law_1615 rfl rfl ?_
  refine mw_callV (c := 141) [] [iv r] C dL_law_1616 (T_X12_back (zl Z) (zX Z) _ _ hm) rfl zn141 zk141 (by decide) rfl wd1301 wd1302 wd1303 wd14 wd1304 hd_X12_back rfl (by decide) (by decide) (Nat.le_of_ble_eq_true rfl) ⟨hR.1, hR.2⟩ ?_
  refine mw_icmp_eq_t (tgt := 1624) C dL_law_1619 (by decide) hr hr rfl ?_
  exact k
def Ob_back (RR : Nat → MH → Prop) : Prop := ∀ (n : Nat) (h : MH), n < 512 → RR n h → ∃ (r : Int) (h1 h2 : MH), F_X11_back  h = some (r, h1) ∧ F_X12_back  h1 = some (r, h2) ∧ in32 r ∧ RR (n + 1) h2
def Ob_all (RR : Nat → MH → Prop) : Prop := Ob_status RR ∧ Ob_top RR ∧ Ob_bottom RR ∧ Ob_tray RR ∧ Ob_write RR ∧ Ob_read RR ∧ Ob_pour RR ∧ Ob_feed RR ∧ Ob_line RR ∧ Ob_shift RR ∧ Ob_fault RR ∧ Ob_many RR ∧ Ob_machine RR ∧ Ob_table RR ∧ Ob_wash RR ∧ Ob_begin RR ∧ Ob_run RR ∧ Ob_minutes RR ∧ Ob_blame RR ∧ Ob_share RR ∧ Ob_tried RR ∧ Ob_holder RR ∧ Ob_gained RR ∧ Ob_shared RR ∧ Ob_unit RR ∧ Ob_waits RR ∧ Ob_unwaited RR ∧ Ob_work RR ∧ Ob_worked RR ∧ Ob_heads RR ∧ Ob_head RR ∧ Ob_brief RR ∧ Ob_glass RR ∧ Ob_order RR ∧ Ob_ordered RR ∧ Ob_closes RR ∧ Ob_recall RR ∧ Ob_shifts RR ∧ Ob_shiftOf RR ∧ Ob_lot RR ∧ Ob_torn RR ∧ Ob_mark RR ∧ Ob_back RR
theorem in64_lor (x y : Int) : in64 (lor64 x y) := by
  unfold lor64
  have h1 := (Int64.ofInt x ||| Int64.ofInt y).le_toInt
  have h2 := (Int64.ofInt x ||| Int64.ofInt y).toInt_lt
  omega
set_option maxHeartbeats 4000000 in
theorem law_body {Z : ZT} {Q : State → Prop} {b L : Nat} {xs : Nat → Int32} {ce sl : Nat} (C : Cx Z cL_law 4 RL 40 (some .boolean)) (hR : ce ≤ (zR Z).cells ∧ sl ≤ (zR Z).slots) (hX : va_X b L xs (zs Z) (zs Z).heap) (hbl : b < (zs Z).heap.size) (hbA : ¬ zA (zX Z) b) (hL : L < 100000) {RR : Nat → MH → Prop} (ob : Ob_all RR) (hmono : ∀ n h, RR n h → RR (n + 1) h) {i : Int} (hi : 0 ≤ i ∧ i + 7 ≤ (L : Int)) {n : Nat} (hn : n < 512) {h : MH} (hRR : RR n h)
    (k : ∀ h2, RR (n + 1) h2 → MW Z Q 4 zN zG h2 ce sl 1624 [(3, iv i), (2, rfv (xd (zX Z)) 141), (1, rfv (xd (zX Z)) 0), (0, .ref b)] []) : MW Z Q 4 zN zG h ce sl 27 [(3, iv i), (2, rfv (xd (zX Z)) 141), (1, rfv (xd (zX Z)) 0), (0, .ref b)] [] := by
  obtain ⟨o0, o1, o2, o3, o4, o5, o6, o7, o8, o9, o10, o11, o12, o13, o14, o15, o16, o17, o18, o19, o20, o21, o22, o23, o24, o25, o26, o27, o28, o29, o30, o31, o32, o33, o34, o35, o36, o37, o38, o39, o40, o41, o42⟩ := ob
  refine mw_aload_n 3 C dL_law_27 rfl rfl ?_
  refine mw_iload_n 0 C dL_law_28 rfl rfl ?_
  refine mw_sld C dL_law_29 hX hbl hbA hL (by omega) ?_
  refine mw_bipush C dL_law_30 bp_63 ?_
  refine mw_iand C dL_law_32 ?_
  obtain ⟨q1, q2⟩ := land63 (xs i.toNat)
  generalize land32 (xs i.toNat).toInt 63 = op at q1 q2 ⊢
  by_cases c0 : op = 0
  · refine mw_tabI (tgt := 220) 0 C dL_law_33 (by decide) c0 (by decide) (by decide) rfl (by decide) ?_
    obtain ⟨r, h1, h2, e1, e2, e3, e4⟩ := o0 n h hn hRR
    exact law_status C hR hX hbl hbA hL hi e1 e2 e3 (k h2 e4)
  by_cases c1 : op = 1
  · refine mw_tabI (tgt := 233) 1 C dL_law_33 (by decide) c1 (by decide) (by decide) rfl (by decide) ?_
    obtain ⟨r, h1, h2, e1, e2, e3, e4⟩ := o1 n h hn hRR
    exact law_top C hR hX hbl hbA hL hi e1 e2 e3 (k h2 e4)
  by_cases c2 : op = 2
  · refine mw_tabI (tgt := 247) 2 C dL_law_33 (by decide) c2 (by decide) (by decide) rfl (by decide) ?_
    obtain ⟨r, h1, h2, e1, e2, e3, e4⟩ := o2 n h hn hRR
    exact law_bottom C hR hX hbl hbA hL hi e1 e2 e3 (k h2 e4)
  by_cases c3 : op = 3
  · refine mw_tabI (tgt := 261) 3 C dL_law_33 (by decide) c3 (by decide) (by decide) rfl (by decide) ?_
    obtain ⟨r, h1, h2, e1, e2, e3, e4⟩ := o3 n h ((xs (i + 1).toNat).toInt) ((xs (i + 2).toNat).toInt) ((xs (i + 3).toNat).toInt) hn hRR (in32_t _) (in32_t _) (in32_t _)
    exact law_tray C hR hX hbl hbA hL hi e1 e2 e3 (k h2 e4)
  by_cases c4 : op = 4
  · refine mw_tabI (tgt := 304) 4 C dL_law_33 (by decide) c4 (by decide) (by decide) rfl (by decide) ?_
    obtain ⟨r, h1, h2, e1, e2, e3, e4⟩ := o4 n h ((xs (i + 1).toNat).toInt) ((xs (i + 2).toNat).toInt) (lor64 (shl64 ((xs (i + 3).toNat).toInt) 32) (land64 ((xs (i + 4).toNat).toInt) 4294967295)) hn hRR (in32_t _) (in32_t _) (in64_lor _ _)
    exact law_write C hR hX hbl hbA hL hi e1 e2 e3 (k h2 e4)
  by_cases c5 : op = 5
  · refine mw_tabI (tgt := 377) 5 C dL_law_33 (by decide) c5 (by decide) (by decide) rfl (by decide) ?_
    obtain ⟨r, h1, h2, e1, e2, e3, e4⟩ := o5 n h ((xs (i + 1).toNat).toInt) ((xs (i + 2).toNat).toInt) hn hRR (in32_t _) (in32_t _)
    exact law_read C hR hX hbl hbA hL hi e1 e2 e3 (k h2 e4)
  by_cases c6 : op = 6
  · refine mw_tabI (tgt := 411) 6 C dL_law_33 (by decide) c6 (by decide) (by decide) rfl (by decide) ?_
    obtain ⟨r, h1, h2, e1, e2, e3, e4⟩ := o6 n h ((xs (i + 1).toNat).toInt) ((xs (i + 2).toNat).toInt) ((xs (i + 3).toNat).toInt) ((xs (i + 4).toNat).toInt) ((xs (i + 5).toNat).toInt) hn hRR (in32_t _) (in32_t _) (in32_t _) (in32_t _) (in32_t _)
    exact law_pour C hR hX hbl hbA hL hi e1 e2 e3 (k h2 e4)
  by_cases c7 : op = 7
  · refine mw_tabI (tgt := 474) 7 C dL_law_33 (by decide) c7 (by decide) (by decide) rfl (by decide) ?_
    obtain ⟨r, h1, h2, e1, e2, e3, e4⟩ := o7 n h ((xs (i + 1).toNat).toInt) ((xs (i + 2).toNat).toInt) ((xs (i + 3).toNat).toInt) ((xs (i + 4).toNat).toInt) ((xs (i + 5).toNat).toInt) hn hRR (in32_t _) (in32_t _) (in32_t _) (in32_t _) (in32_t _)
    exact law_feed C hR hX hbl hbA hL hi e1 e2 e3 (k h2 e4)
  by_cases c8 : op = 8
  · refine mw_tabI (tgt := 537) 8 C dL_law_33 (by decide) c8 (by decide) (by decide) rfl (by decide) ?_
    obtain ⟨r, h1, h2, e1, e2, e3, e4⟩ := o8 n h ((xs (i + 1).toNat).toInt) hn hRR (in32_t _)
    exact law_line C hR hX hbl hbA hL hi e1 e2 e3 (k h2 e4)
  by_cases c9 : op = 9
  · refine mw_tabI (tgt := 560) 9 C dL_law_33 (by decide) c9 (by decide) (by decide) rfl (by decide) ?_
    obtain ⟨r, h1, h2, e1, e2, e3, e4⟩ := o9 n h ((xs (i + 1).toNat).toInt) hn hRR (in32_t _)
    exact law_shift C hR hX hbl hbA hL hi e1 e2 e3 (k h2 e4)
  by_cases c10 : op = 10
  · refine mw_tabI (tgt := 583) 10 C dL_law_33 (by decide) c10 (by decide) (by decide) rfl (by decide) ?_
    obtain ⟨r, h1, h2, e1, e2, e3, e4⟩ := o10 n h ((xs (i + 1).toNat).toInt) hn hRR (in32_t _)
    exact law_fault C hR hX hbl hbA hL hi e1 e2 e3 (k h2 e4)
  by_cases c11 : op = 11
  · refine mw_tabI (tgt := 606) 11 C dL_law_33 (by decide) c11 (by decide) (by decide) rfl (by decide) ?_
    obtain ⟨r, h1, h2, e1, e2, e3, e4⟩ := o11 n h ((xs (i + 1).toNat).toInt) hn hRR (in32_t _)
    exact law_many C hR hX hbl hbA hL hi e1 e2 e3 (k h2 e4)
  by_cases c12 : op = 12
  · refine mw_tabI (tgt := 629) 12 C dL_law_33 (by decide) c12 (by decide) (by decide) rfl (by decide) ?_
    obtain ⟨r, h1, h2, e1, e2, e3, e4⟩ := o12 n h ((xs (i + 1).toNat).toInt) ((xs (i + 2).toNat).toInt) hn hRR (in32_t _) (in32_t _)
    exact law_machine C hR hX hbl hbA hL hi e1 e2 e3 (k h2 e4)
  by_cases c13 : op = 13
  · refine mw_tabI (tgt := 662) 13 C dL_law_33 (by decide) c13 (by decide) (by decide) rfl (by decide) ?_
    obtain ⟨r, h1, h2, e1, e2, e3, e4⟩ := o13 n h ((xs (i + 1).toNat).toInt) ((xs (i + 2).toNat).toInt) hn hRR (in32_t _) (in32_t _)
    exact law_table C hR hX hbl hbA hL hi e1 e2 e3 (k h2 e4)
  by_cases c14 : op = 14
  · refine mw_tabI (tgt := 695) 14 C dL_law_33 (by decide) c14 (by decide) (by decide) rfl (by decide) ?_
    obtain ⟨r, h1, h2, e1, e2, e3, e4⟩ := o14 n h ((xs (i + 1).toNat).toInt) ((xs (i + 2).toNat).toInt) hn hRR (in32_t _) (in32_t _)
    exact law_wash C hR hX hbl hbA hL hi e1 e2 e3 (k h2 e4)
  by_cases c15 : op = 15
  · refine mw_tabI (tgt := 728) 15 C dL_law_33 (by decide) c15 (by decide) (by decide) rfl (by decide) ?_
    obtain ⟨r, h1, h2, e1, e2, e3, e4⟩ := o15 n h ((xs (i + 1).toNat).toInt) hn hRR (in32_t _)
    exact law_begin C hR hX hbl hbA hL hi e1 e2 e3 (k h2 e4)
  by_cases c16 : op = 16
  · refine mw_tabI (tgt := 751) 16 C dL_law_33 (by decide) c16 (by decide) (by decide) rfl (by decide) ?_
    obtain ⟨r, h1, h2, e1, e2, e3, e4⟩ := o16 n h ((xs (i + 1).toNat).toInt) hn hRR (in32_t _)
    exact law_run C hR hX hbl hbA hL hi e1 e2 e3 (k h2 e4)
  by_cases c17 : op = 17
  · refine mw_tabI (tgt := 774) 17 C dL_law_33 (by decide) c17 (by decide) (by decide) rfl (by decide) ?_
    obtain ⟨r, h1, h2, e1, e2, e3, e4⟩ := o17 n h ((xs (i + 1).toNat).toInt) ((xs (i + 2).toNat).toInt) hn hRR (in32_t _) (in32_t _)
    exact law_minutes C hR hX hbl hbA hL hi e1 e2 e3 (k h2 e4)
  by_cases c18 : op = 18
  · refine mw_tabI (tgt := 807) 18 C dL_law_33 (by decide) c18 (by decide) (by decide) rfl (by decide) ?_
    obtain ⟨r, h1, h2, e1, e2, e3, e4⟩ := o18 n h ((xs (i + 1).toNat).toInt) ((xs (i + 2).toNat).toInt) hn hRR (in32_t _) (in32_t _)
    exact law_blame C hR hX hbl hbA hL hi e1 e2 e3 (k h2 e4)
  by_cases c19 : op = 19
  · refine mw_tabI (tgt := 840) 19 C dL_law_33 (by decide) c19 (by decide) (by decide) rfl (by decide) ?_
    obtain ⟨r, h1, h2, e1, e2, e3, e4⟩ := o19 n h ((xs (i + 1).toNat).toInt) hn hRR (in32_t _)
    exact law_share C hR hX hbl hbA hL hi e1 e2 e3 (k h2 e4)
  by_cases c20 : op = 20
  · refine mw_tabI (tgt := 863) 20 C dL_law_33 (by decide) c20 (by decide) (by decide) rfl (by decide) ?_
    obtain ⟨r, h1, h2, e1, e2, e3, e4⟩ := o20 n h ((xs (i + 1).toNat).toInt) ((xs (i + 2).toNat).toInt) ((xs (i + 3).toNat).toInt) hn hRR (in32_t _) (in32_t _) (in32_t _)
    exact law_tried C hR hX hbl hbA hL hi e1 e2 e3 (k h2 e4)
  by_cases c21 : op = 21
  · refine mw_tabI (tgt := 906) 21 C dL_law_33 (by decide) c21 (by decide) (by decide) rfl (by decide) ?_
    obtain ⟨r, h1, h2, e1, e2, e3, e4⟩ := o21 n h ((xs (i + 1).toNat).toInt) ((xs (i + 2).toNat).toInt) hn hRR (in32_t _) (in32_t _)
    exact law_holder C hR hX hbl hbA hL hi e1 e2 e3 (k h2 e4)
  by_cases c22 : op = 22
  · refine mw_tabI (tgt := 939) 22 C dL_law_33 (by decide) c22 (by decide) (by decide) rfl (by decide) ?_
    obtain ⟨r, h1, h2, e1, e2, e3, e4⟩ := o22 n h hn hRR
    exact law_gained C hR hX hbl hbA hL hi e1 e2 e3 (k h2 e4)
  by_cases c23 : op = 23
  · refine mw_tabI (tgt := 952) 23 C dL_law_33 (by decide) c23 (by decide) (by decide) rfl (by decide) ?_
    obtain ⟨r, h1, h2, e1, e2, e3, e4⟩ := o23 n h ((xs (i + 1).toNat).toInt) ((xs (i + 2).toNat).toInt) ((xs (i + 3).toNat).toInt) hn hRR (in32_t _) (in32_t _) (in32_t _)
    exact law_shared C hR hX hbl hbA hL hi e1 e2 e3 (k h2 e4)
  by_cases c24 : op = 24
  · refine mw_tabI (tgt := 995) 24 C dL_law_33 (by decide) c24 (by decide) (by decide) rfl (by decide) ?_
    obtain ⟨r, h1, h2, e1, e2, e3, e4⟩ := o24 n h ((xs (i + 1).toNat).toInt) hn hRR (in32_t _)
    exact law_unit C hR hX hbl hbA hL hi e1 e2 e3 (k h2 e4)
  by_cases c25 : op = 25
  · refine mw_tabI (tgt := 1018) 25 C dL_law_33 (by decide) c25 (by decide) (by decide) rfl (by decide) ?_
    obtain ⟨r, h1, h2, e1, e2, e3, e4⟩ := o25 n h ((xs (i + 1).toNat).toInt) ((xs (i + 2).toNat).toInt) ((xs (i + 3).toNat).toInt) hn hRR (in32_t _) (in32_t _) (in32_t _)
    exact law_waits C hR hX hbl hbA hL hi e1 e2 e3 (k h2 e4)
  by_cases c26 : op = 26
  · refine mw_tabI (tgt := 1061) 26 C dL_law_33 (by decide) c26 (by decide) (by decide) rfl (by decide) ?_
    obtain ⟨r, h1, h2, e1, e2, e3, e4⟩ := o26 n h ((xs (i + 1).toNat).toInt) ((xs (i + 2).toNat).toInt) hn hRR (in32_t _) (in32_t _)
    exact law_unwaited C hR hX hbl hbA hL hi e1 e2 e3 (k h2 e4)
  by_cases c27 : op = 27
  · refine mw_tabI (tgt := 1094) 27 C dL_law_33 (by decide) c27 (by decide) (by decide) rfl (by decide) ?_
    obtain ⟨r, h1, h2, e1, e2, e3, e4⟩ := o27 n h hn hRR
    exact law_work C hR hX hbl hbA hL hi e1 e2 e3 (k h2 e4)
  by_cases c28 : op = 28
  · refine mw_tabI (tgt := 1107) 28 C dL_law_33 (by decide) c28 (by decide) (by decide) rfl (by decide) ?_
    obtain ⟨r, h1, h2, e1, e2, e3, e4⟩ := o28 n h ((xs (i + 1).toNat).toInt) hn hRR (in32_t _)
    exact law_worked C hR hX hbl hbA hL hi e1 e2 e3 (k h2 e4)
  by_cases c29 : op = 29
  · refine mw_tabI (tgt := 1130) 29 C dL_law_33 (by decide) c29 (by decide) (by decide) rfl (by decide) ?_
    obtain ⟨r, h1, h2, e1, e2, e3, e4⟩ := o29 n h ((xs (i + 1).toNat).toInt) ((xs (i + 2).toNat).toInt) ((xs (i + 3).toNat).toInt) hn hRR (in32_t _) (in32_t _) (in32_t _)
    exact law_heads C hR hX hbl hbA hL hi e1 e2 e3 (k h2 e4)
  by_cases c30 : op = 30
  · refine mw_tabI (tgt := 1173) 30 C dL_law_33 (by decide) c30 (by decide) (by decide) rfl (by decide) ?_
    obtain ⟨r, h1, h2, e1, e2, e3, e4⟩ := o30 n h ((xs (i + 1).toNat).toInt) hn hRR (in32_t _)
    exact law_head C hR hX hbl hbA hL hi e1 e2 e3 (k h2 e4)
  by_cases c31 : op = 31
  · refine mw_tabI (tgt := 1196) 31 C dL_law_33 (by decide) c31 (by decide) (by decide) rfl (by decide) ?_
    obtain ⟨r, h1, h2, e1, e2, e3, e4⟩ := o31 n h ((xs (i + 1).toNat).toInt) ((xs (i + 2).toNat).toInt) ((xs (i + 3).toNat).toInt) ((xs (i + 4).toNat).toInt) ((xs (i + 5).toNat).toInt) hn hRR (in32_t _) (in32_t _) (in32_t _) (in32_t _) (in32_t _)
    exact law_brief C hR hX hbl hbA hL hi e1 e2 e3 (k h2 e4)
  by_cases c32 : op = 32
  · refine mw_tabI (tgt := 1259) 32 C dL_law_33 (by decide) c32 (by decide) (by decide) rfl (by decide) ?_
    obtain ⟨r, h1, h2, e1, e2, e3, e4⟩ := o32 n h ((xs (i + 1).toNat).toInt) ((xs (i + 2).toNat).toInt) hn hRR (in32_t _) (in32_t _)
    exact law_glass C hR hX hbl hbA hL hi e1 e2 e3 (k h2 e4)
  by_cases c33 : op = 33
  · refine mw_tabI (tgt := 1292) 33 C dL_law_33 (by decide) c33 (by decide) (by decide) rfl (by decide) ?_
    obtain ⟨r, h1, h2, e1, e2, e3, e4⟩ := o33 n h ((xs (i + 1).toNat).toInt) ((xs (i + 2).toNat).toInt) hn hRR (in32_t _) (in32_t _)
    exact law_order C hR hX hbl hbA hL hi e1 e2 e3 (k h2 e4)
  by_cases c34 : op = 34
  · refine mw_tabI (tgt := 1325) 34 C dL_law_33 (by decide) c34 (by decide) (by decide) rfl (by decide) ?_
    obtain ⟨r, h1, h2, e1, e2, e3, e4⟩ := o34 n h ((xs (i + 1).toNat).toInt) hn hRR (in32_t _)
    exact law_ordered C hR hX hbl hbA hL hi e1 e2 e3 (k h2 e4)
  by_cases c35 : op = 35
  · refine mw_tabI (tgt := 1348) 35 C dL_law_33 (by decide) c35 (by decide) (by decide) rfl (by decide) ?_
    obtain ⟨r, h1, h2, e1, e2, e3, e4⟩ := o35 n h ((xs (i + 1).toNat).toInt) hn hRR (in32_t _)
    exact law_closes C hR hX hbl hbA hL hi e1 e2 e3 (k h2 e4)
  by_cases c36 : op = 36
  · refine mw_tabI (tgt := 1371) 36 C dL_law_33 (by decide) c36 (by decide) (by decide) rfl (by decide) ?_
    obtain ⟨r, h1, h2, e1, e2, e3, e4⟩ := o36 n h ((xs (i + 1).toNat).toInt) ((xs (i + 2).toNat).toInt) ((xs (i + 3).toNat).toInt) ((xs (i + 4).toNat).toInt) ((xs (i + 5).toNat).toInt) ((xs (i + 6).toNat).toInt) hn hRR (in32_t _) (in32_t _) (in32_t _) (in32_t _) (in32_t _) (in32_t _)
    exact law_recall C hR hX hbl hbA hL hi e1 e2 e3 (k h2 e4)
  by_cases c37 : op = 37
  · refine mw_tabI (tgt := 1446) 37 C dL_law_33 (by decide) c37 (by decide) (by decide) rfl (by decide) ?_
    obtain ⟨r, h1, h2, e1, e2, e3, e4⟩ := o37 n h ((xs (i + 1).toNat).toInt) ((xs (i + 2).toNat).toInt) ((xs (i + 3).toNat).toInt) hn hRR (in32_t _) (in32_t _) (in32_t _)
    exact law_shifts C hR hX hbl hbA hL hi e1 e2 e3 (k h2 e4)
  by_cases c38 : op = 38
  · refine mw_tabI (tgt := 1489) 38 C dL_law_33 (by decide) c38 (by decide) (by decide) rfl (by decide) ?_
    obtain ⟨r, h1, h2, e1, e2, e3, e4⟩ := o38 n h ((xs (i + 1).toNat).toInt) hn hRR (in32_t _)
    exact law_shiftOf C hR hX hbl hbA hL hi e1 e2 e3 (k h2 e4)
  by_cases c39 : op = 39
  · refine mw_tabI (tgt := 1512) 39 C dL_law_33 (by decide) c39 (by decide) (by decide) rfl (by decide) ?_
    obtain ⟨r, h1, h2, e1, e2, e3, e4⟩ := o39 n h ((xs (i + 1).toNat).toInt) ((xs (i + 2).toNat).toInt) ((xs (i + 3).toNat).toInt) hn hRR (in32_t _) (in32_t _) (in32_t _)
    exact law_lot C hR hX hbl hbA hL hi e1 e2 e3 (k h2 e4)
  by_cases c40 : op = 40
  · refine mw_tabI (tgt := 1555) 40 C dL_law_33 (by decide) c40 (by decide) (by decide) rfl (by decide) ?_
    obtain ⟨r, h1, h2, e1, e2, e3, e4⟩ := o40 n h ((xs (i + 1).toNat).toInt) ((xs (i + 2).toNat).toInt) ((xs (i + 3).toNat).toInt) hn hRR (in32_t _) (in32_t _) (in32_t _)
    exact law_torn C hR hX hbl hbA hL hi e1 e2 e3 (k h2 e4)
  by_cases c41 : op = 41
  · refine mw_tabI (tgt := 1598) 41 C dL_law_33 (by decide) c41 (by decide) (by decide) rfl (by decide) ?_
    obtain ⟨r, h1, h2, e1, e2, e3, e4⟩ := o41 n h hn hRR
    exact law_mark C hR hX hbl hbA hL hi e1 e2 e3 (k h2 e4)
  by_cases c42 : op = 42
  · refine mw_tabI (tgt := 1611) 42 C dL_law_33 (by decide) c42 (by decide) (by decide) rfl (by decide) ?_
    obtain ⟨r, h1, h2, e1, e2, e3, e4⟩ := o42 n h hn hRR
    exact law_back C hR hX hbl hbA hL hi e1 e2 e3 (k h2 e4)
  refine mw_tabO (tgt := 1624) C dL_law_33 ⟨by omega, by omega⟩ (by omega) (by decide) ?_
  exact k h (hmono n h hRR)
/-- the law's end -/
theorem law_end {Z : ZT} {b L : Nat} {xs : Nat → Int32} {ce sl : Nat} (C : Cx Z cL_law 4 RL 40 (some .boolean)) (hR : ce ≤ (zR Z).cells ∧ sl ≤ (zR Z).slots) (hX : va_X b L xs (zs Z) (zs Z).heap) (hbl : b < (zs Z).heap.size) (hbA : ¬ zA (zX Z) b) (hL : L < 100000) {s0 : State} (hlg : (zh Z).sig.returnType = ret) (hz : xb (zX Z) = (zs Z).heap.size) (hzR : zR Z = room_1) (ha : za Z = #[Value.ref b]) (hce : ce ≤ 600000 ∧ sl ≤ 7302250) {lvs : List (Nat × Value)} {h : MH} : MW Z (lw_Z (zw Z) #[Value.ref b] (zs Z)) 4 zN zG h ce sl 1630 lvs [] := by
  refine mw_iconst C dL_law_1630 ?_
  intro H locs ls hP hS hl
  refine va_forget (fun q hq => by have := hS.2.2 q hq; unfold zA at this; rw [hz] at this; exact this) ?_
  refine W.widen (k := 600000) (n := 7302250) hce.1 hce.2 ?_
  have e := lw_ret (p := zp Z) (l := zl Z) (e := ze Z) (s := zs Z) (m := zm Z) (below := zw Z) (meth := zh Z) (c := zc Z) (b := b) (H := H) (ls := ls) C.hx C.hb hlg C.hlk dL_law_1631
  rw [← ha, ← hzR] at e
  rw [← ha]
  exact e
theorem law_loop {Z : ZT} {b L : Nat} {xs : Nat → Int32} {ce sl : Nat} (C : Cx Z cL_law 4 RL 40 (some .boolean)) (hR : ce ≤ (zR Z).cells ∧ sl ≤ (zR Z).slots) (hX : va_X b L xs (zs Z) (zs Z).heap) (hbl : b < (zs Z).heap.size) (hbA : ¬ zA (zX Z) b) (hL : L < 100000) (hlg : (zh Z).sig.returnType = ret) (hz : xb (zX Z) = (zs Z).heap.size) (hzR : zR Z = room_1) (ha : za Z = #[Value.ref b]) (hce : ce ≤ 600000 ∧ sl ≤ 7302250) {RR : Nat → MH → Prop} (ob : Ob_all RR) (hmono : ∀ n h, RR n h → RR (n + 1) h) (hLb : L ≤ 3584) : ∀ (f : Nat) (n : Nat) (h : MH), 512 - n < f → n ≤ 512 → 7 * n ≤ L → RR n h → ∀ i : Int, i = 7 * (n : Int) → MW Z (lw_Z (zw Z) #[Value.ref b] (zs Z)) 4 zN zG h ce sl 18 [(3, iv i), (2, rfv (xd (zX Z)) 141), (1, rfv (xd (zX Z)) 0), (0, .ref b)] [] := by
  intro f
  induction f with
  | zero => intro n h hf; omega
  | succ f ih =>
    intro n h hf hn512 hnL hRR i hi
    have hi32 : in32 i := by omega
    have hL32 : in32 ((L : Int) - 7) := by omega
    refine mw_iload_n 0 C dL_law_18 rfl rfl ?_
    refine mw_aload_n 3 C dL_law_19 rfl rfl ?_
    refine mw_slen C dL_law_20 hX hbl hbA ?_
    refine mw_bipush C dL_law_21 bp_7 ?_
    refine mw_isub C dL_law_23 ?_
    by_cases c : (L : Int) - 7 < i
    · refine mw_icmp_gt_t (tgt := 1630) C dL_law_24 (by decide) hi32 hL32 c ?_
      exact law_end C hR hX hbl hbA hL (s0 := zs Z) hlg hz hzR ha hce
    · refine mw_icmp_gt_f (tgt := 1630) C dL_law_24 (by decide) hi32 hL32 c ?_
      refine law_body C hR hX hbl hbA hL ob hmono (by omega) (n := n) (by omega) hRR (fun h2 hRR2 => ?_)
      refine mw_iinc 0 [(3, iv (i + 7)), (2, rfv (xd (zX Z)) 141), (1, rfv (xd (zX Z)) 0), (0, .ref b)] C dL_law_1624 rfl (by decide) rfl ?_
      refine mw_goto (tgt := 18) C dL_law_1627 (by decide) ?_
      exact ih (n + 1) h2 (by omega) (by omega) (by omega) hRR2 (i + 7) (by omega)
