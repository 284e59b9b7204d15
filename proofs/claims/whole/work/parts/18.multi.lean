/-! vr_outer: from the printed names' head -/
theorem vr_outer (c : ClassId) (N h0 : Nat) : ∀ i : Nat, Jvm.Free.Multi.outerC c N h0 i = arrV c N (fun j => va_rf (if j < i then some (h0 + 1 + j) else none))
  | 0 => by
    show ({ cls := c, slots := Array.replicate N .null, vm := .none } : Cell) = _
    rw [arrV_new]
    refine congrArg (arrV c N) (funext fun j => ?_)
    simp [va_rf]
  | i + 1 => by
    show (Jvm.Free.Multi.outerC c N h0 i).setSlot i (.ref (h0 + 1 + i)) = _
    rw [vr_outer c N h0 i, arrV_store]
    refine congrArg (arrV c N) (funext fun j => ?_)
    by_cases e : j = i
    · subst e
      simp [updV, va_rf]
    · by_cases h : j < i
      · simp [updV, e, h, Nat.lt_succ_of_lt h]
      · simp [updV, e, h, show ¬ j < i + 1 by omega]
def gmul (g : GH) (n : Nat) : GH := gup (gup (gup (gup g n 0 (n + 1)) n 1 (n + 2)) n 2 (n + 3)) n 3 (n + 4)
theorem gmul_at {g : GH} {n : Nat} {h : MH} (fz : Fz n g h) (j : Nat) : gmul g n n j = if j < 4 then some (n + 1 + j) else none := by
  unfold gmul gup
  by_cases h0 : j = 3
  · subst h0; simp
  · by_cases h1 : j = 2
    · subst h1; simp
    · by_cases h2 : j = 1
      · subst h2; simp
      · by_cases h3 : j = 0
        · subst h3; simp
        · simp only [h0, h1, h2, h3, and_false, if_false]
          rw [if_neg (show ¬ j < 4 by omega)]
          exact (fz n (Nat.le_refl _) j).2
theorem gmul_ne {g : GH} {n : Nat} {c k : Nat} (hc : c ≠ n) : gmul g n c k = g c k := by
  simp [gmul, gup, hc]
theorem zE_gm {ad : Nat → Nat} {cy : Nat → ClassId} {g : GH} {h : MH} {n c : Nat} (hc : c ≠ n) : zE ad cy (gmul g n) h c = zE ad cy g h c := by
  simp [zE, zfv, gmul_ne hc]
section MUL
variable {Z : ZT} {Q : State → Prop} {cc : ByteArray} {nL : Nat} {own : String} {dd : Nat} {rt : Option FieldType} {n n0 : Nat} {g : GH} {h : MH} {ce sl pc : Nat} {lvs : List (Nat × Value)} {rest : List Value}
theorem mw_multi {idx : Nat} (C : Cx Z cc nL own dd rt) (d : decode cc pc = .ok (.multianewarray idx 2, 4)) (had : zAd (zX Z)) (hs : (zs Z).heap.size = xb (zX Z) + n0) (hn : n0 + ce = n) (hao : zAO (zs Z)) (fz : Fz n g h) (hK : zK n = (26, 4)) (hKi : ∀ j, j < 4 → zK (n + 1 + j) = (22, 60))
    (hw1 : Cond.classLink own idx "[[J" ∈ lwg) (hw2 : Cond.arrayClass .long ∈ lwg) (hce : ce + 5 ≤ (zR Z).cells ∧ sl + 244 ≤ (zR Z).slots)
    (k : MW Z Q nL (n + 5) (gmul g n) h (ce + 5) (sl + 244) (pc + 4) lvs (rfv (xd (zX Z)) n :: rest)) : MW Z Q nL n g h ce sl pc lvs (iv 60 :: iv 4 :: rest) := by
  intro H locs ls hP hS hl T9 hT Xs
  have hz := sz_is had hs hn hP hS hT Xs
  have hover : (Cond.arrayOver (.array .long)).before (za Z) (zs Z) = true := zao_arr (Vm.Alike.refl _) (hao _ (by simp [zOver]))
  have c4 : (Int32.ofInt 4).toNatClampNeg = 4 := by decide +kernel
  have c60 : (Int32.ofInt 60).toNatClampNeg = 60 := by decide +kernel
  obtain ⟨vm₁, cA, comp, -, fA, fC, hO, -, X', step⟩ := Xs.multianewarray2F (ty := .long) C.hx C.hown (C.hts _ hw1) hover (C.hts _ hw2) (g := F0 (zm Z) pc ls (iv 60 :: iv 4 :: rest)) rfl (by rw [C.hb]; exact d) rfl (by decide +kernel) (by decide +kernel) (by rw [c4]; decide) (by rw [c60]; decide) (by rw [c60]; decide) (by decide +kernel) (by decide +kernel) (by rw [c4]; have := hce.1; omega) (by rw [c4, c60]; have := hce.2; omega)
  rw [c4, c60] at X' step
  have hcJ : comp = xy (zX Z) 2 := Option.some.inj (fC.symm.trans (C.hK.2 2 (xy (zX Z) 2, .long) rfl).2)
  have hcA : cA = xy (zX Z) 6 := Option.some.inj (fA.symm.trans (C.hK.2 6 (xy (zX Z) 6, .array .long) rfl).2)
  subst hcJ
  subst hcA
  generalize hF : Jvm.Free.Multi.fill (T9.setVm vm₁) (xy (zX Z) 6) (xy (zX Z) 2) 4 60 (defaultValue .long) 4 = F at X' step
  have hTh : (T9.setVm vm₁).heap = H := hT
  obtain ⟨f1, f2, -, -⟩ := Jvm.Free.Multi.fill_facts (T9.setVm vm₁) (xy (zX Z) 6) (xy (zX Z) 2) 4 60 (defaultValue .long) 4
  rw [hF, hTh] at f1 f2
  have hold : ∀ x : Nat, x < H.size → F.heap[x]? = H[x]? := fun x hx => by
    have := Jvm.Free.Multi.fill_old (T9.setVm vm₁) (xy (zX Z) 6) (xy (zX Z) 2) 4 60 (defaultValue .long) (a := x) (by rw [hTh]; exact hx) 4
    rw [hF, hTh] at this
    exact this
  have hrow : ∀ j : Nat, j < 4 → F.heap[H.size + 1 + j]? = some (vp_cell (xy (zX Z) 2) (60, .inr (.inl fun _ => 0))) := fun j hj => by
    have := Jvm.Free.Multi.fill_inner (T9.setVm vm₁) (xy (zX Z) 6) (xy (zX Z) 2) 4 60 (defaultValue .long) 4 j hj
    rw [hF, hTh] at this
    rw [this, vp_cell_l]
    refine congrArg some ?_
    show ({ cls := xy (zX Z) 2, slots := Array.replicate 60 (defaultValue .long), vm := .none } : Cell) = _
    rw [arrV_new]
    rfl
  rw [vr_outer] at f2
  have hpp : va_P (xD (zX Z)) vwCl (zW (xd (zX Z)) (xy (zX Z)) (n + 5) (gmul g n) h) F.heap := by
    intro i q hq
    obtain ⟨hi, rfl⟩ := zW_inv hq
    by_cases h1 : i < n
    · rw [zE_gm (by omega)]
      exact (hP.1 i _ (zW_at h1)).kept (hold _ (hP.1 i _ (zW_at h1)).lt)
    · by_cases h2 : i = n
      · subst h2
        rw [zE_q (t := 6) hK (by decide)]
        show F.heap[_]? = some (vp_cell _ _)
        rw [← hz, f2, vp_cell_q]
        refine congrArg some (congrArg _ (funext fun j => ?_))
        rw [gmul_at fz, hz]
        by_cases hj : j < 4
        · rw [if_pos hj, if_pos hj]
          show va_rf (some (xd (zX Z) i + 1 + j)) = va_rf (some (xd (zX Z) (i + 1 + j)))
          rw [had, had]
          congr 2
          omega
        · rw [if_neg hj, if_neg hj]
          rfl
      · obtain ⟨j, hj, rfl⟩ : ∃ j, j < 4 ∧ i = n + 1 + j := ⟨i - n - 1, by omega, by omega⟩
        rw [zE_gm (by omega), zE_l (hKi j hj)]
        show F.heap[_]? = some (vp_cell _ _)
        have e : xd (zX Z) (n + 1 + j) = H.size + 1 + j := by rw [hz, had, had]; omega
        have e5 : (fun _ : Nat => (0 : Int64)) = fun q => Int64.ofInt (h (n + 1 + j) q) := funext fun q => by
          rw [(fz (n + 1 + j) (by omega) q).1]
          rfl
        rw [e, hrow j hj, e5]
  obtain ⟨t, a1, b1⟩ := k F.heap locs ls ⟨hpp, zInj_of had _⟩ (hS.grow (by rw [f1]; omega) hold) hl F rfl X'
  refine ⟨t, step t ?_, b1⟩
  have e : T9.heap.size = xd (zX Z) n := by rw [hT, hz]
  rw [e]
  exact a1
end MUL
