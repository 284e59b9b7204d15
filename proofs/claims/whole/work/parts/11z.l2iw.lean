/-! ===== l2i that cuts ===== -/
section
variable {Z : ZT} {Q : State → Prop} {cc : ByteArray} {nL : Nat} {own : String} {dd : Nat} {rt : Option FieldType} {n : Nat} {g : GH} {h : MH} {ce sl pc : Nat} {lvs : List (Nat × Value)} {rest : List Value}
def w32 (x : Int) : Int := (x + 2147483648) % 4294967296 - 2147483648
theorem w32_bmod (x : Int) : x.bmod 4294967296 = w32 x := by
  unfold w32
  rw [Int.bmod_def]
  split <;> omega
theorem w32_in (x : Int) : in32 (w32 x) := by unfold w32; constructor <;> omega
theorem i_w32 (x : Int) : Int32.ofInt x = Int32.ofInt (w32 x) := by
  apply Int32.toInt.inj
  rw [i_toInt (w32_in x), Int32.toInt_ofInt]
  exact w32_bmod x
theorem mw_l2iw {x : Int} (C : Cx Z cc nL own dd rt) (d : decode cc pc = .ok (.l2i, 1)) (k : MW Z Q nL n g h ce sl (pc + 1) lvs (iv (w32 x) :: rest)) : MW Z Q nL n g h ce sl pc lvs (lvv x :: rest) :=
  fun H locs ls hP hS hl => lv_l2i C.hx C.hb d (Int64.toInt32_ofInt.trans (i_w32 x)) (k H locs ls hP hS hl)
end
