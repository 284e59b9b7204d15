section STR
variable {Z : ZT} {Q : State → Prop} {cc : ByteArray} {nL : Nat} {own : String} {dd : Nat} {rt : Option FieldType} {n : Nat} {g : GH} {h : MH} {ce sl pc : Nat} {lvs : List (Nat × Value)} {rest : List Value}
theorem in32_sl {i : Nat} {x : Int} (hi : i < 21) (h : 0 ≤ x ∧ x < slen i) : in32 x := sorry
theorem mw_strlen {i idx : Nat} (C : Cx Z cc nL own dd rt) (d : decode cc pc = .ok (.invokevirtual idx, 3)) (hw1 : Cond.methodLink own idx yJ0_length_8abf5 ∈ lwg) (hi : i < 21) (hdd : 5 ≤ dd) (hrm : (rest.map fun v => v.category).sum ≤ 8) (k : MW Z Q nL n g h ce sl (pc + 3) lvs (iv (slen i) :: rest)) : MW Z Q nL n g h ce sl pc lvs (.ref (xa (zX Z) i) :: rest) := sorry
theorem mw_charAt {i idx : Nat} {x : Int} (C : Cx Z cc nL own dd rt) (d : decode cc pc = .ok (.invokevirtual idx, 3)) (hw1 : Cond.methodLink own idx yJ0_charAt_5068e ∈ lwg) (hi : i < 21) (hx : 0 ≤ x ∧ x < slen i) (hdd : 5 ≤ dd) (hrm : (rest.map fun v => v.category).sum ≤ 8) (k : MW Z Q nL n g h ce sl (pc + 3) lvs (iv (sch i x.toNat) :: rest)) : MW Z Q nL n g h ce sl pc lvs (iv x :: .ref (xa (zX Z) i) :: rest) := sorry
end STR
