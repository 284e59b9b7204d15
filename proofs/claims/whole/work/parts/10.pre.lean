/-! ===== what the generated rows use ===== -/
def nx {α β : Type} (a : α) (k : α → Option β) : Option β := k a
theorem nx_some {α β : Type} {a : α} {k : α → Option β} {t : β} (h : nx a k = some t) : ∃ v, a = v ∧ k v = some t := ⟨a, rfl, h⟩
theorem in64_of {x : Int} (h : in32 x) : in64 x := ⟨by omega, by omega⟩
theorem nz_n {v : Int} (h : v = 0 ∨ v = 1) : narrow .boolean (iv v) = iv v := by rcases h with rfl | rfl <;> decide +kernel
theorem nz_f {v : Int} (h : v = 0 ∨ v = 1) : fits .boolean (iv v) = true := by rcases h with rfl | rfl <;> decide +kernel
theorem ix_lt {x : Int} {n : Nat} (h : 0 ≤ x ∧ x < (n : Int)) : x.toNat < n := by omega
theorem lc_0 : Int64.ofNat ((0 : Fin 2) : Nat) = Int64.ofInt 0 := by decide +kernel
theorem lc_1 : Int64.ofNat ((1 : Fin 2) : Nat) = Int64.ofInt 1 := by decide +kernel
section PRE
variable {Z : ZT} {Q : State → Prop} {nL n : Nat} {g : GH} {h : MH} {ce sl pc : Nat} {lvs : List (Nat × Value)} {rest : List Value}
theorem mw_h {h' : MH} (e : h = h') (k : MW Z Q nL n g h' ce sl pc lvs rest) : MW Z Q nL n g h ce sl pc lvs rest := by subst e; exact k
theorem mw_ti {x y : Int} (e : x = y) (k : MW Z Q nL n g h ce sl pc lvs (iv y :: rest)) : MW Z Q nL n g h ce sl pc lvs (iv x :: rest) := by subst e; exact k
theorem mw_tl {x y : Int} (e : x = y) (k : MW Z Q nL n g h ce sl pc lvs (lvv y :: rest)) : MW Z Q nL n g h ce sl pc lvs (lvv x :: rest) := by subst e; exact k
theorem zfv_r {ad : Nat → Nat} {ci k c c2 : Nat} (hk : zfk (zft ci k) = 2) (hg : g c k = some c2) : zfv ad ci k c g h = rfv ad c2 := by
  unfold zfv
  rw [hk, hg]
  rfl
end PRE
theorem bp_6 : (Int8.ofInt 6).toInt32 = Int32.ofInt 6 := by decide +kernel
theorem bp_7 : (Int8.ofInt 7).toInt32 = Int32.ofInt 7 := by decide +kernel
theorem bp_8 : (Int8.ofInt 8).toInt32 = Int32.ofInt 8 := by decide +kernel
theorem bp_9 : (Int8.ofInt 9).toInt32 = Int32.ofInt 9 := by decide +kernel
theorem bp_10 : (Int8.ofInt 10).toInt32 = Int32.ofInt 10 := by decide +kernel
theorem bp_11 : (Int8.ofInt 11).toInt32 = Int32.ofInt 11 := by decide +kernel
theorem bp_12 : (Int8.ofInt 12).toInt32 = Int32.ofInt 12 := by decide +kernel
theorem bp_13 : (Int8.ofInt 13).toInt32 = Int32.ofInt 13 := by decide +kernel
theorem bp_14 : (Int8.ofInt 14).toInt32 = Int32.ofInt 14 := by decide +kernel
theorem bp_16 : (Int8.ofInt 16).toInt32 = Int32.ofInt 16 := by decide +kernel
theorem bp_20 : (Int8.ofInt 20).toInt32 = Int32.ofInt 20 := by decide +kernel
theorem bp_24 : (Int8.ofInt 24).toInt32 = Int32.ofInt 24 := by decide +kernel
theorem bp_30 : (Int8.ofInt 30).toInt32 = Int32.ofInt 30 := by decide +kernel
theorem bp_32 : (Int8.ofInt 32).toInt32 = Int32.ofInt 32 := by decide +kernel
theorem bp_36 : (Int8.ofInt 36).toInt32 = Int32.ofInt 36 := by decide +kernel
theorem bp_48 : (Int8.ofInt 48).toInt32 = Int32.ofInt 48 := by decide +kernel
theorem bp_49 : (Int8.ofInt 49).toInt32 = Int32.ofInt 49 := by decide +kernel
theorem bp_57 : (Int8.ofInt 57).toInt32 = Int32.ofInt 57 := by decide +kernel
theorem bp_59 : (Int8.ofInt 59).toInt32 = Int32.ofInt 59 := by decide +kernel
theorem bp_60 : (Int8.ofInt 60).toInt32 = Int32.ofInt 60 := by decide +kernel
theorem bp_63 : (Int8.ofInt 63).toInt32 = Int32.ofInt 63 := by decide +kernel
theorem bp_64 : (Int8.ofInt 64).toInt32 = Int32.ofInt 64 := by decide +kernel
theorem bp_97 : (Int8.ofInt 97).toInt32 = Int32.ofInt 97 := by decide +kernel
theorem bp_99 : (Int8.ofInt 99).toInt32 = Int32.ofInt 99 := by decide +kernel
theorem bp_100 : (Int8.ofInt 100).toInt32 = Int32.ofInt 100 := by decide +kernel
theorem bp_104 : (Int8.ofInt 104).toInt32 = Int32.ofInt 104 := by decide +kernel
theorem bp_122 : (Int8.ofInt 122).toInt32 = Int32.ofInt 122 := by decide +kernel
theorem bp_127 : (Int8.ofInt 127).toInt32 = Int32.ofInt 127 := by decide +kernel
theorem sp_140 : (Int16.ofInt 140).toInt32 = Int32.ofInt 140 := by decide +kernel
theorem sp_144 : (Int16.ofInt 144).toInt32 = Int32.ofInt 144 := by decide +kernel
theorem sp_189 : (Int16.ofInt 189).toInt32 = Int32.ofInt 189 := by decide +kernel
theorem sp_190 : (Int16.ofInt 190).toInt32 = Int32.ofInt 190 := by decide +kernel
theorem sp_240 : (Int16.ofInt 240).toInt32 = Int32.ofInt 240 := by decide +kernel
theorem sp_255 : (Int16.ofInt 255).toInt32 = Int32.ofInt 255 := by decide +kernel
theorem sp_300 : (Int16.ofInt 300).toInt32 = Int32.ofInt 300 := by decide +kernel
theorem sp_440 : (Int16.ofInt 440).toInt32 = Int32.ofInt 440 := by decide +kernel
theorem sp_680 : (Int16.ofInt 680).toInt32 = Int32.ofInt 680 := by decide +kernel
theorem sp_700 : (Int16.ofInt 700).toInt32 = Int32.ofInt 700 := by decide +kernel
theorem sp_896 : (Int16.ofInt 896).toInt32 = Int32.ofInt 896 := by decide +kernel
theorem sp_999 : (Int16.ofInt 999).toInt32 = Int32.ofInt 999 := by decide +kernel
theorem sp_1000 : (Int16.ofInt 1000).toInt32 = Int32.ofInt 1000 := by decide +kernel
theorem sp_1760 : (Int16.ofInt 1760).toInt32 = Int32.ofInt 1760 := by decide +kernel
theorem sp_1761 : (Int16.ofInt 1761).toInt32 = Int32.ofInt 1761 := by decide +kernel
theorem sp_1765 : (Int16.ofInt 1765).toInt32 = Int32.ofInt 1765 := by decide +kernel
theorem sp_1900 : (Int16.ofInt 1900).toInt32 = Int32.ofInt 1900 := by decide +kernel
theorem sp_1950 : (Int16.ofInt 1950).toInt32 = Int32.ofInt 1950 := by decide +kernel
theorem sp_2200 : (Int16.ofInt 2200).toInt32 = Int32.ofInt 2200 := by decide +kernel
theorem sp_2203 : (Int16.ofInt 2203).toInt32 = Int32.ofInt 2203 := by decide +kernel
theorem sp_2640 : (Int16.ofInt 2640).toInt32 = Int32.ofInt 2640 := by decide +kernel
theorem sp_3373 : (Int16.ofInt 3373).toInt32 = Int32.ofInt 3373 := by decide +kernel
theorem sp_9999 : (Int16.ofInt 9999).toInt32 = Int32.ofInt 9999 := by decide +kernel
theorem sp_10000 : (Int16.ofInt 10000).toInt32 = Int32.ofInt 10000 := by decide +kernel
theorem sp_10199 : (Int16.ofInt 10199).toInt32 = Int32.ofInt 10199 := by decide +kernel
theorem sp_10200 : (Int16.ofInt 10200).toInt32 = Int32.ofInt 10200 := by decide +kernel
theorem sp_12289 : (Int16.ofInt 12289).toInt32 = Int32.ofInt 12289 := by decide +kernel
theorem zk0 : zK 0 = (11, 19) := by decide +kernel
theorem zn0 : 0 < zN := by decide
theorem zk1 : zK 1 = (26, 4) := by decide +kernel
theorem zn1 : 1 < zN := by decide
theorem zk2 : zK 2 = (22, 60) := by decide +kernel
theorem zn2 : 2 < zN := by decide
theorem zk3 : zK 3 = (22, 60) := by decide +kernel
theorem zn3 : 3 < zN := by decide
theorem zk4 : zK 4 = (22, 60) := by decide +kernel
theorem zn4 : 4 < zN := by decide
theorem zk5 : zK 5 = (22, 60) := by decide +kernel
theorem zn5 : 5 < zN := by decide
theorem zk6 : zK 6 = (21, 4) := by decide +kernel
theorem zn6 : 6 < zN := by decide
theorem zk7 : zK 7 = (21, 4) := by decide +kernel
theorem zn7 : 7 < zN := by decide
theorem zk8 : zK 8 = (8, 11) := by decide +kernel
theorem zn8 : 8 < zN := by decide
theorem zk9 : zK 9 = (20, 700) := by decide +kernel
theorem zn9 : 9 < zN := by decide
theorem zk10 : zK 10 = (3, 6) := by decide +kernel
theorem zn10 : 10 < zN := by decide
theorem zk11 : zK 11 = (5, 5) := by decide +kernel
theorem zn11 : 11 < zN := by decide
theorem zk12 : zK 12 = (1, 14) := by decide +kernel
theorem zn12 : 12 < zN := by decide
theorem zk13 : zK 13 = (21, 6) := by decide +kernel
theorem zn13 : 13 < zN := by decide
theorem zk14 : zK 14 = (21, 6) := by decide +kernel
theorem zn14 : 14 < zN := by decide
theorem zk15 : zK 15 = (21, 6) := by decide +kernel
theorem zn15 : 15 < zN := by decide
theorem zk16 : zK 16 = (21, 6) := by decide +kernel
theorem zn16 : 16 < zN := by decide
theorem zk17 : zK 17 = (21, 6) := by decide +kernel
theorem zn17 : 17 < zN := by decide
theorem zk18 : zK 18 = (21, 6) := by decide +kernel
theorem zn18 : 18 < zN := by decide
theorem zk19 : zK 19 = (21, 6) := by decide +kernel
theorem zn19 : 19 < zN := by decide
theorem zk20 : zK 20 = (21, 6) := by decide +kernel
theorem zn20 : 20 < zN := by decide
theorem zk21 : zK 21 = (21, 24) := by decide +kernel
theorem zn21 : 21 < zN := by decide
theorem zk22 : zK 22 = (21, 36) := by decide +kernel
theorem zn22 : 22 < zN := by decide
theorem zk23 : zK 23 = (22, 6) := by decide +kernel
theorem zn23 : 23 < zN := by decide
theorem zk24 : zK 24 = (21, 6) := by decide +kernel
theorem zn24 : 24 < zN := by decide
theorem zk25 : zK 25 = (21, 49) := by decide +kernel
theorem zn25 : 25 < zN := by decide
theorem zk26 : zK 26 = (22, 7) := by decide +kernel
theorem zn26 : 26 < zN := by decide
theorem zk27 : zK 27 = (7, 4) := by decide +kernel
theorem zn27 : 27 < zN := by decide
theorem zk28 : zK 28 = (6, 5) := by decide +kernel
theorem zn28 : 28 < zN := by decide
theorem zk29 : zK 29 = (21, 30) := by decide +kernel
theorem zn29 : 29 < zN := by decide
theorem zk30 : zK 30 = (22, 30) := by decide +kernel
theorem zn30 : 30 < zN := by decide
theorem zk31 : zK 31 = (21, 30) := by decide +kernel
theorem zn31 : 31 < zN := by decide
theorem zk32 : zK 32 = (21, 30) := by decide +kernel
theorem zn32 : 32 < zN := by decide
theorem zk33 : zK 33 = (21, 3) := by decide +kernel
theorem zn33 : 33 < zN := by decide
theorem zk34 : zK 34 = (5, 5) := by decide +kernel
theorem zn34 : 34 < zN := by decide
theorem zk35 : zK 35 = (1, 14) := by decide +kernel
theorem zn35 : 35 < zN := by decide
theorem zk36 : zK 36 = (21, 6) := by decide +kernel
theorem zn36 : 36 < zN := by decide
theorem zk37 : zK 37 = (21, 6) := by decide +kernel
theorem zn37 : 37 < zN := by decide
theorem zk38 : zK 38 = (21, 6) := by decide +kernel
theorem zn38 : 38 < zN := by decide
theorem zk39 : zK 39 = (21, 6) := by decide +kernel
theorem zn39 : 39 < zN := by decide
theorem zk40 : zK 40 = (21, 6) := by decide +kernel
theorem zn40 : 40 < zN := by decide
theorem zk41 : zK 41 = (21, 6) := by decide +kernel
theorem zn41 : 41 < zN := by decide
theorem zk42 : zK 42 = (21, 6) := by decide +kernel
theorem zn42 : 42 < zN := by decide
theorem zk43 : zK 43 = (21, 6) := by decide +kernel
theorem zn43 : 43 < zN := by decide
theorem zk44 : zK 44 = (21, 24) := by decide +kernel
theorem zn44 : 44 < zN := by decide
theorem zk45 : zK 45 = (21, 36) := by decide +kernel
theorem zn45 : 45 < zN := by decide
theorem zk46 : zK 46 = (22, 6) := by decide +kernel
theorem zn46 : 46 < zN := by decide
theorem zk47 : zK 47 = (21, 6) := by decide +kernel
theorem zn47 : 47 < zN := by decide
theorem zk48 : zK 48 = (21, 49) := by decide +kernel
theorem zn48 : 48 < zN := by decide
theorem zk49 : zK 49 = (6, 5) := by decide +kernel
theorem zn49 : 49 < zN := by decide
theorem zk50 : zK 50 = (21, 30) := by decide +kernel
theorem zn50 : 50 < zN := by decide
theorem zk51 : zK 51 = (22, 30) := by decide +kernel
theorem zn51 : 51 < zN := by decide
theorem zk52 : zK 52 = (21, 30) := by decide +kernel
theorem zn52 : 52 < zN := by decide
theorem zk53 : zK 53 = (21, 30) := by decide +kernel
theorem zn53 : 53 < zN := by decide
theorem zk54 : zK 54 = (24, 3) := by decide +kernel
theorem zn54 : 54 < zN := by decide
theorem zk55 : zK 55 = (25, 3) := by decide +kernel
theorem zn55 : 55 < zN := by decide
theorem zk56 : zK 56 = (9, 7) := by decide +kernel
theorem zn56 : 56 < zN := by decide
theorem zk57 : zK 57 = (1, 14) := by decide +kernel
theorem zn57 : 57 < zN := by decide
theorem zk58 : zK 58 = (21, 6) := by decide +kernel
theorem zn58 : 58 < zN := by decide
theorem zk59 : zK 59 = (21, 6) := by decide +kernel
theorem zn59 : 59 < zN := by decide
theorem zk60 : zK 60 = (21, 6) := by decide +kernel
theorem zn60 : 60 < zN := by decide
theorem zk61 : zK 61 = (21, 6) := by decide +kernel
theorem zn61 : 61 < zN := by decide
theorem zk62 : zK 62 = (21, 6) := by decide +kernel
theorem zn62 : 62 < zN := by decide
theorem zk63 : zK 63 = (21, 6) := by decide +kernel
theorem zn63 : 63 < zN := by decide
theorem zk64 : zK 64 = (21, 6) := by decide +kernel
theorem zn64 : 64 < zN := by decide
theorem zk65 : zK 65 = (21, 6) := by decide +kernel
theorem zn65 : 65 < zN := by decide
theorem zk66 : zK 66 = (21, 24) := by decide +kernel
theorem zn66 : 66 < zN := by decide
theorem zk67 : zK 67 = (21, 36) := by decide +kernel
theorem zn67 : 67 < zN := by decide
theorem zk68 : zK 68 = (21, 5) := by decide +kernel
theorem zn68 : 68 < zN := by decide
theorem zk69 : zK 69 = (21, 5) := by decide +kernel
theorem zn69 : 69 < zN := by decide
theorem zk70 : zK 70 = (0, 9) := by decide +kernel
theorem zn70 : 70 < zN := by decide
theorem zk71 : zK 71 = (21, 3) := by decide +kernel
theorem zn71 : 71 < zN := by decide
theorem zk72 : zK 72 = (21, 3) := by decide +kernel
theorem zn72 : 72 < zN := by decide
theorem zk73 : zK 73 = (2, 5) := by decide +kernel
theorem zn73 : 73 < zN := by decide
theorem zk74 : zK 74 = (22, 144) := by decide +kernel
theorem zn74 : 74 < zN := by decide
theorem zk75 : zK 75 = (10, 4) := by decide +kernel
theorem zn75 : 75 < zN := by decide
theorem zk76 : zK 76 = (21, 7) := by decide +kernel
theorem zn76 : 76 < zN := by decide
theorem zk77 : zK 77 = (21, 7) := by decide +kernel
theorem zn77 : 77 < zN := by decide
theorem zk78 : zK 78 = (4, 3) := by decide +kernel
theorem zn78 : 78 < zN := by decide
theorem zk79 : zK 79 = (21, 8) := by decide +kernel
theorem zn79 : 79 < zN := by decide
theorem zk80 : zK 80 = (22, 8) := by decide +kernel
theorem zn80 : 80 < zN := by decide
theorem zk81 : zK 81 = (5, 5) := by decide +kernel
theorem zn81 : 81 < zN := by decide
theorem zk82 : zK 82 = (1, 14) := by decide +kernel
theorem zn82 : 82 < zN := by decide
theorem zk83 : zK 83 = (21, 6) := by decide +kernel
theorem zn83 : 83 < zN := by decide
theorem zk84 : zK 84 = (21, 6) := by decide +kernel
theorem zn84 : 84 < zN := by decide
theorem zk85 : zK 85 = (21, 6) := by decide +kernel
theorem zn85 : 85 < zN := by decide
theorem zk86 : zK 86 = (21, 6) := by decide +kernel
theorem zn86 : 86 < zN := by decide
theorem zk87 : zK 87 = (21, 6) := by decide +kernel
theorem zn87 : 87 < zN := by decide
theorem zk88 : zK 88 = (21, 6) := by decide +kernel
theorem zn88 : 88 < zN := by decide
theorem zk89 : zK 89 = (21, 6) := by decide +kernel
theorem zn89 : 89 < zN := by decide
theorem zk90 : zK 90 = (21, 6) := by decide +kernel
theorem zn90 : 90 < zN := by decide
theorem zk91 : zK 91 = (21, 24) := by decide +kernel
theorem zn91 : 91 < zN := by decide
theorem zk92 : zK 92 = (21, 36) := by decide +kernel
theorem zn92 : 92 < zN := by decide
theorem zk93 : zK 93 = (22, 6) := by decide +kernel
theorem zn93 : 93 < zN := by decide
theorem zk94 : zK 94 = (21, 6) := by decide +kernel
theorem zn94 : 94 < zN := by decide
theorem zk95 : zK 95 = (21, 49) := by decide +kernel
theorem zn95 : 95 < zN := by decide
theorem zk96 : zK 96 = (6, 5) := by decide +kernel
theorem zn96 : 96 < zN := by decide
theorem zk97 : zK 97 = (21, 30) := by decide +kernel
theorem zn97 : 97 < zN := by decide
theorem zk98 : zK 98 = (22, 30) := by decide +kernel
theorem zn98 : 98 < zN := by decide
theorem zk99 : zK 99 = (21, 30) := by decide +kernel
theorem zn99 : 99 < zN := by decide
theorem zk100 : zK 100 = (21, 30) := by decide +kernel
theorem zn100 : 100 < zN := by decide
theorem zk101 : zK 101 = (5, 5) := by decide +kernel
theorem zn101 : 101 < zN := by decide
theorem zk102 : zK 102 = (1, 14) := by decide +kernel
theorem zn102 : 102 < zN := by decide
theorem zk103 : zK 103 = (21, 6) := by decide +kernel
theorem zn103 : 103 < zN := by decide
theorem zk104 : zK 104 = (21, 6) := by decide +kernel
theorem zn104 : 104 < zN := by decide
theorem zk105 : zK 105 = (21, 6) := by decide +kernel
theorem zn105 : 105 < zN := by decide
theorem zk106 : zK 106 = (21, 6) := by decide +kernel
theorem zn106 : 106 < zN := by decide
theorem zk107 : zK 107 = (21, 6) := by decide +kernel
theorem zn107 : 107 < zN := by decide
theorem zk108 : zK 108 = (21, 6) := by decide +kernel
theorem zn108 : 108 < zN := by decide
theorem zk109 : zK 109 = (21, 6) := by decide +kernel
theorem zn109 : 109 < zN := by decide
theorem zk110 : zK 110 = (21, 6) := by decide +kernel
theorem zn110 : 110 < zN := by decide
theorem zk111 : zK 111 = (21, 24) := by decide +kernel
theorem zn111 : 111 < zN := by decide
theorem zk112 : zK 112 = (21, 36) := by decide +kernel
theorem zn112 : 112 < zN := by decide
theorem zk113 : zK 113 = (22, 6) := by decide +kernel
theorem zn113 : 113 < zN := by decide
theorem zk114 : zK 114 = (21, 6) := by decide +kernel
theorem zn114 : 114 < zN := by decide
theorem zk115 : zK 115 = (21, 49) := by decide +kernel
theorem zn115 : 115 < zN := by decide
theorem zk116 : zK 116 = (6, 5) := by decide +kernel
theorem zn116 : 116 < zN := by decide
theorem zk117 : zK 117 = (21, 30) := by decide +kernel
theorem zn117 : 117 < zN := by decide
theorem zk118 : zK 118 = (22, 30) := by decide +kernel
theorem zn118 : 118 < zN := by decide
theorem zk119 : zK 119 = (21, 30) := by decide +kernel
theorem zn119 : 119 < zN := by decide
theorem zk120 : zK 120 = (21, 30) := by decide +kernel
theorem zn120 : 120 < zN := by decide
theorem zk121 : zK 121 = (5, 5) := by decide +kernel
theorem zn121 : 121 < zN := by decide
theorem zk122 : zK 122 = (1, 14) := by decide +kernel
theorem zn122 : 122 < zN := by decide
theorem zk123 : zK 123 = (21, 6) := by decide +kernel
theorem zn123 : 123 < zN := by decide
theorem zk124 : zK 124 = (21, 6) := by decide +kernel
theorem zn124 : 124 < zN := by decide
theorem zk125 : zK 125 = (21, 6) := by decide +kernel
theorem zn125 : 125 < zN := by decide
theorem zk126 : zK 126 = (21, 6) := by decide +kernel
theorem zn126 : 126 < zN := by decide
theorem zk127 : zK 127 = (21, 6) := by decide +kernel
theorem zn127 : 127 < zN := by decide
theorem zk128 : zK 128 = (21, 6) := by decide +kernel
theorem zn128 : 128 < zN := by decide
theorem zk129 : zK 129 = (21, 6) := by decide +kernel
theorem zn129 : 129 < zN := by decide
theorem zk130 : zK 130 = (21, 6) := by decide +kernel
theorem zn130 : 130 < zN := by decide
theorem zk131 : zK 131 = (21, 24) := by decide +kernel
theorem zn131 : 131 < zN := by decide
theorem zk132 : zK 132 = (21, 36) := by decide +kernel
theorem zn132 : 132 < zN := by decide
theorem zk133 : zK 133 = (22, 6) := by decide +kernel
theorem zn133 : 133 < zN := by decide
theorem zk134 : zK 134 = (21, 6) := by decide +kernel
theorem zn134 : 134 < zN := by decide
theorem zk135 : zK 135 = (21, 49) := by decide +kernel
theorem zn135 : 135 < zN := by decide
theorem zk136 : zK 136 = (6, 5) := by decide +kernel
theorem zn136 : 136 < zN := by decide
theorem zk137 : zK 137 = (21, 30) := by decide +kernel
theorem zn137 : 137 < zN := by decide
theorem zk138 : zK 138 = (22, 30) := by decide +kernel
theorem zn138 : 138 < zN := by decide
theorem zk139 : zK 139 = (21, 30) := by decide +kernel
theorem zn139 : 139 < zN := by decide
theorem zk140 : zK 140 = (21, 30) := by decide +kernel
theorem zn140 : 140 < zN := by decide
theorem zk141 : zK 141 = (12, 51) := by decide +kernel
theorem zn141 : 141 < zN := by decide
theorem zk142 : zK 142 = (22, 2640) := by decide +kernel
theorem zn142 : 142 < zN := by decide
theorem zk143 : zK 143 = (21, 4) := by decide +kernel
theorem zn143 : 143 < zN := by decide
theorem zk144 : zK 144 = (21, 4) := by decide +kernel
theorem zn144 : 144 < zN := by decide
theorem zk145 : zK 145 = (22, 240) := by decide +kernel
theorem zn145 : 145 < zN := by decide
theorem zk146 : zK 146 = (20, 700) := by decide +kernel
theorem zn146 : 146 < zN := by decide
theorem zk147 : zK 147 = (20, 700) := by decide +kernel
theorem zn147 : 147 < zN := by decide
theorem zk148 : zK 148 = (22, 7) := by decide +kernel
theorem zn148 : 148 < zN := by decide
theorem zk149 : zK 149 = (23, 49) := by decide +kernel
theorem zn149 : 149 < zN := by decide
theorem zk150 : zK 150 = (21, 3) := by decide +kernel
theorem zn150 : 150 < zN := by decide
theorem zk151 : zK 151 = (21, 5) := by decide +kernel
theorem zn151 : 151 < zN := by decide
theorem zk152 : zK 152 = (21, 5) := by decide +kernel
theorem zn152 : 152 < zN := by decide
theorem zk153 : zK 153 = (21, 64) := by decide +kernel
theorem zn153 : 153 < zN := by decide
theorem zk154 : zK 154 = (23, 10000) := by decide +kernel
theorem zn154 : 154 < zN := by decide
theorem zk155 : zK 155 = (21, 144) := by decide +kernel
theorem zn155 : 155 < zN := by decide
theorem zk156 : zK 156 = (21, 144) := by decide +kernel
theorem zn156 : 156 < zN := by decide
theorem zk157 : zK 157 = (21, 144) := by decide +kernel
theorem zn157 : 157 < zN := by decide
theorem zk158 : zK 158 = (21, 60) := by decide +kernel
theorem zn158 : 158 < zN := by decide
theorem zk159 : zK 159 = (21, 4) := by decide +kernel
theorem zn159 : 159 < zN := by decide
theorem zk160 : zK 160 = (23, 10200) := by decide +kernel
theorem zn160 : 160 < zN := by decide
theorem zk161 : zK 161 = (21, 896) := by decide +kernel
theorem zn161 : 161 < zN := by decide
theorem zk162 : zK 162 = (21, 7) := by decide +kernel
theorem zn162 : 162 < zN := by decide
theorem zk163 : zK 163 = (21, 8) := by decide +kernel
theorem zn163 : 163 < zN := by decide
theorem zk164 : zK 164 = (21, 8) := by decide +kernel
theorem zn164 : 164 < zN := by decide
theorem zk165 : zK 165 = (21, 8) := by decide +kernel
theorem zn165 : 165 < zN := by decide
theorem zg_0_3 : zG 0 3 = some 1 := by decide +kernel
theorem zg_0_4 : zG 0 4 = some 6 := by decide +kernel
theorem zg_0_5 : zG 0 5 = some 7 := by decide +kernel
theorem zg_0_6 : zG 0 6 = some 8 := by decide +kernel
theorem zg_0_7 : zG 0 7 = some 10 := by decide +kernel
theorem zg_0_8 : zG 0 8 = some 27 := by decide +kernel
theorem zg_0_9 : zG 0 9 = some 34 := by decide +kernel
theorem zg_0_10 : zG 0 10 = some 49 := by decide +kernel
theorem zg_0_11 : zG 0 11 = some 54 := by decide +kernel
theorem zg_0_12 : zG 0 12 = some 55 := by decide +kernel
theorem zg_0_14 : zG 0 14 = some 56 := by decide +kernel
theorem zg_0_15 : zG 0 15 = some 70 := by decide +kernel
theorem zg_0_16 : zG 0 16 = some 73 := by decide +kernel
theorem zg_0_17 : zG 0 17 = some 75 := by decide +kernel
theorem zg_0_18 : zG 0 18 = some 78 := by decide +kernel
theorem zg_8_0 : zG 8 0 = some 9 := by decide +kernel
theorem zg_10_1 : zG 10 1 = some 11 := by decide +kernel
theorem zg_10_2 : zG 10 2 = some 26 := by decide +kernel
theorem zg_10_0 : zG 10 0 = some 8 := by decide +kernel
theorem zg_27_1 : zG 27 1 = some 28 := by decide +kernel
theorem zg_27_2 : zG 27 2 = some 33 := by decide +kernel
theorem zg_27_0 : zG 27 0 = some 8 := by decide +kernel
theorem zg_56_0 : zG 56 0 = some 57 := by decide +kernel
theorem zg_56_4 : zG 56 4 = some 68 := by decide +kernel
theorem zg_56_5 : zG 56 5 = some 69 := by decide +kernel
theorem zg_70_7 : zG 70 7 = some 71 := by decide +kernel
theorem zg_70_8 : zG 70 8 = some 72 := by decide +kernel
theorem zg_73_0 : zG 73 0 = some 74 := by decide +kernel
theorem zg_75_0 : zG 75 0 = some 76 := by decide +kernel
theorem zg_75_1 : zG 75 1 = some 77 := by decide +kernel
theorem zg_78_0 : zG 78 0 = some 79 := by decide +kernel
theorem zg_78_2 : zG 78 2 = some 80 := by decide +kernel
theorem zg_141_0 : zG 141 0 = some 142 := by decide +kernel
theorem zg_141_4 : zG 141 4 = some 143 := by decide +kernel
theorem zg_141_5 : zG 141 5 = some 144 := by decide +kernel
theorem zg_141_6 : zG 141 6 = some 145 := by decide +kernel
theorem zg_141_7 : zG 141 7 = some 146 := by decide +kernel
theorem zg_141_8 : zG 141 8 = some 147 := by decide +kernel
theorem zg_141_18 : zG 141 18 = some 148 := by decide +kernel
theorem zg_141_19 : zG 141 19 = some 149 := by decide +kernel
theorem zg_141_20 : zG 141 20 = some 150 := by decide +kernel
theorem zg_141_25 : zG 141 25 = some 151 := by decide +kernel
theorem zg_141_26 : zG 141 26 = some 152 := by decide +kernel
theorem zg_141_28 : zG 141 28 = some 153 := by decide +kernel
theorem zg_141_33 : zG 141 33 = some 154 := by decide +kernel
theorem zg_141_34 : zG 141 34 = some 155 := by decide +kernel
theorem zg_141_35 : zG 141 35 = some 156 := by decide +kernel
theorem zg_141_36 : zG 141 36 = some 157 := by decide +kernel
theorem zg_141_37 : zG 141 37 = some 158 := by decide +kernel
theorem zg_141_38 : zG 141 38 = some 159 := by decide +kernel
theorem zg_141_42 : zG 141 42 = some 160 := by decide +kernel
theorem zg_141_43 : zG 141 43 = some 161 := by decide +kernel
theorem zg_141_44 : zG 141 44 = some 162 := by decide +kernel
theorem zg_141_46 : zG 141 46 = some 163 := by decide +kernel
theorem zg_141_47 : zG 141 47 = some 164 := by decide +kernel
theorem zg_141_48 : zG 141 48 = some 165 := by decide +kernel
abbrev okLX1 : List Nat := [12, 35, 57, 82, 102, 122]
abbrev okX1 (c : Nat) : Prop := c ∈ okLX1
abbrev okLX5 : List Nat := [11, 34, 81, 101, 121]
abbrev okX5 (c : Nat) : Prop := c ∈ okLX5
abbrev okLX6 : List Nat := [28, 49, 96, 116, 136]
abbrev okX6 (c : Nat) : Prop := c ∈ okLX6
theorem okX1_k : ∀ c ∈ okLX1, zK c = (1, 14) := by decide +kernel
theorem okX1_n : ∀ c ∈ okLX1, c < zN := by decide +kernel
theorem okX1_g1 : ∀ c ∈ okLX1, zG c 1 = some (c + 1) := by decide +kernel
theorem okX1_f1 : ∀ c ∈ okLX1, zK (c + 1) = (21, 6) ∧ c + 1 < zN ∧ 6 < 2147483648 := by decide +kernel
theorem okX1_g2 : ∀ c ∈ okLX1, zG c 2 = some (c + 2) := by decide +kernel
theorem okX1_f2 : ∀ c ∈ okLX1, zK (c + 2) = (21, 6) ∧ c + 2 < zN ∧ 6 < 2147483648 := by decide +kernel
theorem okX1_g3 : ∀ c ∈ okLX1, zG c 3 = some (c + 3) := by decide +kernel
theorem okX1_f3 : ∀ c ∈ okLX1, zK (c + 3) = (21, 6) ∧ c + 3 < zN ∧ 6 < 2147483648 := by decide +kernel
theorem okX1_g4 : ∀ c ∈ okLX1, zG c 4 = some (c + 4) := by decide +kernel
theorem okX1_f4 : ∀ c ∈ okLX1, zK (c + 4) = (21, 6) ∧ c + 4 < zN ∧ 6 < 2147483648 := by decide +kernel
theorem okX1_g8 : ∀ c ∈ okLX1, zG c 8 = some (c + 5) := by decide +kernel
theorem okX1_f8 : ∀ c ∈ okLX1, zK (c + 5) = (21, 6) ∧ c + 5 < zN ∧ 6 < 2147483648 := by decide +kernel
theorem okX1_g9 : ∀ c ∈ okLX1, zG c 9 = some (c + 6) := by decide +kernel
theorem okX1_f9 : ∀ c ∈ okLX1, zK (c + 6) = (21, 6) ∧ c + 6 < zN ∧ 6 < 2147483648 := by decide +kernel
theorem okX1_g10 : ∀ c ∈ okLX1, zG c 10 = some (c + 7) := by decide +kernel
theorem okX1_f10 : ∀ c ∈ okLX1, zK (c + 7) = (21, 6) ∧ c + 7 < zN ∧ 6 < 2147483648 := by decide +kernel
theorem okX1_g11 : ∀ c ∈ okLX1, zG c 11 = some (c + 8) := by decide +kernel
theorem okX1_f11 : ∀ c ∈ okLX1, zK (c + 8) = (21, 6) ∧ c + 8 < zN ∧ 6 < 2147483648 := by decide +kernel
theorem okX1_g12 : ∀ c ∈ okLX1, zG c 12 = some (c + 9) := by decide +kernel
theorem okX1_f12 : ∀ c ∈ okLX1, zK (c + 9) = (21, 24) ∧ c + 9 < zN ∧ 24 < 2147483648 := by decide +kernel
theorem okX1_g13 : ∀ c ∈ okLX1, zG c 13 = some (c + 10) := by decide +kernel
theorem okX1_f13 : ∀ c ∈ okLX1, zK (c + 10) = (21, 36) ∧ c + 10 < zN ∧ 36 < 2147483648 := by decide +kernel
theorem ok_12 : okX1 12 := by decide
theorem zg_12_1 : zG 12 1 = some 13 := by decide +kernel
theorem zg_12_2 : zG 12 2 = some 14 := by decide +kernel
theorem zg_12_3 : zG 12 3 = some 15 := by decide +kernel
theorem zg_12_4 : zG 12 4 = some 16 := by decide +kernel
theorem zg_12_8 : zG 12 8 = some 17 := by decide +kernel
theorem zg_12_9 : zG 12 9 = some 18 := by decide +kernel
theorem zg_12_10 : zG 12 10 = some 19 := by decide +kernel
theorem zg_12_11 : zG 12 11 = some 20 := by decide +kernel
theorem zg_12_12 : zG 12 12 = some 21 := by decide +kernel
theorem zg_12_13 : zG 12 13 = some 22 := by decide +kernel
theorem ok_35 : okX1 35 := by decide
theorem zg_35_1 : zG 35 1 = some 36 := by decide +kernel
theorem zg_35_2 : zG 35 2 = some 37 := by decide +kernel
theorem zg_35_3 : zG 35 3 = some 38 := by decide +kernel
theorem zg_35_4 : zG 35 4 = some 39 := by decide +kernel
theorem zg_35_8 : zG 35 8 = some 40 := by decide +kernel
theorem zg_35_9 : zG 35 9 = some 41 := by decide +kernel
theorem zg_35_10 : zG 35 10 = some 42 := by decide +kernel
theorem zg_35_11 : zG 35 11 = some 43 := by decide +kernel
theorem zg_35_12 : zG 35 12 = some 44 := by decide +kernel
theorem zg_35_13 : zG 35 13 = some 45 := by decide +kernel
theorem ok_57 : okX1 57 := by decide
theorem zg_57_1 : zG 57 1 = some 58 := by decide +kernel
theorem zg_57_2 : zG 57 2 = some 59 := by decide +kernel
theorem zg_57_3 : zG 57 3 = some 60 := by decide +kernel
theorem zg_57_4 : zG 57 4 = some 61 := by decide +kernel
theorem zg_57_8 : zG 57 8 = some 62 := by decide +kernel
theorem zg_57_9 : zG 57 9 = some 63 := by decide +kernel
theorem zg_57_10 : zG 57 10 = some 64 := by decide +kernel
theorem zg_57_11 : zG 57 11 = some 65 := by decide +kernel
theorem zg_57_12 : zG 57 12 = some 66 := by decide +kernel
theorem zg_57_13 : zG 57 13 = some 67 := by decide +kernel
theorem ok_82 : okX1 82 := by decide
theorem zg_82_1 : zG 82 1 = some 83 := by decide +kernel
theorem zg_82_2 : zG 82 2 = some 84 := by decide +kernel
theorem zg_82_3 : zG 82 3 = some 85 := by decide +kernel
theorem zg_82_4 : zG 82 4 = some 86 := by decide +kernel
theorem zg_82_8 : zG 82 8 = some 87 := by decide +kernel
theorem zg_82_9 : zG 82 9 = some 88 := by decide +kernel
theorem zg_82_10 : zG 82 10 = some 89 := by decide +kernel
theorem zg_82_11 : zG 82 11 = some 90 := by decide +kernel
theorem zg_82_12 : zG 82 12 = some 91 := by decide +kernel
theorem zg_82_13 : zG 82 13 = some 92 := by decide +kernel
theorem ok_102 : okX1 102 := by decide
theorem zg_102_1 : zG 102 1 = some 103 := by decide +kernel
theorem zg_102_2 : zG 102 2 = some 104 := by decide +kernel
theorem zg_102_3 : zG 102 3 = some 105 := by decide +kernel
theorem zg_102_4 : zG 102 4 = some 106 := by decide +kernel
theorem zg_102_8 : zG 102 8 = some 107 := by decide +kernel
theorem zg_102_9 : zG 102 9 = some 108 := by decide +kernel
theorem zg_102_10 : zG 102 10 = some 109 := by decide +kernel
theorem zg_102_11 : zG 102 11 = some 110 := by decide +kernel
theorem zg_102_12 : zG 102 12 = some 111 := by decide +kernel
theorem zg_102_13 : zG 102 13 = some 112 := by decide +kernel
theorem ok_122 : okX1 122 := by decide
theorem zg_122_1 : zG 122 1 = some 123 := by decide +kernel
theorem zg_122_2 : zG 122 2 = some 124 := by decide +kernel
theorem zg_122_3 : zG 122 3 = some 125 := by decide +kernel
theorem zg_122_4 : zG 122 4 = some 126 := by decide +kernel
theorem zg_122_8 : zG 122 8 = some 127 := by decide +kernel
theorem zg_122_9 : zG 122 9 = some 128 := by decide +kernel
theorem zg_122_10 : zG 122 10 = some 129 := by decide +kernel
theorem zg_122_11 : zG 122 11 = some 130 := by decide +kernel
theorem zg_122_12 : zG 122 12 = some 131 := by decide +kernel
theorem zg_122_13 : zG 122 13 = some 132 := by decide +kernel
theorem okX5_k : ∀ c ∈ okLX5, zK c = (5, 5) := by decide +kernel
theorem okX5_n : ∀ c ∈ okLX5, c < zN := by decide +kernel
theorem okX5_g0 : ∀ c ∈ okLX5, zG c 0 = some (c + 1) := by decide +kernel
theorem okX5_f0 : ∀ c ∈ okLX5, okX1 (c + 1) := by decide +kernel
theorem okX5_g1 : ∀ c ∈ okLX5, zG c 1 = some (c + 12) := by decide +kernel
theorem okX5_f1 : ∀ c ∈ okLX5, zK (c + 12) = (22, 6) ∧ c + 12 < zN ∧ 6 < 2147483648 := by decide +kernel
theorem okX5_g2 : ∀ c ∈ okLX5, zG c 2 = some (c + 13) := by decide +kernel
theorem okX5_f2 : ∀ c ∈ okLX5, zK (c + 13) = (21, 6) ∧ c + 13 < zN ∧ 6 < 2147483648 := by decide +kernel
theorem okX5_g3 : ∀ c ∈ okLX5, zG c 3 = some (c + 14) := by decide +kernel
theorem okX5_f3 : ∀ c ∈ okLX5, zK (c + 14) = (21, 49) ∧ c + 14 < zN ∧ 49 < 2147483648 := by decide +kernel
theorem ok_11 : okX5 11 := by decide
theorem zg_11_0 : zG 11 0 = some 12 := by decide +kernel
theorem zg_11_1 : zG 11 1 = some 23 := by decide +kernel
theorem zg_11_2 : zG 11 2 = some 24 := by decide +kernel
theorem zg_11_3 : zG 11 3 = some 25 := by decide +kernel
theorem ok_34 : okX5 34 := by decide
theorem zg_34_0 : zG 34 0 = some 35 := by decide +kernel
theorem zg_34_1 : zG 34 1 = some 46 := by decide +kernel
theorem zg_34_2 : zG 34 2 = some 47 := by decide +kernel
theorem zg_34_3 : zG 34 3 = some 48 := by decide +kernel
theorem ok_81 : okX5 81 := by decide
theorem zg_81_0 : zG 81 0 = some 82 := by decide +kernel
theorem zg_81_1 : zG 81 1 = some 93 := by decide +kernel
theorem zg_81_2 : zG 81 2 = some 94 := by decide +kernel
theorem zg_81_3 : zG 81 3 = some 95 := by decide +kernel
theorem ok_101 : okX5 101 := by decide
theorem zg_101_0 : zG 101 0 = some 102 := by decide +kernel
theorem zg_101_1 : zG 101 1 = some 113 := by decide +kernel
theorem zg_101_2 : zG 101 2 = some 114 := by decide +kernel
theorem zg_101_3 : zG 101 3 = some 115 := by decide +kernel
theorem ok_121 : okX5 121 := by decide
theorem zg_121_0 : zG 121 0 = some 122 := by decide +kernel
theorem zg_121_1 : zG 121 1 = some 133 := by decide +kernel
theorem zg_121_2 : zG 121 2 = some 134 := by decide +kernel
theorem zg_121_3 : zG 121 3 = some 135 := by decide +kernel
theorem okX6_k : ∀ c ∈ okLX6, zK c = (6, 5) := by decide +kernel
theorem okX6_n : ∀ c ∈ okLX6, c < zN := by decide +kernel
theorem okX6_g1 : ∀ c ∈ okLX6, zG c 1 = some (c + 1) := by decide +kernel
theorem okX6_f1 : ∀ c ∈ okLX6, zK (c + 1) = (21, 30) ∧ c + 1 < zN ∧ 30 < 2147483648 := by decide +kernel
theorem okX6_g2 : ∀ c ∈ okLX6, zG c 2 = some (c + 2) := by decide +kernel
theorem okX6_f2 : ∀ c ∈ okLX6, zK (c + 2) = (22, 30) ∧ c + 2 < zN ∧ 30 < 2147483648 := by decide +kernel
theorem okX6_g3 : ∀ c ∈ okLX6, zG c 3 = some (c + 3) := by decide +kernel
theorem okX6_f3 : ∀ c ∈ okLX6, zK (c + 3) = (21, 30) ∧ c + 3 < zN ∧ 30 < 2147483648 := by decide +kernel
theorem okX6_g4 : ∀ c ∈ okLX6, zG c 4 = some (c + 4) := by decide +kernel
theorem okX6_f4 : ∀ c ∈ okLX6, zK (c + 4) = (21, 30) ∧ c + 4 < zN ∧ 30 < 2147483648 := by decide +kernel
theorem ok_28 : okX6 28 := by decide
theorem zg_28_1 : zG 28 1 = some 29 := by decide +kernel
theorem zg_28_2 : zG 28 2 = some 30 := by decide +kernel
theorem zg_28_3 : zG 28 3 = some 31 := by decide +kernel
theorem zg_28_4 : zG 28 4 = some 32 := by decide +kernel
theorem ok_49 : okX6 49 := by decide
theorem zg_49_1 : zG 49 1 = some 50 := by decide +kernel
theorem zg_49_2 : zG 49 2 = some 51 := by decide +kernel
theorem zg_49_3 : zG 49 3 = some 52 := by decide +kernel
theorem zg_49_4 : zG 49 4 = some 53 := by decide +kernel
theorem ok_96 : okX6 96 := by decide
theorem zg_96_1 : zG 96 1 = some 97 := by decide +kernel
theorem zg_96_2 : zG 96 2 = some 98 := by decide +kernel
theorem zg_96_3 : zG 96 3 = some 99 := by decide +kernel
theorem zg_96_4 : zG 96 4 = some 100 := by decide +kernel
theorem ok_116 : okX6 116 := by decide
theorem zg_116_1 : zG 116 1 = some 117 := by decide +kernel
theorem zg_116_2 : zG 116 2 = some 118 := by decide +kernel
theorem zg_116_3 : zG 116 3 = some 119 := by decide +kernel
theorem zg_116_4 : zG 116 4 = some 120 := by decide +kernel
theorem ok_136 : okX6 136 := by decide
theorem zg_136_1 : zG 136 1 = some 137 := by decide +kernel
theorem zg_136_2 : zG 136 2 = some 138 := by decide +kernel
theorem zg_136_3 : zG 136 3 = some 139 := by decide +kernel
theorem zg_136_4 : zG 136 4 = some 140 := by decide +kernel
theorem ok_row : ∀ j, j < 4 → zK (2 + j) = (22, 60) ∧ 2 + j < zN ∧ 60 < 2147483648 := by decide +kernel
theorem ok_mp : ∀ j, j < 3 → okX5 (81 + 20 * j) := by decide +kernel
theorem ok_ms : ∀ j, j < 3 → okX6 (96 + 20 * j) := by decide +kernel
theorem zg_26 (j : Nat) : zG 1 j = some (2 + j) := by
  show zRf (zK 1).1 j 1 = _
  rw [zk1]
  rfl
theorem zg_24 (j : Nat) : zG 54 j = some (81 + 20 * j) := by
  show zRf (zK 54).1 j 54 = _
  rw [zk54]
  rfl
theorem zg_25 (j : Nat) : zG 55 j = some (96 + 20 * j) := by
  show zRf (zK 55).1 j 55 = _
  rw [zk55]
  rfl
theorem hd_X0_init : yX0_init.cls ≠ "java/lang/invoke/MethodHandle" ∧ yX0_init.cls ≠ "java/lang/invoke/VarHandle" ∧ (parseMethodDescriptor yX0_init.desc).map (fun d => d.parameters.length) = some 0 := ⟨by decide +kernel, by decide +kernel, by decide +kernel⟩
theorem hd_X0_doAll : yX0_doAll.cls ≠ "java/lang/invoke/MethodHandle" ∧ yX0_doAll.cls ≠ "java/lang/invoke/VarHandle" ∧ (parseMethodDescriptor yX0_doAll.desc).map (fun d => d.parameters.length) = some 2 := ⟨by decide +kernel, by decide +kernel, by decide +kernel⟩
theorem hd_X0_doStep : yX0_doStep.cls ≠ "java/lang/invoke/MethodHandle" ∧ yX0_doStep.cls ≠ "java/lang/invoke/VarHandle" ∧ (parseMethodDescriptor yX0_doStep.desc).map (fun d => d.parameters.length) = some 2 := ⟨by decide +kernel, by decide +kernel, by decide +kernel⟩
theorem hd_X0_doRun : yX0_doRun.cls ≠ "java/lang/invoke/MethodHandle" ∧ yX0_doRun.cls ≠ "java/lang/invoke/VarHandle" ∧ (parseMethodDescriptor yX0_doRun.desc).map (fun d => d.parameters.length) = some 2 := ⟨by decide +kernel, by decide +kernel, by decide +kernel⟩
theorem hd_X0_wasSo : yX0_wasSo.cls ≠ "java/lang/invoke/MethodHandle" ∧ yX0_wasSo.cls ≠ "java/lang/invoke/VarHandle" ∧ (parseMethodDescriptor yX0_wasSo.desc).map (fun d => d.parameters.length) = some 3 := ⟨by decide +kernel, by decide +kernel, by decide +kernel⟩
theorem hd_X0_handle : yX0_handle.cls ≠ "java/lang/invoke/MethodHandle" ∧ yX0_handle.cls ≠ "java/lang/invoke/VarHandle" ∧ (parseMethodDescriptor yX0_handle.desc).map (fun d => d.parameters.length) = some 3 := ⟨by decide +kernel, by decide +kernel, by decide +kernel⟩
theorem hd_X0_enterBlock : yX0_enterBlock.cls ≠ "java/lang/invoke/MethodHandle" ∧ yX0_enterBlock.cls ≠ "java/lang/invoke/VarHandle" ∧ (parseMethodDescriptor yX0_enterBlock.desc).map (fun d => d.parameters.length) = some 3 := ⟨by decide +kernel, by decide +kernel, by decide +kernel⟩
theorem hd_X0_leaveBlocks : yX0_leaveBlocks.cls ≠ "java/lang/invoke/MethodHandle" ∧ yX0_leaveBlocks.cls ≠ "java/lang/invoke/VarHandle" ∧ (parseMethodDescriptor yX0_leaveBlocks.desc).map (fun d => d.parameters.length) = some 1 := ⟨by decide +kernel, by decide +kernel, by decide +kernel⟩
theorem hd_X1_init : yX1_init.cls ≠ "java/lang/invoke/MethodHandle" ∧ yX1_init.cls ≠ "java/lang/invoke/VarHandle" ∧ (parseMethodDescriptor yX1_init.desc).map (fun d => d.parameters.length) = some 0 := ⟨by decide +kernel, by decide +kernel, by decide +kernel⟩
theorem hd_X1_start : yX1_start.cls ≠ "java/lang/invoke/MethodHandle" ∧ yX1_start.cls ≠ "java/lang/invoke/VarHandle" ∧ (parseMethodDescriptor yX1_start.desc).map (fun d => d.parameters.length) = some 1 := ⟨by decide +kernel, by decide +kernel, by decide +kernel⟩
theorem hd_X1_copy : yX1_copy.cls ≠ "java/lang/invoke/MethodHandle" ∧ yX1_copy.cls ≠ "java/lang/invoke/VarHandle" ∧ (parseMethodDescriptor yX1_copy.desc).map (fun d => d.parameters.length) = some 1 := ⟨by decide +kernel, by decide +kernel, by decide +kernel⟩
theorem hd_X1_tables : yX1_tables.cls ≠ "java/lang/invoke/MethodHandle" ∧ yX1_tables.cls ≠ "java/lang/invoke/VarHandle" ∧ (parseMethodDescriptor yX1_tables.desc).map (fun d => d.parameters.length) = some 0 := ⟨by decide +kernel, by decide +kernel, by decide +kernel⟩
theorem hd_X1_made : yX1_made.cls ≠ "java/lang/invoke/MethodHandle" ∧ yX1_made.cls ≠ "java/lang/invoke/VarHandle" ∧ (parseMethodDescriptor yX1_made.desc).map (fun d => d.parameters.length) = some 0 := ⟨by decide +kernel, by decide +kernel, by decide +kernel⟩
theorem hd_X1_spend : yX1_spend.cls ≠ "java/lang/invoke/MethodHandle" ∧ yX1_spend.cls ≠ "java/lang/invoke/VarHandle" ∧ (parseMethodDescriptor yX1_spend.desc).map (fun d => d.parameters.length) = some 1 := ⟨by decide +kernel, by decide +kernel, by decide +kernel⟩
theorem hd_X1_wouldMake : yX1_wouldMake.cls ≠ "java/lang/invoke/MethodHandle" ∧ yX1_wouldMake.cls ≠ "java/lang/invoke/VarHandle" ∧ (parseMethodDescriptor yX1_wouldMake.desc).map (fun d => d.parameters.length) = some 1 := ⟨by decide +kernel, by decide +kernel, by decide +kernel⟩
theorem hd_X1_goOn : yX1_goOn.cls ≠ "java/lang/invoke/MethodHandle" ∧ yX1_goOn.cls ≠ "java/lang/invoke/VarHandle" ∧ (parseMethodDescriptor yX1_goOn.desc).map (fun d => d.parameters.length) = some 0 := ⟨by decide +kernel, by decide +kernel, by decide +kernel⟩
theorem hd_X1_standsStill : yX1_standsStill.cls ≠ "java/lang/invoke/MethodHandle" ∧ yX1_standsStill.cls ≠ "java/lang/invoke/VarHandle" ∧ (parseMethodDescriptor yX1_standsStill.desc).map (fun d => d.parameters.length) = some 1 := ⟨by decide +kernel, by decide +kernel, by decide +kernel⟩
theorem hd_X1_draw : yX1_draw.cls ≠ "java/lang/invoke/MethodHandle" ∧ yX1_draw.cls ≠ "java/lang/invoke/VarHandle" ∧ (parseMethodDescriptor yX1_draw.desc).map (fun d => d.parameters.length) = some 0 := ⟨by decide +kernel, by decide +kernel, by decide +kernel⟩
theorem hd_X1_moveBottles : yX1_moveBottles.cls ≠ "java/lang/invoke/MethodHandle" ∧ yX1_moveBottles.cls ≠ "java/lang/invoke/VarHandle" ∧ (parseMethodDescriptor yX1_moveBottles.desc).map (fun d => d.parameters.length) = some 1 := ⟨by decide +kernel, by decide +kernel, by decide +kernel⟩
theorem hd_X1_countStates : yX1_countStates.cls ≠ "java/lang/invoke/MethodHandle" ∧ yX1_countStates.cls ≠ "java/lang/invoke/VarHandle" ∧ (parseMethodDescriptor yX1_countStates.desc).map (fun d => d.parameters.length) = some 0 := ⟨by decide +kernel, by decide +kernel, by decide +kernel⟩
theorem hd_X1_starverOf : yX1_starverOf.cls ≠ "java/lang/invoke/MethodHandle" ∧ yX1_starverOf.cls ≠ "java/lang/invoke/VarHandle" ∧ (parseMethodDescriptor yX1_starverOf.desc).map (fun d => d.parameters.length) = some 1 := ⟨by decide +kernel, by decide +kernel, by decide +kernel⟩
theorem hd_X1_blockerOf : yX1_blockerOf.cls ≠ "java/lang/invoke/MethodHandle" ∧ yX1_blockerOf.cls ≠ "java/lang/invoke/VarHandle" ∧ (parseMethodDescriptor yX1_blockerOf.desc).map (fun d => d.parameters.length) = some 1 := ⟨by decide +kernel, by decide +kernel, by decide +kernel⟩
theorem hd_X2_init : yX2_init.cls ≠ "java/lang/invoke/MethodHandle" ∧ yX2_init.cls ≠ "java/lang/invoke/VarHandle" ∧ (parseMethodDescriptor yX2_init.desc).map (fun d => d.parameters.length) = some 0 := ⟨by decide +kernel, by decide +kernel, by decide +kernel⟩
theorem hd_X2_finds : yX2_finds.cls ≠ "java/lang/invoke/MethodHandle" ∧ yX2_finds.cls ≠ "java/lang/invoke/VarHandle" ∧ (parseMethodDescriptor yX2_finds.desc).map (fun d => d.parameters.length) = some 4 := ⟨by decide +kernel, by decide +kernel, by decide +kernel⟩
theorem hd_X2_headsAt : yX2_headsAt.cls ≠ "java/lang/invoke/MethodHandle" ∧ yX2_headsAt.cls ≠ "java/lang/invoke/VarHandle" ∧ (parseMethodDescriptor yX2_headsAt.desc).map (fun d => d.parameters.length) = some 2 := ⟨by decide +kernel, by decide +kernel, by decide +kernel⟩
theorem hd_X2_coveredBy : yX2_coveredBy.cls ≠ "java/lang/invoke/MethodHandle" ∧ yX2_coveredBy.cls ≠ "java/lang/invoke/VarHandle" ∧ (parseMethodDescriptor yX2_coveredBy.desc).map (fun d => d.parameters.length) = some 5 := ⟨by decide +kernel, by decide +kernel, by decide +kernel⟩
theorem hd_X2_findsOne : yX2_findsOne.cls ≠ "java/lang/invoke/MethodHandle" ∧ yX2_findsOne.cls ≠ "java/lang/invoke/VarHandle" ∧ (parseMethodDescriptor yX2_findsOne.desc).map (fun d => d.parameters.length) = some 1 := ⟨by decide +kernel, by decide +kernel, by decide +kernel⟩
theorem hd_X2_findsTwo : yX2_findsTwo.cls ≠ "java/lang/invoke/MethodHandle" ∧ yX2_findsTwo.cls ≠ "java/lang/invoke/VarHandle" ∧ (parseMethodDescriptor yX2_findsTwo.desc).map (fun d => d.parameters.length) = some 1 := ⟨by decide +kernel, by decide +kernel, by decide +kernel⟩
theorem hd_X2_keeps : yX2_keeps.cls ≠ "java/lang/invoke/MethodHandle" ∧ yX2_keeps.cls ≠ "java/lang/invoke/VarHandle" ∧ (parseMethodDescriptor yX2_keeps.desc).map (fun d => d.parameters.length) = some 2 := ⟨by decide +kernel, by decide +kernel, by decide +kernel⟩
theorem hd_X3_init : yX3_init.cls ≠ "java/lang/invoke/MethodHandle" ∧ yX3_init.cls ≠ "java/lang/invoke/VarHandle" ∧ (parseMethodDescriptor yX3_init.desc).map (fun d => d.parameters.length) = some 1 := ⟨by decide +kernel, by decide +kernel, by decide +kernel⟩
theorem hd_X3_takesAll : yX3_takesAll.cls ≠ "java/lang/invoke/MethodHandle" ∧ yX3_takesAll.cls ≠ "java/lang/invoke/VarHandle" ∧ (parseMethodDescriptor yX3_takesAll.desc).map (fun d => d.parameters.length) = some 1 := ⟨by decide +kernel, by decide +kernel, by decide +kernel⟩
theorem hd_X3_takePart : yX3_takePart.cls ≠ "java/lang/invoke/MethodHandle" ∧ yX3_takePart.cls ≠ "java/lang/invoke/VarHandle" ∧ (parseMethodDescriptor yX3_takePart.desc).map (fun d => d.parameters.length) = some 0 := ⟨by decide +kernel, by decide +kernel, by decide +kernel⟩
theorem hd_X3_isName : yX3_isName.cls ≠ "java/lang/invoke/MethodHandle" ∧ yX3_isName.cls ≠ "java/lang/invoke/VarHandle" ∧ (parseMethodDescriptor yX3_isName.desc).map (fun d => d.parameters.length) = some 0 := ⟨by decide +kernel, by decide +kernel, by decide +kernel⟩
theorem hd_X3_takeMachine : yX3_takeMachine.cls ≠ "java/lang/invoke/MethodHandle" ∧ yX3_takeMachine.cls ≠ "java/lang/invoke/VarHandle" ∧ (parseMethodDescriptor yX3_takeMachine.desc).map (fun d => d.parameters.length) = some 0 := ⟨by decide +kernel, by decide +kernel, by decide +kernel⟩
theorem hd_X3_addMachine : yX3_addMachine.cls ≠ "java/lang/invoke/MethodHandle" ∧ yX3_addMachine.cls ≠ "java/lang/invoke/VarHandle" ∧ (parseMethodDescriptor yX3_addMachine.desc).map (fun d => d.parameters.length) = some 2 := ⟨by decide +kernel, by decide +kernel, by decide +kernel⟩
theorem hd_X3_takeHeads : yX3_takeHeads.cls ≠ "java/lang/invoke/MethodHandle" ∧ yX3_takeHeads.cls ≠ "java/lang/invoke/VarHandle" ∧ (parseMethodDescriptor yX3_takeHeads.desc).map (fun d => d.parameters.length) = some 1 := ⟨by decide +kernel, by decide +kernel, by decide +kernel⟩
theorem hd_X3_takeStops : yX3_takeStops.cls ≠ "java/lang/invoke/MethodHandle" ∧ yX3_takeStops.cls ≠ "java/lang/invoke/VarHandle" ∧ (parseMethodDescriptor yX3_takeStops.desc).map (fun d => d.parameters.length) = some 1 := ⟨by decide +kernel, by decide +kernel, by decide +kernel⟩
theorem hd_X3_takeTable : yX3_takeTable.cls ≠ "java/lang/invoke/MethodHandle" ∧ yX3_takeTable.cls ≠ "java/lang/invoke/VarHandle" ∧ (parseMethodDescriptor yX3_takeTable.desc).map (fun d => d.parameters.length) = some 0 := ⟨by decide +kernel, by decide +kernel, by decide +kernel⟩
theorem hd_X3_takeSort : yX3_takeSort.cls ≠ "java/lang/invoke/MethodHandle" ∧ yX3_takeSort.cls ≠ "java/lang/invoke/VarHandle" ∧ (parseMethodDescriptor yX3_takeSort.desc).map (fun d => d.parameters.length) = some 0 := ⟨by decide +kernel, by decide +kernel, by decide +kernel⟩
theorem hd_X3_takeWash : yX3_takeWash.cls ≠ "java/lang/invoke/MethodHandle" ∧ yX3_takeWash.cls ≠ "java/lang/invoke/VarHandle" ∧ (parseMethodDescriptor yX3_takeWash.desc).map (fun d => d.parameters.length) = some 0 := ⟨by decide +kernel, by decide +kernel, by decide +kernel⟩
theorem hd_X3_sortHere : yX3_sortHere.cls ≠ "java/lang/invoke/MethodHandle" ∧ yX3_sortHere.cls ≠ "java/lang/invoke/VarHandle" ∧ (parseMethodDescriptor yX3_sortHere.desc).map (fun d => d.parameters.length) = some 0 := ⟨by decide +kernel, by decide +kernel, by decide +kernel⟩
theorem hd_X3_sortNamed : yX3_sortNamed.cls ≠ "java/lang/invoke/MethodHandle" ∧ yX3_sortNamed.cls ≠ "java/lang/invoke/VarHandle" ∧ (parseMethodDescriptor yX3_sortNamed.desc).map (fun d => d.parameters.length) = some 1 := ⟨by decide +kernel, by decide +kernel, by decide +kernel⟩
theorem hd_X4_init : yX4_init.cls ≠ "java/lang/invoke/MethodHandle" ∧ yX4_init.cls ≠ "java/lang/invoke/VarHandle" ∧ (parseMethodDescriptor yX4_init.desc).map (fun d => d.parameters.length) = some 0 := ⟨by decide +kernel, by decide +kernel, by decide +kernel⟩
theorem hd_X4_pack : yX4_pack.cls ≠ "java/lang/invoke/MethodHandle" ∧ yX4_pack.cls ≠ "java/lang/invoke/VarHandle" ∧ (parseMethodDescriptor yX4_pack.desc).map (fun d => d.parameters.length) = some 3 := ⟨by decide +kernel, by decide +kernel, by decide +kernel⟩
theorem hd_X4_fits : yX4_fits.cls ≠ "java/lang/invoke/MethodHandle" ∧ yX4_fits.cls ≠ "java/lang/invoke/VarHandle" ∧ (parseMethodDescriptor yX4_fits.desc).map (fun d => d.parameters.length) = some 5 := ⟨by decide +kernel, by decide +kernel, by decide +kernel⟩
theorem hd_X5_init : yX5_init.cls ≠ "java/lang/invoke/MethodHandle" ∧ yX5_init.cls ≠ "java/lang/invoke/VarHandle" ∧ (parseMethodDescriptor yX5_init.desc).map (fun d => d.parameters.length) = some 0 := ⟨by decide +kernel, by decide +kernel, by decide +kernel⟩
theorem hd_X5_clear : yX5_clear.cls ≠ "java/lang/invoke/MethodHandle" ∧ yX5_clear.cls ≠ "java/lang/invoke/VarHandle" ∧ (parseMethodDescriptor yX5_clear.desc).map (fun d => d.parameters.length) = some 0 := ⟨by decide +kernel, by decide +kernel, by decide +kernel⟩
theorem hd_X5_copy : yX5_copy.cls ≠ "java/lang/invoke/MethodHandle" ∧ yX5_copy.cls ≠ "java/lang/invoke/VarHandle" ∧ (parseMethodDescriptor yX5_copy.desc).map (fun d => d.parameters.length) = some 1 := ⟨by decide +kernel, by decide +kernel, by decide +kernel⟩
theorem hd_X5_machineNamed : yX5_machineNamed.cls ≠ "java/lang/invoke/MethodHandle" ∧ yX5_machineNamed.cls ≠ "java/lang/invoke/VarHandle" ∧ (parseMethodDescriptor yX5_machineNamed.desc).map (fun d => d.parameters.length) = some 1 := ⟨by decide +kernel, by decide +kernel, by decide +kernel⟩
theorem hd_X5_washTold : yX5_washTold.cls ≠ "java/lang/invoke/MethodHandle" ∧ yX5_washTold.cls ≠ "java/lang/invoke/VarHandle" ∧ (parseMethodDescriptor yX5_washTold.desc).map (fun d => d.parameters.length) = some 2 := ⟨by decide +kernel, by decide +kernel, by decide +kernel⟩
theorem hd_X5_washMinutes : yX5_washMinutes.cls ≠ "java/lang/invoke/MethodHandle" ∧ yX5_washMinutes.cls ≠ "java/lang/invoke/VarHandle" ∧ (parseMethodDescriptor yX5_washMinutes.desc).map (fun d => d.parameters.length) = some 2 := ⟨by decide +kernel, by decide +kernel, by decide +kernel⟩
theorem hd_X6_init : yX6_init.cls ≠ "java/lang/invoke/MethodHandle" ∧ yX6_init.cls ≠ "java/lang/invoke/VarHandle" ∧ (parseMethodDescriptor yX6_init.desc).map (fun d => d.parameters.length) = some 0 := ⟨by decide +kernel, by decide +kernel, by decide +kernel⟩
theorem hd_X6_copy : yX6_copy.cls ≠ "java/lang/invoke/MethodHandle" ∧ yX6_copy.cls ≠ "java/lang/invoke/VarHandle" ∧ (parseMethodDescriptor yX6_copy.desc).map (fun d => d.parameters.length) = some 1 := ⟨by decide +kernel, by decide +kernel, by decide +kernel⟩
theorem hd_X7_init : yX7_init.cls ≠ "java/lang/invoke/MethodHandle" ∧ yX7_init.cls ≠ "java/lang/invoke/VarHandle" ∧ (parseMethodDescriptor yX7_init.desc).map (fun d => d.parameters.length) = some 1 := ⟨by decide +kernel, by decide +kernel, by decide +kernel⟩
theorem hd_X7_takesAll : yX7_takesAll.cls ≠ "java/lang/invoke/MethodHandle" ∧ yX7_takesAll.cls ≠ "java/lang/invoke/VarHandle" ∧ (parseMethodDescriptor yX7_takesAll.desc).map (fun d => d.parameters.length) = some 1 := ⟨by decide +kernel, by decide +kernel, by decide +kernel⟩
theorem hd_X7_takeEnd : yX7_takeEnd.cls ≠ "java/lang/invoke/MethodHandle" ∧ yX7_takeEnd.cls ≠ "java/lang/invoke/VarHandle" ∧ (parseMethodDescriptor yX7_takeEnd.desc).map (fun d => d.parameters.length) = some 0 := ⟨by decide +kernel, by decide +kernel, by decide +kernel⟩
theorem hd_X7_takeStep : yX7_takeStep.cls ≠ "java/lang/invoke/MethodHandle" ∧ yX7_takeStep.cls ≠ "java/lang/invoke/VarHandle" ∧ (parseMethodDescriptor yX7_takeStep.desc).map (fun d => d.parameters.length) = some 0 := ⟨by decide +kernel, by decide +kernel, by decide +kernel⟩
theorem hd_X7_kindHere : yX7_kindHere.cls ≠ "java/lang/invoke/MethodHandle" ∧ yX7_kindHere.cls ≠ "java/lang/invoke/VarHandle" ∧ (parseMethodDescriptor yX7_kindHere.desc).map (fun d => d.parameters.length) = some 0 := ⟨by decide +kernel, by decide +kernel, by decide +kernel⟩
theorem hd_X7_takeDetails : yX7_takeDetails.cls ≠ "java/lang/invoke/MethodHandle" ∧ yX7_takeDetails.cls ≠ "java/lang/invoke/VarHandle" ∧ (parseMethodDescriptor yX7_takeDetails.desc).map (fun d => d.parameters.length) = some 2 := ⟨by decide +kernel, by decide +kernel, by decide +kernel⟩
theorem hd_X7_takeAmount : yX7_takeAmount.cls ≠ "java/lang/invoke/MethodHandle" ∧ yX7_takeAmount.cls ≠ "java/lang/invoke/VarHandle" ∧ (parseMethodDescriptor yX7_takeAmount.desc).map (fun d => d.parameters.length) = some 3 := ⟨by decide +kernel, by decide +kernel, by decide +kernel⟩
theorem hd_X7_takeName : yX7_takeName.cls ≠ "java/lang/invoke/MethodHandle" ∧ yX7_takeName.cls ≠ "java/lang/invoke/VarHandle" ∧ (parseMethodDescriptor yX7_takeName.desc).map (fun d => d.parameters.length) = some 1 := ⟨by decide +kernel, by decide +kernel, by decide +kernel⟩
theorem hd_X7_takeState : yX7_takeState.cls ≠ "java/lang/invoke/MethodHandle" ∧ yX7_takeState.cls ≠ "java/lang/invoke/VarHandle" ∧ (parseMethodDescriptor yX7_takeState.desc).map (fun d => d.parameters.length) = some 1 := ⟨by decide +kernel, by decide +kernel, by decide +kernel⟩
theorem hd_X7_stateHere : yX7_stateHere.cls ≠ "java/lang/invoke/MethodHandle" ∧ yX7_stateHere.cls ≠ "java/lang/invoke/VarHandle" ∧ (parseMethodDescriptor yX7_stateHere.desc).map (fun d => d.parameters.length) = some 0 := ⟨by decide +kernel, by decide +kernel, by decide +kernel⟩
theorem hd_X8_init : yX8_init.cls ≠ "java/lang/invoke/MethodHandle" ∧ yX8_init.cls ≠ "java/lang/invoke/VarHandle" ∧ (parseMethodDescriptor yX8_init.desc).map (fun d => d.parameters.length) = some 0 := ⟨by decide +kernel, by decide +kernel, by decide +kernel⟩
theorem hd_X8_lay : yX8_lay.cls ≠ "java/lang/invoke/MethodHandle" ∧ yX8_lay.cls ≠ "java/lang/invoke/VarHandle" ∧ (parseMethodDescriptor yX8_lay.desc).map (fun d => d.parameters.length) = some 1 := ⟨by decide +kernel, by decide +kernel, by decide +kernel⟩
theorem hd_X8_open : yX8_open.cls ≠ "java/lang/invoke/MethodHandle" ∧ yX8_open.cls ≠ "java/lang/invoke/VarHandle" ∧ (parseMethodDescriptor yX8_open.desc).map (fun d => d.parameters.length) = some 1 := ⟨by decide +kernel, by decide +kernel, by decide +kernel⟩
theorem hd_X8_advance : yX8_advance.cls ≠ "java/lang/invoke/MethodHandle" ∧ yX8_advance.cls ≠ "java/lang/invoke/VarHandle" ∧ (parseMethodDescriptor yX8_advance.desc).map (fun d => d.parameters.length) = some 0 := ⟨by decide +kernel, by decide +kernel, by decide +kernel⟩
theorem hd_X8_readWord : yX8_readWord.cls ≠ "java/lang/invoke/MethodHandle" ∧ yX8_readWord.cls ≠ "java/lang/invoke/VarHandle" ∧ (parseMethodDescriptor yX8_readWord.desc).map (fun d => d.parameters.length) = some 0 := ⟨by decide +kernel, by decide +kernel, by decide +kernel⟩
theorem hd_X8_readNumber : yX8_readNumber.cls ≠ "java/lang/invoke/MethodHandle" ∧ yX8_readNumber.cls ≠ "java/lang/invoke/VarHandle" ∧ (parseMethodDescriptor yX8_readNumber.desc).map (fun d => d.parameters.length) = some 0 := ⟨by decide +kernel, by decide +kernel, by decide +kernel⟩
theorem hd_X8_is : yX8_is.cls ≠ "java/lang/invoke/MethodHandle" ∧ yX8_is.cls ≠ "java/lang/invoke/VarHandle" ∧ (parseMethodDescriptor yX8_is.desc).map (fun d => d.parameters.length) = some 1 := ⟨by decide +kernel, by decide +kernel, by decide +kernel⟩
theorem hd_X8_isShortWord : yX8_isShortWord.cls ≠ "java/lang/invoke/MethodHandle" ∧ yX8_isShortWord.cls ≠ "java/lang/invoke/VarHandle" ∧ (parseMethodDescriptor yX8_isShortWord.desc).map (fun d => d.parameters.length) = some 0 := ⟨by decide +kernel, by decide +kernel, by decide +kernel⟩
theorem hd_X8_wrong : yX8_wrong.cls ≠ "java/lang/invoke/MethodHandle" ∧ yX8_wrong.cls ≠ "java/lang/invoke/VarHandle" ∧ (parseMethodDescriptor yX8_wrong.desc).map (fun d => d.parameters.length) = some 1 := ⟨by decide +kernel, by decide +kernel, by decide +kernel⟩
theorem hd_X8_misplaced : yX8_misplaced.cls ≠ "java/lang/invoke/MethodHandle" ∧ yX8_misplaced.cls ≠ "java/lang/invoke/VarHandle" ∧ (parseMethodDescriptor yX8_misplaced.desc).map (fun d => d.parameters.length) = some 0 := ⟨by decide +kernel, by decide +kernel, by decide +kernel⟩
theorem hd_X8_takeWord : yX8_takeWord.cls ≠ "java/lang/invoke/MethodHandle" ∧ yX8_takeWord.cls ≠ "java/lang/invoke/VarHandle" ∧ (parseMethodDescriptor yX8_takeWord.desc).map (fun d => d.parameters.length) = some 1 := ⟨by decide +kernel, by decide +kernel, by decide +kernel⟩
theorem hd_X8_takeSign : yX8_takeSign.cls ≠ "java/lang/invoke/MethodHandle" ∧ yX8_takeSign.cls ≠ "java/lang/invoke/VarHandle" ∧ (parseMethodDescriptor yX8_takeSign.desc).map (fun d => d.parameters.length) = some 0 := ⟨by decide +kernel, by decide +kernel, by decide +kernel⟩
theorem hd_X8_takeNumber : yX8_takeNumber.cls ≠ "java/lang/invoke/MethodHandle" ∧ yX8_takeNumber.cls ≠ "java/lang/invoke/VarHandle" ∧ (parseMethodDescriptor yX8_takeNumber.desc).map (fun d => d.parameters.length) = some 2 := ⟨by decide +kernel, by decide +kernel, by decide +kernel⟩
theorem hd_X9_init : yX9_init.cls ≠ "java/lang/invoke/MethodHandle" ∧ yX9_init.cls ≠ "java/lang/invoke/VarHandle" ∧ (parseMethodDescriptor yX9_init.desc).map (fun d => d.parameters.length) = some 0 := ⟨by decide +kernel, by decide +kernel, by decide +kernel⟩
theorem hd_X9_madeWith : yX9_madeWith.cls ≠ "java/lang/invoke/MethodHandle" ∧ yX9_madeWith.cls ≠ "java/lang/invoke/VarHandle" ∧ (parseMethodDescriptor yX9_madeWith.desc).map (fun d => d.parameters.length) = some 4 := ⟨by decide +kernel, by decide +kernel, by decide +kernel⟩
theorem hd_X9_findHolder : yX9_findHolder.cls ≠ "java/lang/invoke/MethodHandle" ∧ yX9_findHolder.cls ≠ "java/lang/invoke/VarHandle" ∧ (parseMethodDescriptor yX9_findHolder.desc).map (fun d => d.parameters.length) = some 3 := ⟨by decide +kernel, by decide +kernel, by decide +kernel⟩
theorem hd_X9_waitsWith : yX9_waitsWith.cls ≠ "java/lang/invoke/MethodHandle" ∧ yX9_waitsWith.cls ≠ "java/lang/invoke/VarHandle" ∧ (parseMethodDescriptor yX9_waitsWith.desc).map (fun d => d.parameters.length) = some 4 := ⟨by decide +kernel, by decide +kernel, by decide +kernel⟩
theorem hd_X9_faster : yX9_faster.cls ≠ "java/lang/invoke/MethodHandle" ∧ yX9_faster.cls ≠ "java/lang/invoke/VarHandle" ∧ (parseMethodDescriptor yX9_faster.desc).map (fun d => d.parameters.length) = some 2 := ⟨by decide +kernel, by decide +kernel, by decide +kernel⟩
theorem hd_X9_shareOut : yX9_shareOut.cls ≠ "java/lang/invoke/MethodHandle" ∧ yX9_shareOut.cls ≠ "java/lang/invoke/VarHandle" ∧ (parseMethodDescriptor yX9_shareOut.desc).map (fun d => d.parameters.length) = some 4 := ⟨by decide +kernel, by decide +kernel, by decide +kernel⟩
theorem hd_X9_shareFrom : yX9_shareFrom.cls ≠ "java/lang/invoke/MethodHandle" ∧ yX9_shareFrom.cls ≠ "java/lang/invoke/VarHandle" ∧ (parseMethodDescriptor yX9_shareFrom.desc).map (fun d => d.parameters.length) = some 4 := ⟨by decide +kernel, by decide +kernel, by decide +kernel⟩
theorem hd_X9_trySharing : yX9_trySharing.cls ≠ "java/lang/invoke/MethodHandle" ∧ yX9_trySharing.cls ≠ "java/lang/invoke/VarHandle" ∧ (parseMethodDescriptor yX9_trySharing.desc).map (fun d => d.parameters.length) = some 2 := ⟨by decide +kernel, by decide +kernel, by decide +kernel⟩
theorem hd_X10_init : yX10_init.cls ≠ "java/lang/invoke/MethodHandle" ∧ yX10_init.cls ≠ "java/lang/invoke/VarHandle" ∧ (parseMethodDescriptor yX10_init.desc).map (fun d => d.parameters.length) = some 0 := ⟨by decide +kernel, by decide +kernel, by decide +kernel⟩
theorem hd_X10_findOrder : yX10_findOrder.cls ≠ "java/lang/invoke/MethodHandle" ∧ yX10_findOrder.cls ≠ "java/lang/invoke/VarHandle" ∧ (parseMethodDescriptor yX10_findOrder.desc).map (fun d => d.parameters.length) = some 3 := ⟨by decide +kernel, by decide +kernel, by decide +kernel⟩
theorem hd_X10_goOnFrom : yX10_goOnFrom.cls ≠ "java/lang/invoke/MethodHandle" ∧ yX10_goOnFrom.cls ≠ "java/lang/invoke/VarHandle" ∧ (parseMethodDescriptor yX10_goOnFrom.desc).map (fun d => d.parameters.length) = some 4 := ⟨by decide +kernel, by decide +kernel, by decide +kernel⟩
theorem hd_X11_init : yX11_init.cls ≠ "java/lang/invoke/MethodHandle" ∧ yX11_init.cls ≠ "java/lang/invoke/VarHandle" ∧ (parseMethodDescriptor yX11_init.desc).map (fun d => d.parameters.length) = some 0 := ⟨by decide +kernel, by decide +kernel, by decide +kernel⟩
theorem hd_X11_status : yX11_status.cls ≠ "java/lang/invoke/MethodHandle" ∧ yX11_status.cls ≠ "java/lang/invoke/VarHandle" ∧ (parseMethodDescriptor yX11_status.desc).map (fun d => d.parameters.length) = some 0 := ⟨by decide +kernel, by decide +kernel, by decide +kernel⟩
theorem hd_X11_top : yX11_top.cls ≠ "java/lang/invoke/MethodHandle" ∧ yX11_top.cls ≠ "java/lang/invoke/VarHandle" ∧ (parseMethodDescriptor yX11_top.desc).map (fun d => d.parameters.length) = some 0 := ⟨by decide +kernel, by decide +kernel, by decide +kernel⟩
theorem hd_X11_bottom : yX11_bottom.cls ≠ "java/lang/invoke/MethodHandle" ∧ yX11_bottom.cls ≠ "java/lang/invoke/VarHandle" ∧ (parseMethodDescriptor yX11_bottom.desc).map (fun d => d.parameters.length) = some 0 := ⟨by decide +kernel, by decide +kernel, by decide +kernel⟩
theorem hd_X11_tray : yX11_tray.cls ≠ "java/lang/invoke/MethodHandle" ∧ yX11_tray.cls ≠ "java/lang/invoke/VarHandle" ∧ (parseMethodDescriptor yX11_tray.desc).map (fun d => d.parameters.length) = some 3 := ⟨by decide +kernel, by decide +kernel, by decide +kernel⟩
theorem hd_X11_write : yX11_write.cls ≠ "java/lang/invoke/MethodHandle" ∧ yX11_write.cls ≠ "java/lang/invoke/VarHandle" ∧ (parseMethodDescriptor yX11_write.desc).map (fun d => d.parameters.length) = some 3 := ⟨by decide +kernel, by decide +kernel, by decide +kernel⟩
theorem hd_X11_read : yX11_read.cls ≠ "java/lang/invoke/MethodHandle" ∧ yX11_read.cls ≠ "java/lang/invoke/VarHandle" ∧ (parseMethodDescriptor yX11_read.desc).map (fun d => d.parameters.length) = some 2 := ⟨by decide +kernel, by decide +kernel, by decide +kernel⟩
theorem hd_X11_pour : yX11_pour.cls ≠ "java/lang/invoke/MethodHandle" ∧ yX11_pour.cls ≠ "java/lang/invoke/VarHandle" ∧ (parseMethodDescriptor yX11_pour.desc).map (fun d => d.parameters.length) = some 5 := ⟨by decide +kernel, by decide +kernel, by decide +kernel⟩
theorem hd_X11_feed : yX11_feed.cls ≠ "java/lang/invoke/MethodHandle" ∧ yX11_feed.cls ≠ "java/lang/invoke/VarHandle" ∧ (parseMethodDescriptor yX11_feed.desc).map (fun d => d.parameters.length) = some 5 := ⟨by decide +kernel, by decide +kernel, by decide +kernel⟩
theorem hd_X11_line : yX11_line.cls ≠ "java/lang/invoke/MethodHandle" ∧ yX11_line.cls ≠ "java/lang/invoke/VarHandle" ∧ (parseMethodDescriptor yX11_line.desc).map (fun d => d.parameters.length) = some 1 := ⟨by decide +kernel, by decide +kernel, by decide +kernel⟩
theorem hd_X11_shift : yX11_shift.cls ≠ "java/lang/invoke/MethodHandle" ∧ yX11_shift.cls ≠ "java/lang/invoke/VarHandle" ∧ (parseMethodDescriptor yX11_shift.desc).map (fun d => d.parameters.length) = some 1 := ⟨by decide +kernel, by decide +kernel, by decide +kernel⟩
theorem hd_X11_fault : yX11_fault.cls ≠ "java/lang/invoke/MethodHandle" ∧ yX11_fault.cls ≠ "java/lang/invoke/VarHandle" ∧ (parseMethodDescriptor yX11_fault.desc).map (fun d => d.parameters.length) = some 1 := ⟨by decide +kernel, by decide +kernel, by decide +kernel⟩
theorem hd_X11_many : yX11_many.cls ≠ "java/lang/invoke/MethodHandle" ∧ yX11_many.cls ≠ "java/lang/invoke/VarHandle" ∧ (parseMethodDescriptor yX11_many.desc).map (fun d => d.parameters.length) = some 1 := ⟨by decide +kernel, by decide +kernel, by decide +kernel⟩
theorem hd_X11_machine : yX11_machine.cls ≠ "java/lang/invoke/MethodHandle" ∧ yX11_machine.cls ≠ "java/lang/invoke/VarHandle" ∧ (parseMethodDescriptor yX11_machine.desc).map (fun d => d.parameters.length) = some 2 := ⟨by decide +kernel, by decide +kernel, by decide +kernel⟩
theorem hd_X11_table : yX11_table.cls ≠ "java/lang/invoke/MethodHandle" ∧ yX11_table.cls ≠ "java/lang/invoke/VarHandle" ∧ (parseMethodDescriptor yX11_table.desc).map (fun d => d.parameters.length) = some 2 := ⟨by decide +kernel, by decide +kernel, by decide +kernel⟩
theorem hd_X11_wash : yX11_wash.cls ≠ "java/lang/invoke/MethodHandle" ∧ yX11_wash.cls ≠ "java/lang/invoke/VarHandle" ∧ (parseMethodDescriptor yX11_wash.desc).map (fun d => d.parameters.length) = some 2 := ⟨by decide +kernel, by decide +kernel, by decide +kernel⟩
theorem hd_X11_begin : yX11_begin.cls ≠ "java/lang/invoke/MethodHandle" ∧ yX11_begin.cls ≠ "java/lang/invoke/VarHandle" ∧ (parseMethodDescriptor yX11_begin.desc).map (fun d => d.parameters.length) = some 1 := ⟨by decide +kernel, by decide +kernel, by decide +kernel⟩
theorem hd_X11_run : yX11_run.cls ≠ "java/lang/invoke/MethodHandle" ∧ yX11_run.cls ≠ "java/lang/invoke/VarHandle" ∧ (parseMethodDescriptor yX11_run.desc).map (fun d => d.parameters.length) = some 1 := ⟨by decide +kernel, by decide +kernel, by decide +kernel⟩
theorem hd_X11_minutes : yX11_minutes.cls ≠ "java/lang/invoke/MethodHandle" ∧ yX11_minutes.cls ≠ "java/lang/invoke/VarHandle" ∧ (parseMethodDescriptor yX11_minutes.desc).map (fun d => d.parameters.length) = some 2 := ⟨by decide +kernel, by decide +kernel, by decide +kernel⟩
theorem hd_X11_blame : yX11_blame.cls ≠ "java/lang/invoke/MethodHandle" ∧ yX11_blame.cls ≠ "java/lang/invoke/VarHandle" ∧ (parseMethodDescriptor yX11_blame.desc).map (fun d => d.parameters.length) = some 2 := ⟨by decide +kernel, by decide +kernel, by decide +kernel⟩
theorem hd_X11_share : yX11_share.cls ≠ "java/lang/invoke/MethodHandle" ∧ yX11_share.cls ≠ "java/lang/invoke/VarHandle" ∧ (parseMethodDescriptor yX11_share.desc).map (fun d => d.parameters.length) = some 1 := ⟨by decide +kernel, by decide +kernel, by decide +kernel⟩
theorem hd_X11_tried : yX11_tried.cls ≠ "java/lang/invoke/MethodHandle" ∧ yX11_tried.cls ≠ "java/lang/invoke/VarHandle" ∧ (parseMethodDescriptor yX11_tried.desc).map (fun d => d.parameters.length) = some 3 := ⟨by decide +kernel, by decide +kernel, by decide +kernel⟩
theorem hd_X11_holder : yX11_holder.cls ≠ "java/lang/invoke/MethodHandle" ∧ yX11_holder.cls ≠ "java/lang/invoke/VarHandle" ∧ (parseMethodDescriptor yX11_holder.desc).map (fun d => d.parameters.length) = some 2 := ⟨by decide +kernel, by decide +kernel, by decide +kernel⟩
theorem hd_X11_gained : yX11_gained.cls ≠ "java/lang/invoke/MethodHandle" ∧ yX11_gained.cls ≠ "java/lang/invoke/VarHandle" ∧ (parseMethodDescriptor yX11_gained.desc).map (fun d => d.parameters.length) = some 0 := ⟨by decide +kernel, by decide +kernel, by decide +kernel⟩
theorem hd_X11_shared : yX11_shared.cls ≠ "java/lang/invoke/MethodHandle" ∧ yX11_shared.cls ≠ "java/lang/invoke/VarHandle" ∧ (parseMethodDescriptor yX11_shared.desc).map (fun d => d.parameters.length) = some 3 := ⟨by decide +kernel, by decide +kernel, by decide +kernel⟩
theorem hd_X11_unit : yX11_unit.cls ≠ "java/lang/invoke/MethodHandle" ∧ yX11_unit.cls ≠ "java/lang/invoke/VarHandle" ∧ (parseMethodDescriptor yX11_unit.desc).map (fun d => d.parameters.length) = some 1 := ⟨by decide +kernel, by decide +kernel, by decide +kernel⟩
theorem hd_X11_waits : yX11_waits.cls ≠ "java/lang/invoke/MethodHandle" ∧ yX11_waits.cls ≠ "java/lang/invoke/VarHandle" ∧ (parseMethodDescriptor yX11_waits.desc).map (fun d => d.parameters.length) = some 3 := ⟨by decide +kernel, by decide +kernel, by decide +kernel⟩
theorem hd_X11_unwaited : yX11_unwaited.cls ≠ "java/lang/invoke/MethodHandle" ∧ yX11_unwaited.cls ≠ "java/lang/invoke/VarHandle" ∧ (parseMethodDescriptor yX11_unwaited.desc).map (fun d => d.parameters.length) = some 2 := ⟨by decide +kernel, by decide +kernel, by decide +kernel⟩
theorem hd_X11_work : yX11_work.cls ≠ "java/lang/invoke/MethodHandle" ∧ yX11_work.cls ≠ "java/lang/invoke/VarHandle" ∧ (parseMethodDescriptor yX11_work.desc).map (fun d => d.parameters.length) = some 0 := ⟨by decide +kernel, by decide +kernel, by decide +kernel⟩
theorem hd_X11_worked : yX11_worked.cls ≠ "java/lang/invoke/MethodHandle" ∧ yX11_worked.cls ≠ "java/lang/invoke/VarHandle" ∧ (parseMethodDescriptor yX11_worked.desc).map (fun d => d.parameters.length) = some 1 := ⟨by decide +kernel, by decide +kernel, by decide +kernel⟩
theorem hd_X11_heads : yX11_heads.cls ≠ "java/lang/invoke/MethodHandle" ∧ yX11_heads.cls ≠ "java/lang/invoke/VarHandle" ∧ (parseMethodDescriptor yX11_heads.desc).map (fun d => d.parameters.length) = some 3 := ⟨by decide +kernel, by decide +kernel, by decide +kernel⟩
theorem hd_X11_head : yX11_head.cls ≠ "java/lang/invoke/MethodHandle" ∧ yX11_head.cls ≠ "java/lang/invoke/VarHandle" ∧ (parseMethodDescriptor yX11_head.desc).map (fun d => d.parameters.length) = some 1 := ⟨by decide +kernel, by decide +kernel, by decide +kernel⟩
theorem hd_X11_brief : yX11_brief.cls ≠ "java/lang/invoke/MethodHandle" ∧ yX11_brief.cls ≠ "java/lang/invoke/VarHandle" ∧ (parseMethodDescriptor yX11_brief.desc).map (fun d => d.parameters.length) = some 5 := ⟨by decide +kernel, by decide +kernel, by decide +kernel⟩
theorem hd_X11_glass : yX11_glass.cls ≠ "java/lang/invoke/MethodHandle" ∧ yX11_glass.cls ≠ "java/lang/invoke/VarHandle" ∧ (parseMethodDescriptor yX11_glass.desc).map (fun d => d.parameters.length) = some 2 := ⟨by decide +kernel, by decide +kernel, by decide +kernel⟩
theorem hd_X11_order : yX11_order.cls ≠ "java/lang/invoke/MethodHandle" ∧ yX11_order.cls ≠ "java/lang/invoke/VarHandle" ∧ (parseMethodDescriptor yX11_order.desc).map (fun d => d.parameters.length) = some 2 := ⟨by decide +kernel, by decide +kernel, by decide +kernel⟩
theorem hd_X11_ordered : yX11_ordered.cls ≠ "java/lang/invoke/MethodHandle" ∧ yX11_ordered.cls ≠ "java/lang/invoke/VarHandle" ∧ (parseMethodDescriptor yX11_ordered.desc).map (fun d => d.parameters.length) = some 1 := ⟨by decide +kernel, by decide +kernel, by decide +kernel⟩
theorem hd_X11_closes : yX11_closes.cls ≠ "java/lang/invoke/MethodHandle" ∧ yX11_closes.cls ≠ "java/lang/invoke/VarHandle" ∧ (parseMethodDescriptor yX11_closes.desc).map (fun d => d.parameters.length) = some 1 := ⟨by decide +kernel, by decide +kernel, by decide +kernel⟩
theorem hd_X11_recall : yX11_recall.cls ≠ "java/lang/invoke/MethodHandle" ∧ yX11_recall.cls ≠ "java/lang/invoke/VarHandle" ∧ (parseMethodDescriptor yX11_recall.desc).map (fun d => d.parameters.length) = some 6 := ⟨by decide +kernel, by decide +kernel, by decide +kernel⟩
theorem hd_X11_shifts : yX11_shifts.cls ≠ "java/lang/invoke/MethodHandle" ∧ yX11_shifts.cls ≠ "java/lang/invoke/VarHandle" ∧ (parseMethodDescriptor yX11_shifts.desc).map (fun d => d.parameters.length) = some 3 := ⟨by decide +kernel, by decide +kernel, by decide +kernel⟩
theorem hd_X11_shiftOf : yX11_shiftOf.cls ≠ "java/lang/invoke/MethodHandle" ∧ yX11_shiftOf.cls ≠ "java/lang/invoke/VarHandle" ∧ (parseMethodDescriptor yX11_shiftOf.desc).map (fun d => d.parameters.length) = some 1 := ⟨by decide +kernel, by decide +kernel, by decide +kernel⟩
theorem hd_X11_lot : yX11_lot.cls ≠ "java/lang/invoke/MethodHandle" ∧ yX11_lot.cls ≠ "java/lang/invoke/VarHandle" ∧ (parseMethodDescriptor yX11_lot.desc).map (fun d => d.parameters.length) = some 3 := ⟨by decide +kernel, by decide +kernel, by decide +kernel⟩
theorem hd_X11_torn : yX11_torn.cls ≠ "java/lang/invoke/MethodHandle" ∧ yX11_torn.cls ≠ "java/lang/invoke/VarHandle" ∧ (parseMethodDescriptor yX11_torn.desc).map (fun d => d.parameters.length) = some 3 := ⟨by decide +kernel, by decide +kernel, by decide +kernel⟩
theorem hd_X11_mark : yX11_mark.cls ≠ "java/lang/invoke/MethodHandle" ∧ yX11_mark.cls ≠ "java/lang/invoke/VarHandle" ∧ (parseMethodDescriptor yX11_mark.desc).map (fun d => d.parameters.length) = some 0 := ⟨by decide +kernel, by decide +kernel, by decide +kernel⟩
theorem hd_X11_back : yX11_back.cls ≠ "java/lang/invoke/MethodHandle" ∧ yX11_back.cls ≠ "java/lang/invoke/VarHandle" ∧ (parseMethodDescriptor yX11_back.desc).map (fun d => d.parameters.length) = some 0 := ⟨by decide +kernel, by decide +kernel, by decide +kernel⟩
theorem hd_X11_answer : yX11_answer.cls ≠ "java/lang/invoke/MethodHandle" ∧ yX11_answer.cls ≠ "java/lang/invoke/VarHandle" ∧ (parseMethodDescriptor yX11_answer.desc).map (fun d => d.parameters.length) = some 1 := ⟨by decide +kernel, by decide +kernel, by decide +kernel⟩
theorem hd_X11_none : yX11_none.cls ≠ "java/lang/invoke/MethodHandle" ∧ yX11_none.cls ≠ "java/lang/invoke/VarHandle" ∧ (parseMethodDescriptor yX11_none.desc).map (fun d => d.parameters.length) = some 1 := ⟨by decide +kernel, by decide +kernel, by decide +kernel⟩
theorem hd_X11_granted : yX11_granted.cls ≠ "java/lang/invoke/MethodHandle" ∧ yX11_granted.cls ≠ "java/lang/invoke/VarHandle" ∧ (parseMethodDescriptor yX11_granted.desc).map (fun d => d.parameters.length) = some 0 := ⟨by decide +kernel, by decide +kernel, by decide +kernel⟩
theorem hd_X11_refused : yX11_refused.cls ≠ "java/lang/invoke/MethodHandle" ∧ yX11_refused.cls ≠ "java/lang/invoke/VarHandle" ∧ (parseMethodDescriptor yX11_refused.desc).map (fun d => d.parameters.length) = some 1 := ⟨by decide +kernel, by decide +kernel, by decide +kernel⟩
theorem hd_X11_outside : yX11_outside.cls ≠ "java/lang/invoke/MethodHandle" ∧ yX11_outside.cls ≠ "java/lang/invoke/VarHandle" ∧ (parseMethodDescriptor yX11_outside.desc).map (fun d => d.parameters.length) = some 3 := ⟨by decide +kernel, by decide +kernel, by decide +kernel⟩
theorem hd_X11_isTray : yX11_isTray.cls ≠ "java/lang/invoke/MethodHandle" ∧ yX11_isTray.cls ≠ "java/lang/invoke/VarHandle" ∧ (parseMethodDescriptor yX11_isTray.desc).map (fun d => d.parameters.length) = some 1 := ⟨by decide +kernel, by decide +kernel, by decide +kernel⟩
theorem hd_X11_isMachine : yX11_isMachine.cls ≠ "java/lang/invoke/MethodHandle" ∧ yX11_isMachine.cls ≠ "java/lang/invoke/VarHandle" ∧ (parseMethodDescriptor yX11_isMachine.desc).map (fun d => d.parameters.length) = some 1 := ⟨by decide +kernel, by decide +kernel, by decide +kernel⟩
theorem hd_X11_isSort : yX11_isSort.cls ≠ "java/lang/invoke/MethodHandle" ∧ yX11_isSort.cls ≠ "java/lang/invoke/VarHandle" ∧ (parseMethodDescriptor yX11_isSort.desc).map (fun d => d.parameters.length) = some 1 := ⟨by decide +kernel, by decide +kernel, by decide +kernel⟩
theorem hd_X11_placeLack : yX11_placeLack.cls ≠ "java/lang/invoke/MethodHandle" ∧ yX11_placeLack.cls ≠ "java/lang/invoke/VarHandle" ∧ (parseMethodDescriptor yX11_placeLack.desc).map (fun d => d.parameters.length) = some 2 := ⟨by decide +kernel, by decide +kernel, by decide +kernel⟩
theorem hd_X11_rowLack : yX11_rowLack.cls ≠ "java/lang/invoke/MethodHandle" ∧ yX11_rowLack.cls ≠ "java/lang/invoke/VarHandle" ∧ (parseMethodDescriptor yX11_rowLack.desc).map (fun d => d.parameters.length) = some 2 := ⟨by decide +kernel, by decide +kernel, by decide +kernel⟩
theorem hd_X11_cut : yX11_cut.cls ≠ "java/lang/invoke/MethodHandle" ∧ yX11_cut.cls ≠ "java/lang/invoke/VarHandle" ∧ (parseMethodDescriptor yX11_cut.desc).map (fun d => d.parameters.length) = some 2 := ⟨by decide +kernel, by decide +kernel, by decide +kernel⟩
theorem hd_X11_allWithin : yX11_allWithin.cls ≠ "java/lang/invoke/MethodHandle" ∧ yX11_allWithin.cls ≠ "java/lang/invoke/VarHandle" ∧ (parseMethodDescriptor yX11_allWithin.desc).map (fun d => d.parameters.length) = some 4 := ⟨by decide +kernel, by decide +kernel, by decide +kernel⟩
theorem hd_X11_rises : yX11_rises.cls ≠ "java/lang/invoke/MethodHandle" ∧ yX11_rises.cls ≠ "java/lang/invoke/VarHandle" ∧ (parseMethodDescriptor yX11_rises.desc).map (fun d => d.parameters.length) = some 3 := ⟨by decide +kernel, by decide +kernel, by decide +kernel⟩
theorem hd_X11_tell : yX11_tell.cls ≠ "java/lang/invoke/MethodHandle" ∧ yX11_tell.cls ≠ "java/lang/invoke/VarHandle" ∧ (parseMethodDescriptor yX11_tell.desc).map (fun d => d.parameters.length) = some 2 := ⟨by decide +kernel, by decide +kernel, by decide +kernel⟩
theorem hd_X11_commonDivisor : yX11_commonDivisor.cls ≠ "java/lang/invoke/MethodHandle" ∧ yX11_commonDivisor.cls ≠ "java/lang/invoke/VarHandle" ∧ (parseMethodDescriptor yX11_commonDivisor.desc).map (fun d => d.parameters.length) = some 2 := ⟨by decide +kernel, by decide +kernel, by decide +kernel⟩
theorem hd_X11_thrownForShort : yX11_thrownForShort.cls ≠ "java/lang/invoke/MethodHandle" ∧ yX11_thrownForShort.cls ≠ "java/lang/invoke/VarHandle" ∧ (parseMethodDescriptor yX11_thrownForShort.desc).map (fun d => d.parameters.length) = some 5 := ⟨by decide +kernel, by decide +kernel, by decide +kernel⟩
theorem hd_X11_thrownForGlass : yX11_thrownForGlass.cls ≠ "java/lang/invoke/MethodHandle" ∧ yX11_thrownForGlass.cls ≠ "java/lang/invoke/VarHandle" ∧ (parseMethodDescriptor yX11_thrownForGlass.desc).map (fun d => d.parameters.length) = some 2 := ⟨by decide +kernel, by decide +kernel, by decide +kernel⟩
theorem hd_X11_thrownAlready : yX11_thrownAlready.cls ≠ "java/lang/invoke/MethodHandle" ∧ yX11_thrownAlready.cls ≠ "java/lang/invoke/VarHandle" ∧ (parseMethodDescriptor yX11_thrownAlready.desc).map (fun d => d.parameters.length) = some 3 := ⟨by decide +kernel, by decide +kernel, by decide +kernel⟩
theorem hd_X12_init : yX12_init.cls ≠ "java/lang/invoke/MethodHandle" ∧ yX12_init.cls ≠ "java/lang/invoke/VarHandle" ∧ (parseMethodDescriptor yX12_init.desc).map (fun d => d.parameters.length) = some 0 := ⟨by decide +kernel, by decide +kernel, by decide +kernel⟩
theorem hd_X12_status : yX12_status.cls ≠ "java/lang/invoke/MethodHandle" ∧ yX12_status.cls ≠ "java/lang/invoke/VarHandle" ∧ (parseMethodDescriptor yX12_status.desc).map (fun d => d.parameters.length) = some 0 := ⟨by decide +kernel, by decide +kernel, by decide +kernel⟩
theorem hd_X12_top : yX12_top.cls ≠ "java/lang/invoke/MethodHandle" ∧ yX12_top.cls ≠ "java/lang/invoke/VarHandle" ∧ (parseMethodDescriptor yX12_top.desc).map (fun d => d.parameters.length) = some 0 := ⟨by decide +kernel, by decide +kernel, by decide +kernel⟩
theorem hd_X12_bottom : yX12_bottom.cls ≠ "java/lang/invoke/MethodHandle" ∧ yX12_bottom.cls ≠ "java/lang/invoke/VarHandle" ∧ (parseMethodDescriptor yX12_bottom.desc).map (fun d => d.parameters.length) = some 0 := ⟨by decide +kernel, by decide +kernel, by decide +kernel⟩
theorem hd_X12_is : yX12_is.cls ≠ "java/lang/invoke/MethodHandle" ∧ yX12_is.cls ≠ "java/lang/invoke/VarHandle" ∧ (parseMethodDescriptor yX12_is.desc).map (fun d => d.parameters.length) = some 1 := ⟨by decide +kernel, by decide +kernel, by decide +kernel⟩
theorem hd_X12_refuse : yX12_refuse.cls ≠ "java/lang/invoke/MethodHandle" ∧ yX12_refuse.cls ≠ "java/lang/invoke/VarHandle" ∧ (parseMethodDescriptor yX12_refuse.desc).map (fun d => d.parameters.length) = some 1 := ⟨by decide +kernel, by decide +kernel, by decide +kernel⟩
theorem hd_X12_gives : yX12_gives.cls ≠ "java/lang/invoke/MethodHandle" ∧ yX12_gives.cls ≠ "java/lang/invoke/VarHandle" ∧ (parseMethodDescriptor yX12_gives.desc).map (fun d => d.parameters.length) = some 1 := ⟨by decide +kernel, by decide +kernel, by decide +kernel⟩
theorem hd_X12_isTray : yX12_isTray.cls ≠ "java/lang/invoke/MethodHandle" ∧ yX12_isTray.cls ≠ "java/lang/invoke/VarHandle" ∧ (parseMethodDescriptor yX12_isTray.desc).map (fun d => d.parameters.length) = some 1 := ⟨by decide +kernel, by decide +kernel, by decide +kernel⟩
theorem hd_X12_cut : yX12_cut.cls ≠ "java/lang/invoke/MethodHandle" ∧ yX12_cut.cls ≠ "java/lang/invoke/VarHandle" ∧ (parseMethodDescriptor yX12_cut.desc).map (fun d => d.parameters.length) = some 2 := ⟨by decide +kernel, by decide +kernel, by decide +kernel⟩
theorem hd_X12_tray : yX12_tray.cls ≠ "java/lang/invoke/MethodHandle" ∧ yX12_tray.cls ≠ "java/lang/invoke/VarHandle" ∧ (parseMethodDescriptor yX12_tray.desc).map (fun d => d.parameters.length) = some 3 := ⟨by decide +kernel, by decide +kernel, by decide +kernel⟩
theorem hd_X12_wrongPlace : yX12_wrongPlace.cls ≠ "java/lang/invoke/MethodHandle" ∧ yX12_wrongPlace.cls ≠ "java/lang/invoke/VarHandle" ∧ (parseMethodDescriptor yX12_wrongPlace.desc).map (fun d => d.parameters.length) = some 2 := ⟨by decide +kernel, by decide +kernel, by decide +kernel⟩
theorem hd_X12_write : yX12_write.cls ≠ "java/lang/invoke/MethodHandle" ∧ yX12_write.cls ≠ "java/lang/invoke/VarHandle" ∧ (parseMethodDescriptor yX12_write.desc).map (fun d => d.parameters.length) = some 3 := ⟨by decide +kernel, by decide +kernel, by decide +kernel⟩
theorem hd_X12_read : yX12_read.cls ≠ "java/lang/invoke/MethodHandle" ∧ yX12_read.cls ≠ "java/lang/invoke/VarHandle" ∧ (parseMethodDescriptor yX12_read.desc).map (fun d => d.parameters.length) = some 2 := ⟨by decide +kernel, by decide +kernel, by decide +kernel⟩
theorem hd_X12_pour : yX12_pour.cls ≠ "java/lang/invoke/MethodHandle" ∧ yX12_pour.cls ≠ "java/lang/invoke/VarHandle" ∧ (parseMethodDescriptor yX12_pour.desc).map (fun d => d.parameters.length) = some 5 := ⟨by decide +kernel, by decide +kernel, by decide +kernel⟩
theorem hd_X12_wrongRow : yX12_wrongRow.cls ≠ "java/lang/invoke/MethodHandle" ∧ yX12_wrongRow.cls ≠ "java/lang/invoke/VarHandle" ∧ (parseMethodDescriptor yX12_wrongRow.desc).map (fun d => d.parameters.length) = some 5 := ⟨by decide +kernel, by decide +kernel, by decide +kernel⟩
theorem hd_X12_isFrom : yX12_isFrom.cls ≠ "java/lang/invoke/MethodHandle" ∧ yX12_isFrom.cls ≠ "java/lang/invoke/VarHandle" ∧ (parseMethodDescriptor yX12_isFrom.desc).map (fun d => d.parameters.length) = some 3 := ⟨by decide +kernel, by decide +kernel, by decide +kernel⟩
theorem hd_X12_feed : yX12_feed.cls ≠ "java/lang/invoke/MethodHandle" ∧ yX12_feed.cls ≠ "java/lang/invoke/VarHandle" ∧ (parseMethodDescriptor yX12_feed.desc).map (fun d => d.parameters.length) = some 5 := ⟨by decide +kernel, by decide +kernel, by decide +kernel⟩
theorem hd_X12_four : yX12_four.cls ≠ "java/lang/invoke/MethodHandle" ∧ yX12_four.cls ≠ "java/lang/invoke/VarHandle" ∧ (parseMethodDescriptor yX12_four.desc).map (fun d => d.parameters.length) = some 1 := ⟨by decide +kernel, by decide +kernel, by decide +kernel⟩
theorem hd_X12_byteAt : yX12_byteAt.cls ≠ "java/lang/invoke/MethodHandle" ∧ yX12_byteAt.cls ≠ "java/lang/invoke/VarHandle" ∧ (parseMethodDescriptor yX12_byteAt.desc).map (fun d => d.parameters.length) = some 1 := ⟨by decide +kernel, by decide +kernel, by decide +kernel⟩
theorem hd_X12_isSmall : yX12_isSmall.cls ≠ "java/lang/invoke/MethodHandle" ∧ yX12_isSmall.cls ≠ "java/lang/invoke/VarHandle" ∧ (parseMethodDescriptor yX12_isSmall.desc).map (fun d => d.parameters.length) = some 1 := ⟨by decide +kernel, by decide +kernel, by decide +kernel⟩
theorem hd_X12_isDigit : yX12_isDigit.cls ≠ "java/lang/invoke/MethodHandle" ∧ yX12_isDigit.cls ≠ "java/lang/invoke/VarHandle" ∧ (parseMethodDescriptor yX12_isDigit.desc).map (fun d => d.parameters.length) = some 1 := ⟨by decide +kernel, by decide +kernel, by decide +kernel⟩
theorem hd_X12_ahead : yX12_ahead.cls ≠ "java/lang/invoke/MethodHandle" ∧ yX12_ahead.cls ≠ "java/lang/invoke/VarHandle" ∧ (parseMethodDescriptor yX12_ahead.desc).map (fun d => d.parameters.length) = some 0 := ⟨by decide +kernel, by decide +kernel, by decide +kernel⟩
theorem hd_X12_inWords : yX12_inWords.cls ≠ "java/lang/invoke/MethodHandle" ∧ yX12_inWords.cls ≠ "java/lang/invoke/VarHandle" ∧ (parseMethodDescriptor yX12_inWords.desc).map (fun d => d.parameters.length) = some 1 := ⟨by decide +kernel, by decide +kernel, by decide +kernel⟩
theorem hd_X12_fails : yX12_fails.cls ≠ "java/lang/invoke/MethodHandle" ∧ yX12_fails.cls ≠ "java/lang/invoke/VarHandle" ∧ (parseMethodDescriptor yX12_fails.desc).map (fun d => d.parameters.length) = some 1 := ⟨by decide +kernel, by decide +kernel, by decide +kernel⟩
theorem hd_X12_begins : yX12_begins.cls ≠ "java/lang/invoke/MethodHandle" ∧ yX12_begins.cls ≠ "java/lang/invoke/VarHandle" ∧ (parseMethodDescriptor yX12_begins.desc).map (fun d => d.parameters.length) = some 1 := ⟨by decide +kernel, by decide +kernel, by decide +kernel⟩
theorem hd_X12_ends : yX12_ends.cls ≠ "java/lang/invoke/MethodHandle" ∧ yX12_ends.cls ≠ "java/lang/invoke/VarHandle" ∧ (parseMethodDescriptor yX12_ends.desc).map (fun d => d.parameters.length) = some 0 := ⟨by decide +kernel, by decide +kernel, by decide +kernel⟩
theorem hd_X12_number : yX12_number.cls ≠ "java/lang/invoke/MethodHandle" ∧ yX12_number.cls ≠ "java/lang/invoke/VarHandle" ∧ (parseMethodDescriptor yX12_number.desc).map (fun d => d.parameters.length) = some 3 := ⟨by decide +kernel, by decide +kernel, by decide +kernel⟩
theorem hd_X12_wantWord : yX12_wantWord.cls ≠ "java/lang/invoke/MethodHandle" ∧ yX12_wantWord.cls ≠ "java/lang/invoke/VarHandle" ∧ (parseMethodDescriptor yX12_wantWord.desc).map (fun d => d.parameters.length) = some 1 := ⟨by decide +kernel, by decide +kernel, by decide +kernel⟩
theorem hd_X12_isName : yX12_isName.cls ≠ "java/lang/invoke/MethodHandle" ∧ yX12_isName.cls ≠ "java/lang/invoke/VarHandle" ∧ (parseMethodDescriptor yX12_isName.desc).map (fun d => d.parameters.length) = some 1 := ⟨by decide +kernel, by decide +kernel, by decide +kernel⟩
theorem hd_X12_nameHere : yX12_nameHere.cls ≠ "java/lang/invoke/MethodHandle" ∧ yX12_nameHere.cls ≠ "java/lang/invoke/VarHandle" ∧ (parseMethodDescriptor yX12_nameHere.desc).map (fun d => d.parameters.length) = some 0 := ⟨by decide +kernel, by decide +kernel, by decide +kernel⟩
theorem hd_X12_fault : yX12_fault.cls ≠ "java/lang/invoke/MethodHandle" ∧ yX12_fault.cls ≠ "java/lang/invoke/VarHandle" ∧ (parseMethodDescriptor yX12_fault.desc).map (fun d => d.parameters.length) = some 1 := ⟨by decide +kernel, by decide +kernel, by decide +kernel⟩
theorem hd_X12_machineAt : yX12_machineAt.cls ≠ "java/lang/invoke/MethodHandle" ∧ yX12_machineAt.cls ≠ "java/lang/invoke/VarHandle" ∧ (parseMethodDescriptor yX12_machineAt.desc).map (fun d => d.parameters.length) = some 2 := ⟨by decide +kernel, by decide +kernel, by decide +kernel⟩
theorem hd_X12_machineNamed : yX12_machineNamed.cls ≠ "java/lang/invoke/MethodHandle" ∧ yX12_machineNamed.cls ≠ "java/lang/invoke/VarHandle" ∧ (parseMethodDescriptor yX12_machineNamed.desc).map (fun d => d.parameters.length) = some 2 := ⟨by decide +kernel, by decide +kernel, by decide +kernel⟩
theorem hd_X12_sortHere : yX12_sortHere.cls ≠ "java/lang/invoke/MethodHandle" ∧ yX12_sortHere.cls ≠ "java/lang/invoke/VarHandle" ∧ (parseMethodDescriptor yX12_sortHere.desc).map (fun d => d.parameters.length) = some 0 := ⟨by decide +kernel, by decide +kernel, by decide +kernel⟩
theorem hd_X12_aMachine : yX12_aMachine.cls ≠ "java/lang/invoke/MethodHandle" ∧ yX12_aMachine.cls ≠ "java/lang/invoke/VarHandle" ∧ (parseMethodDescriptor yX12_aMachine.desc).map (fun d => d.parameters.length) = some 0 := ⟨by decide +kernel, by decide +kernel, by decide +kernel⟩
theorem hd_X12_aTable : yX12_aTable.cls ≠ "java/lang/invoke/MethodHandle" ∧ yX12_aTable.cls ≠ "java/lang/invoke/VarHandle" ∧ (parseMethodDescriptor yX12_aTable.desc).map (fun d => d.parameters.length) = some 0 := ⟨by decide +kernel, by decide +kernel, by decide +kernel⟩
theorem hd_X12_aSort : yX12_aSort.cls ≠ "java/lang/invoke/MethodHandle" ∧ yX12_aSort.cls ≠ "java/lang/invoke/VarHandle" ∧ (parseMethodDescriptor yX12_aSort.desc).map (fun d => d.parameters.length) = some 0 := ⟨by decide +kernel, by decide +kernel, by decide +kernel⟩
theorem hd_X12_aWash : yX12_aWash.cls ≠ "java/lang/invoke/MethodHandle" ∧ yX12_aWash.cls ≠ "java/lang/invoke/VarHandle" ∧ (parseMethodDescriptor yX12_aWash.desc).map (fun d => d.parameters.length) = some 0 := ⟨by decide +kernel, by decide +kernel, by decide +kernel⟩
theorem hd_X12_part : yX12_part.cls ≠ "java/lang/invoke/MethodHandle" ∧ yX12_part.cls ≠ "java/lang/invoke/VarHandle" ∧ (parseMethodDescriptor yX12_part.desc).map (fun d => d.parameters.length) = some 0 := ⟨by decide +kernel, by decide +kernel, by decide +kernel⟩
theorem hd_X12_fresh : yX12_fresh.cls ≠ "java/lang/invoke/MethodHandle" ∧ yX12_fresh.cls ≠ "java/lang/invoke/VarHandle" ∧ (parseMethodDescriptor yX12_fresh.desc).map (fun d => d.parameters.length) = some 2 := ⟨by decide +kernel, by decide +kernel, by decide +kernel⟩
theorem hd_X12_line : yX12_line.cls ≠ "java/lang/invoke/MethodHandle" ∧ yX12_line.cls ≠ "java/lang/invoke/VarHandle" ∧ (parseMethodDescriptor yX12_line.desc).map (fun d => d.parameters.length) = some 1 := ⟨by decide +kernel, by decide +kernel, by decide +kernel⟩
theorem hd_X12_step : yX12_step.cls ≠ "java/lang/invoke/MethodHandle" ∧ yX12_step.cls ≠ "java/lang/invoke/VarHandle" ∧ (parseMethodDescriptor yX12_step.desc).map (fun d => d.parameters.length) = some 0 := ⟨by decide +kernel, by decide +kernel, by decide +kernel⟩
theorem hd_X12_shift : yX12_shift.cls ≠ "java/lang/invoke/MethodHandle" ∧ yX12_shift.cls ≠ "java/lang/invoke/VarHandle" ∧ (parseMethodDescriptor yX12_shift.desc).map (fun d => d.parameters.length) = some 1 := ⟨by decide +kernel, by decide +kernel, by decide +kernel⟩
theorem hd_X12_isMachine : yX12_isMachine.cls ≠ "java/lang/invoke/MethodHandle" ∧ yX12_isMachine.cls ≠ "java/lang/invoke/VarHandle" ∧ (parseMethodDescriptor yX12_isMachine.desc).map (fun d => d.parameters.length) = some 1 := ⟨by decide +kernel, by decide +kernel, by decide +kernel⟩
theorem hd_X12_ofMachine : yX12_ofMachine.cls ≠ "java/lang/invoke/MethodHandle" ∧ yX12_ofMachine.cls ≠ "java/lang/invoke/VarHandle" ∧ (parseMethodDescriptor yX12_ofMachine.desc).map (fun d => d.parameters.length) = some 2 := ⟨by decide +kernel, by decide +kernel, by decide +kernel⟩
theorem hd_X12_tables : yX12_tables.cls ≠ "java/lang/invoke/MethodHandle" ∧ yX12_tables.cls ≠ "java/lang/invoke/VarHandle" ∧ (parseMethodDescriptor yX12_tables.desc).map (fun d => d.parameters.length) = some 0 := ⟨by decide +kernel, by decide +kernel, by decide +kernel⟩
theorem hd_X12_isSort : yX12_isSort.cls ≠ "java/lang/invoke/MethodHandle" ∧ yX12_isSort.cls ≠ "java/lang/invoke/VarHandle" ∧ (parseMethodDescriptor yX12_isSort.desc).map (fun d => d.parameters.length) = some 1 := ⟨by decide +kernel, by decide +kernel, by decide +kernel⟩
theorem hd_X12_made : yX12_made.cls ≠ "java/lang/invoke/MethodHandle" ∧ yX12_made.cls ≠ "java/lang/invoke/VarHandle" ∧ (parseMethodDescriptor yX12_made.desc).map (fun d => d.parameters.length) = some 0 := ⟨by decide +kernel, by decide +kernel, by decide +kernel⟩
theorem hd_X12_many : yX12_many.cls ≠ "java/lang/invoke/MethodHandle" ∧ yX12_many.cls ≠ "java/lang/invoke/VarHandle" ∧ (parseMethodDescriptor yX12_many.desc).map (fun d => d.parameters.length) = some 1 := ⟨by decide +kernel, by decide +kernel, by decide +kernel⟩
theorem hd_X12_machine : yX12_machine.cls ≠ "java/lang/invoke/MethodHandle" ∧ yX12_machine.cls ≠ "java/lang/invoke/VarHandle" ∧ (parseMethodDescriptor yX12_machine.desc).map (fun d => d.parameters.length) = some 2 := ⟨by decide +kernel, by decide +kernel, by decide +kernel⟩
theorem hd_X12_table : yX12_table.cls ≠ "java/lang/invoke/MethodHandle" ∧ yX12_table.cls ≠ "java/lang/invoke/VarHandle" ∧ (parseMethodDescriptor yX12_table.desc).map (fun d => d.parameters.length) = some 2 := ⟨by decide +kernel, by decide +kernel, by decide +kernel⟩
theorem hd_X12_wash : yX12_wash.cls ≠ "java/lang/invoke/MethodHandle" ∧ yX12_wash.cls ≠ "java/lang/invoke/VarHandle" ∧ (parseMethodDescriptor yX12_wash.desc).map (fun d => d.parameters.length) = some 2 := ⟨by decide +kernel, by decide +kernel, by decide +kernel⟩
theorem hd_X12_begin : yX12_begin.cls ≠ "java/lang/invoke/MethodHandle" ∧ yX12_begin.cls ≠ "java/lang/invoke/VarHandle" ∧ (parseMethodDescriptor yX12_begin.desc).map (fun d => d.parameters.length) = some 1 := ⟨by decide +kernel, by decide +kernel, by decide +kernel⟩
theorem hd_X12_draw : yX12_draw.cls ≠ "java/lang/invoke/MethodHandle" ∧ yX12_draw.cls ≠ "java/lang/invoke/VarHandle" ∧ (parseMethodDescriptor yX12_draw.desc).map (fun d => d.parameters.length) = some 1 := ⟨by decide +kernel, by decide +kernel, by decide +kernel⟩
theorem hd_X12_stops : yX12_stops.cls ≠ "java/lang/invoke/MethodHandle" ∧ yX12_stops.cls ≠ "java/lang/invoke/VarHandle" ∧ (parseMethodDescriptor yX12_stops.desc).map (fun d => d.parameters.length) = some 1 := ⟨by decide +kernel, by decide +kernel, by decide +kernel⟩
theorem hd_X12_moves : yX12_moves.cls ≠ "java/lang/invoke/MethodHandle" ∧ yX12_moves.cls ≠ "java/lang/invoke/VarHandle" ∧ (parseMethodDescriptor yX12_moves.desc).map (fun d => d.parameters.length) = some 2 := ⟨by decide +kernel, by decide +kernel, by decide +kernel⟩
theorem hd_X12_minute : yX12_minute.cls ≠ "java/lang/invoke/MethodHandle" ∧ yX12_minute.cls ≠ "java/lang/invoke/VarHandle" ∧ (parseMethodDescriptor yX12_minute.desc).map (fun d => d.parameters.length) = some 0 := ⟨by decide +kernel, by decide +kernel, by decide +kernel⟩
theorem hd_X12_runs : yX12_runs.cls ≠ "java/lang/invoke/MethodHandle" ∧ yX12_runs.cls ≠ "java/lang/invoke/VarHandle" ∧ (parseMethodDescriptor yX12_runs.desc).map (fun d => d.parameters.length) = some 1 := ⟨by decide +kernel, by decide +kernel, by decide +kernel⟩
theorem hd_X12_run : yX12_run.cls ≠ "java/lang/invoke/MethodHandle" ∧ yX12_run.cls ≠ "java/lang/invoke/VarHandle" ∧ (parseMethodDescriptor yX12_run.desc).map (fun d => d.parameters.length) = some 1 := ⟨by decide +kernel, by decide +kernel, by decide +kernel⟩
theorem hd_X12_minutes : yX12_minutes.cls ≠ "java/lang/invoke/MethodHandle" ∧ yX12_minutes.cls ≠ "java/lang/invoke/VarHandle" ∧ (parseMethodDescriptor yX12_minutes.desc).map (fun d => d.parameters.length) = some 2 := ⟨by decide +kernel, by decide +kernel, by decide +kernel⟩
theorem hd_X12_blame : yX12_blame.cls ≠ "java/lang/invoke/MethodHandle" ∧ yX12_blame.cls ≠ "java/lang/invoke/VarHandle" ∧ (parseMethodDescriptor yX12_blame.desc).map (fun d => d.parameters.length) = some 2 := ⟨by decide +kernel, by decide +kernel, by decide +kernel⟩
theorem hd_X12_share : yX12_share.cls ≠ "java/lang/invoke/MethodHandle" ∧ yX12_share.cls ≠ "java/lang/invoke/VarHandle" ∧ (parseMethodDescriptor yX12_share.desc).map (fun d => d.parameters.length) = some 1 := ⟨by decide +kernel, by decide +kernel, by decide +kernel⟩
theorem hd_X12_tells : yX12_tells.cls ≠ "java/lang/invoke/MethodHandle" ∧ yX12_tells.cls ≠ "java/lang/invoke/VarHandle" ∧ (parseMethodDescriptor yX12_tells.desc).map (fun d => d.parameters.length) = some 2 := ⟨by decide +kernel, by decide +kernel, by decide +kernel⟩
theorem hd_X12_copies : yX12_copies.cls ≠ "java/lang/invoke/MethodHandle" ∧ yX12_copies.cls ≠ "java/lang/invoke/VarHandle" ∧ (parseMethodDescriptor yX12_copies.desc).map (fun d => d.parameters.length) = some 2 := ⟨by decide +kernel, by decide +kernel, by decide +kernel⟩
theorem hd_X12_tries : yX12_tries.cls ≠ "java/lang/invoke/MethodHandle" ∧ yX12_tries.cls ≠ "java/lang/invoke/VarHandle" ∧ (parseMethodDescriptor yX12_tries.desc).map (fun d => d.parameters.length) = some 3 := ⟨by decide +kernel, by decide +kernel, by decide +kernel⟩
theorem hd_X12_tried : yX12_tried.cls ≠ "java/lang/invoke/MethodHandle" ∧ yX12_tried.cls ≠ "java/lang/invoke/VarHandle" ∧ (parseMethodDescriptor yX12_tried.desc).map (fun d => d.parameters.length) = some 3 := ⟨by decide +kernel, by decide +kernel, by decide +kernel⟩
theorem hd_X12_holder : yX12_holder.cls ≠ "java/lang/invoke/MethodHandle" ∧ yX12_holder.cls ≠ "java/lang/invoke/VarHandle" ∧ (parseMethodDescriptor yX12_holder.desc).map (fun d => d.parameters.length) = some 2 := ⟨by decide +kernel, by decide +kernel, by decide +kernel⟩
theorem hd_X12_gained : yX12_gained.cls ≠ "java/lang/invoke/MethodHandle" ∧ yX12_gained.cls ≠ "java/lang/invoke/VarHandle" ∧ (parseMethodDescriptor yX12_gained.desc).map (fun d => d.parameters.length) = some 0 := ⟨by decide +kernel, by decide +kernel, by decide +kernel⟩
theorem hd_X12_waitsFor : yX12_waitsFor.cls ≠ "java/lang/invoke/MethodHandle" ∧ yX12_waitsFor.cls ≠ "java/lang/invoke/VarHandle" ∧ (parseMethodDescriptor yX12_waitsFor.desc).map (fun d => d.parameters.length) = some 3 := ⟨by decide +kernel, by decide +kernel, by decide +kernel⟩
theorem hd_X12_waits : yX12_waits.cls ≠ "java/lang/invoke/MethodHandle" ∧ yX12_waits.cls ≠ "java/lang/invoke/VarHandle" ∧ (parseMethodDescriptor yX12_waits.desc).map (fun d => d.parameters.length) = some 3 := ⟨by decide +kernel, by decide +kernel, by decide +kernel⟩
theorem hd_X12_unwaited : yX12_unwaited.cls ≠ "java/lang/invoke/MethodHandle" ∧ yX12_unwaited.cls ≠ "java/lang/invoke/VarHandle" ∧ (parseMethodDescriptor yX12_unwaited.desc).map (fun d => d.parameters.length) = some 2 := ⟨by decide +kernel, by decide +kernel, by decide +kernel⟩
theorem hd_X12_shared : yX12_shared.cls ≠ "java/lang/invoke/MethodHandle" ∧ yX12_shared.cls ≠ "java/lang/invoke/VarHandle" ∧ (parseMethodDescriptor yX12_shared.desc).map (fun d => d.parameters.length) = some 3 := ⟨by decide +kernel, by decide +kernel, by decide +kernel⟩
theorem hd_X12_unit : yX12_unit.cls ≠ "java/lang/invoke/MethodHandle" ∧ yX12_unit.cls ≠ "java/lang/invoke/VarHandle" ∧ (parseMethodDescriptor yX12_unit.desc).map (fun d => d.parameters.length) = some 1 := ⟨by decide +kernel, by decide +kernel, by decide +kernel⟩
theorem hd_X12_goes : yX12_goes.cls ≠ "java/lang/invoke/MethodHandle" ∧ yX12_goes.cls ≠ "java/lang/invoke/VarHandle" ∧ (parseMethodDescriptor yX12_goes.desc).map (fun d => d.parameters.length) = some 1 := ⟨by decide +kernel, by decide +kernel, by decide +kernel⟩
theorem hd_X12_does : yX12_does.cls ≠ "java/lang/invoke/MethodHandle" ∧ yX12_does.cls ≠ "java/lang/invoke/VarHandle" ∧ (parseMethodDescriptor yX12_does.desc).map (fun d => d.parameters.length) = some 1 := ⟨by decide +kernel, by decide +kernel, by decide +kernel⟩
theorem hd_X12_behindEnds : yX12_behindEnds.cls ≠ "java/lang/invoke/MethodHandle" ∧ yX12_behindEnds.cls ≠ "java/lang/invoke/VarHandle" ∧ (parseMethodDescriptor yX12_behindEnds.desc).map (fun d => d.parameters.length) = some 1 := ⟨by decide +kernel, by decide +kernel, by decide +kernel⟩
theorem hd_X12_work : yX12_work.cls ≠ "java/lang/invoke/MethodHandle" ∧ yX12_work.cls ≠ "java/lang/invoke/VarHandle" ∧ (parseMethodDescriptor yX12_work.desc).map (fun d => d.parameters.length) = some 0 := ⟨by decide +kernel, by decide +kernel, by decide +kernel⟩
theorem hd_X12_worked : yX12_worked.cls ≠ "java/lang/invoke/MethodHandle" ∧ yX12_worked.cls ≠ "java/lang/invoke/VarHandle" ∧ (parseMethodDescriptor yX12_worked.desc).map (fun d => d.parameters.length) = some 1 := ⟨by decide +kernel, by decide +kernel, by decide +kernel⟩
theorem hd_X12_bothHave : yX12_bothHave.cls ≠ "java/lang/invoke/MethodHandle" ∧ yX12_bothHave.cls ≠ "java/lang/invoke/VarHandle" ∧ (parseMethodDescriptor yX12_bothHave.desc).map (fun d => d.parameters.length) = some 3 := ⟨by decide +kernel, by decide +kernel, by decide +kernel⟩
theorem hd_X12_takesHeads : yX12_takesHeads.cls ≠ "java/lang/invoke/MethodHandle" ∧ yX12_takesHeads.cls ≠ "java/lang/invoke/VarHandle" ∧ (parseMethodDescriptor yX12_takesHeads.desc).map (fun d => d.parameters.length) = some 1 := ⟨by decide +kernel, by decide +kernel, by decide +kernel⟩
theorem hd_X12_found : yX12_found.cls ≠ "java/lang/invoke/MethodHandle" ∧ yX12_found.cls ≠ "java/lang/invoke/VarHandle" ∧ (parseMethodDescriptor yX12_found.desc).map (fun d => d.parameters.length) = some 2 := ⟨by decide +kernel, by decide +kernel, by decide +kernel⟩
theorem hd_X12_heads : yX12_heads.cls ≠ "java/lang/invoke/MethodHandle" ∧ yX12_heads.cls ≠ "java/lang/invoke/VarHandle" ∧ (parseMethodDescriptor yX12_heads.desc).map (fun d => d.parameters.length) = some 3 := ⟨by decide +kernel, by decide +kernel, by decide +kernel⟩
theorem hd_X12_head : yX12_head.cls ≠ "java/lang/invoke/MethodHandle" ∧ yX12_head.cls ≠ "java/lang/invoke/VarHandle" ∧ (parseMethodDescriptor yX12_head.desc).map (fun d => d.parameters.length) = some 1 := ⟨by decide +kernel, by decide +kernel, by decide +kernel⟩
theorem hd_X12_thrownMany : yX12_thrownMany.cls ≠ "java/lang/invoke/MethodHandle" ∧ yX12_thrownMany.cls ≠ "java/lang/invoke/VarHandle" ∧ (parseMethodDescriptor yX12_thrownMany.desc).map (fun d => d.parameters.length) = some 1 := ⟨by decide +kernel, by decide +kernel, by decide +kernel⟩
theorem hd_X12_brief : yX12_brief.cls ≠ "java/lang/invoke/MethodHandle" ∧ yX12_brief.cls ≠ "java/lang/invoke/VarHandle" ∧ (parseMethodDescriptor yX12_brief.desc).map (fun d => d.parameters.length) = some 5 := ⟨by decide +kernel, by decide +kernel, by decide +kernel⟩
theorem hd_X12_glass : yX12_glass.cls ≠ "java/lang/invoke/MethodHandle" ∧ yX12_glass.cls ≠ "java/lang/invoke/VarHandle" ∧ (parseMethodDescriptor yX12_glass.desc).map (fun d => d.parameters.length) = some 2 := ⟨by decide +kernel, by decide +kernel, by decide +kernel⟩
theorem hd_X12_bits : yX12_bits.cls ≠ "java/lang/invoke/MethodHandle" ∧ yX12_bits.cls ≠ "java/lang/invoke/VarHandle" ∧ (parseMethodDescriptor yX12_bits.desc).map (fun d => d.parameters.length) = some 1 := ⟨by decide +kernel, by decide +kernel, by decide +kernel⟩
theorem hd_X12_order : yX12_order.cls ≠ "java/lang/invoke/MethodHandle" ∧ yX12_order.cls ≠ "java/lang/invoke/VarHandle" ∧ (parseMethodDescriptor yX12_order.desc).map (fun d => d.parameters.length) = some 2 := ⟨by decide +kernel, by decide +kernel, by decide +kernel⟩
theorem hd_X12_ordered : yX12_ordered.cls ≠ "java/lang/invoke/MethodHandle" ∧ yX12_ordered.cls ≠ "java/lang/invoke/VarHandle" ∧ (parseMethodDescriptor yX12_ordered.desc).map (fun d => d.parameters.length) = some 1 := ⟨by decide +kernel, by decide +kernel, by decide +kernel⟩
theorem hd_X12_closes : yX12_closes.cls ≠ "java/lang/invoke/MethodHandle" ∧ yX12_closes.cls ≠ "java/lang/invoke/VarHandle" ∧ (parseMethodDescriptor yX12_closes.desc).map (fun d => d.parameters.length) = some 1 := ⟨by decide +kernel, by decide +kernel, by decide +kernel⟩
theorem hd_X12_recall : yX12_recall.cls ≠ "java/lang/invoke/MethodHandle" ∧ yX12_recall.cls ≠ "java/lang/invoke/VarHandle" ∧ (parseMethodDescriptor yX12_recall.desc).map (fun d => d.parameters.length) = some 6 := ⟨by decide +kernel, by decide +kernel, by decide +kernel⟩
theorem hd_X12_lot : yX12_lot.cls ≠ "java/lang/invoke/MethodHandle" ∧ yX12_lot.cls ≠ "java/lang/invoke/VarHandle" ∧ (parseMethodDescriptor yX12_lot.desc).map (fun d => d.parameters.length) = some 3 := ⟨by decide +kernel, by decide +kernel, by decide +kernel⟩
theorem hd_X12_torn : yX12_torn.cls ≠ "java/lang/invoke/MethodHandle" ∧ yX12_torn.cls ≠ "java/lang/invoke/VarHandle" ∧ (parseMethodDescriptor yX12_torn.desc).map (fun d => d.parameters.length) = some 3 := ⟨by decide +kernel, by decide +kernel, by decide +kernel⟩
theorem hd_X12_holds : yX12_holds.cls ≠ "java/lang/invoke/MethodHandle" ∧ yX12_holds.cls ≠ "java/lang/invoke/VarHandle" ∧ (parseMethodDescriptor yX12_holds.desc).map (fun d => d.parameters.length) = some 4 := ⟨by decide +kernel, by decide +kernel, by decide +kernel⟩
theorem hd_X12_shifts : yX12_shifts.cls ≠ "java/lang/invoke/MethodHandle" ∧ yX12_shifts.cls ≠ "java/lang/invoke/VarHandle" ∧ (parseMethodDescriptor yX12_shifts.desc).map (fun d => d.parameters.length) = some 3 := ⟨by decide +kernel, by decide +kernel, by decide +kernel⟩
theorem hd_X12_shiftOf : yX12_shiftOf.cls ≠ "java/lang/invoke/MethodHandle" ∧ yX12_shiftOf.cls ≠ "java/lang/invoke/VarHandle" ∧ (parseMethodDescriptor yX12_shiftOf.desc).map (fun d => d.parameters.length) = some 1 := ⟨by decide +kernel, by decide +kernel, by decide +kernel⟩
theorem hd_X12_mark : yX12_mark.cls ≠ "java/lang/invoke/MethodHandle" ∧ yX12_mark.cls ≠ "java/lang/invoke/VarHandle" ∧ (parseMethodDescriptor yX12_mark.desc).map (fun d => d.parameters.length) = some 0 := ⟨by decide +kernel, by decide +kernel, by decide +kernel⟩
theorem hd_X12_back : yX12_back.cls ≠ "java/lang/invoke/MethodHandle" ∧ yX12_back.cls ≠ "java/lang/invoke/VarHandle" ∧ (parseMethodDescriptor yX12_back.desc).map (fun d => d.parameters.length) = some 0 := ⟨by decide +kernel, by decide +kernel, by decide +kernel⟩
theorem hd_J6_bitCount_0f7a4 : yJ6_bitCount_0f7a4.cls ≠ "java/lang/invoke/MethodHandle" ∧ yJ6_bitCount_0f7a4.cls ≠ "java/lang/invoke/VarHandle" ∧ (parseMethodDescriptor yJ6_bitCount_0f7a4.desc).map (fun d => d.parameters.length) = some 1 := ⟨by decide +kernel, by decide +kernel, by decide +kernel⟩
theorem hd_J13_bitCount_95d88 : yJ13_bitCount_95d88.cls ≠ "java/lang/invoke/MethodHandle" ∧ yJ13_bitCount_95d88.cls ≠ "java/lang/invoke/VarHandle" ∧ (parseMethodDescriptor yJ13_bitCount_95d88.desc).map (fun d => d.parameters.length) = some 1 := ⟨by decide +kernel, by decide +kernel, by decide +kernel⟩
theorem hd_J9_abs_067f4 : yJ9_abs_067f4.cls ≠ "java/lang/invoke/MethodHandle" ∧ yJ9_abs_067f4.cls ≠ "java/lang/invoke/VarHandle" ∧ (parseMethodDescriptor yJ9_abs_067f4.desc).map (fun d => d.parameters.length) = some 1 := ⟨by decide +kernel, by decide +kernel, by decide +kernel⟩
theorem hd_J9_max_7cf53 : yJ9_max_7cf53.cls ≠ "java/lang/invoke/MethodHandle" ∧ yJ9_max_7cf53.cls ≠ "java/lang/invoke/VarHandle" ∧ (parseMethodDescriptor yJ9_max_7cf53.desc).map (fun d => d.parameters.length) = some 2 := ⟨by decide +kernel, by decide +kernel, by decide +kernel⟩
theorem hd_J9_max_f86c9 : yJ9_max_f86c9.cls ≠ "java/lang/invoke/MethodHandle" ∧ yJ9_max_f86c9.cls ≠ "java/lang/invoke/VarHandle" ∧ (parseMethodDescriptor yJ9_max_f86c9.desc).map (fun d => d.parameters.length) = some 2 := ⟨by decide +kernel, by decide +kernel, by decide +kernel⟩
theorem hd_J9_min_7cf53 : yJ9_min_7cf53.cls ≠ "java/lang/invoke/MethodHandle" ∧ yJ9_min_7cf53.cls ≠ "java/lang/invoke/VarHandle" ∧ (parseMethodDescriptor yJ9_min_7cf53.desc).map (fun d => d.parameters.length) = some 2 := ⟨by decide +kernel, by decide +kernel, by decide +kernel⟩
theorem hd_J9_min_f86c9 : yJ9_min_f86c9.cls ≠ "java/lang/invoke/MethodHandle" ∧ yJ9_min_f86c9.cls ≠ "java/lang/invoke/VarHandle" ∧ (parseMethodDescriptor yJ9_min_f86c9.desc).map (fun d => d.parameters.length) = some 2 := ⟨by decide +kernel, by decide +kernel, by decide +kernel⟩
theorem hd_J0_length_8abf5 : yJ0_length_8abf5.cls ≠ "java/lang/invoke/MethodHandle" ∧ yJ0_length_8abf5.cls ≠ "java/lang/invoke/VarHandle" ∧ (parseMethodDescriptor yJ0_length_8abf5.desc).map (fun d => d.parameters.length) = some 0 := ⟨by decide +kernel, by decide +kernel, by decide +kernel⟩
theorem hd_J0_charAt_5068e : yJ0_charAt_5068e.cls ≠ "java/lang/invoke/MethodHandle" ∧ yJ0_charAt_5068e.cls ≠ "java/lang/invoke/VarHandle" ∧ (parseMethodDescriptor yJ0_charAt_5068e.desc).map (fun d => d.parameters.length) = some 1 := ⟨by decide +kernel, by decide +kernel, by decide +kernel⟩
theorem hd_J0_coder_7d493 : yJ0_coder_7d493.cls ≠ "java/lang/invoke/MethodHandle" ∧ yJ0_coder_7d493.cls ≠ "java/lang/invoke/VarHandle" ∧ (parseMethodDescriptor yJ0_coder_7d493.desc).map (fun d => d.parameters.length) = some 0 := ⟨by decide +kernel, by decide +kernel, by decide +kernel⟩
theorem hd_J0_isLatin1_aae02 : yJ0_isLatin1_aae02.cls ≠ "java/lang/invoke/MethodHandle" ∧ yJ0_isLatin1_aae02.cls ≠ "java/lang/invoke/VarHandle" ∧ (parseMethodDescriptor yJ0_isLatin1_aae02.desc).map (fun d => d.parameters.length) = some 0 := ⟨by decide +kernel, by decide +kernel, by decide +kernel⟩
theorem hd_J0_checkIndex_df160 : yJ0_checkIndex_df160.cls ≠ "java/lang/invoke/MethodHandle" ∧ yJ0_checkIndex_df160.cls ≠ "java/lang/invoke/VarHandle" ∧ (parseMethodDescriptor yJ0_checkIndex_df160.desc).map (fun d => d.parameters.length) = some 2 := ⟨by decide +kernel, by decide +kernel, by decide +kernel⟩
theorem hd_J1_charAt_3b067 : yJ1_charAt_3b067.cls ≠ "java/lang/invoke/MethodHandle" ∧ yJ1_charAt_3b067.cls ≠ "java/lang/invoke/VarHandle" ∧ (parseMethodDescriptor yJ1_charAt_3b067.desc).map (fun d => d.parameters.length) = some 2 := ⟨by decide +kernel, by decide +kernel, by decide +kernel⟩
theorem hd_J2_getChar_3b067 : yJ2_getChar_3b067.cls ≠ "java/lang/invoke/MethodHandle" ∧ yJ2_getChar_3b067.cls ≠ "java/lang/invoke/VarHandle" ∧ (parseMethodDescriptor yJ2_getChar_3b067.desc).map (fun d => d.parameters.length) = some 2 := ⟨by decide +kernel, by decide +kernel, by decide +kernel⟩
theorem hd_J2_length_9d52b : yJ2_length_9d52b.cls ≠ "java/lang/invoke/MethodHandle" ∧ yJ2_length_9d52b.cls ≠ "java/lang/invoke/VarHandle" ∧ (parseMethodDescriptor yJ2_length_9d52b.desc).map (fun d => d.parameters.length) = some 1 := ⟨by decide +kernel, by decide +kernel, by decide +kernel⟩
theorem hd_J2_charAt_3b067 : yJ2_charAt_3b067.cls ≠ "java/lang/invoke/MethodHandle" ∧ yJ2_charAt_3b067.cls ≠ "java/lang/invoke/VarHandle" ∧ (parseMethodDescriptor yJ2_charAt_3b067.desc).map (fun d => d.parameters.length) = some 2 := ⟨by decide +kernel, by decide +kernel, by decide +kernel⟩
theorem hd_J2_checkIndex_2214a : yJ2_checkIndex_2214a.cls ≠ "java/lang/invoke/MethodHandle" ∧ yJ2_checkIndex_2214a.cls ≠ "java/lang/invoke/VarHandle" ∧ (parseMethodDescriptor yJ2_checkIndex_2214a.desc).map (fun d => d.parameters.length) = some 2 := ⟨by decide +kernel, by decide +kernel, by decide +kernel⟩
theorem hd_J7_fill_d0a16 : yJ7_fill_d0a16.cls ≠ "java/lang/invoke/MethodHandle" ∧ yJ7_fill_d0a16.cls ≠ "java/lang/invoke/VarHandle" ∧ (parseMethodDescriptor yJ7_fill_d0a16.desc).map (fun d => d.parameters.length) = some 2 := ⟨by decide +kernel, by decide +kernel, by decide +kernel⟩
theorem hd_J7_fill_53178 : yJ7_fill_53178.cls ≠ "java/lang/invoke/MethodHandle" ∧ yJ7_fill_53178.cls ≠ "java/lang/invoke/VarHandle" ∧ (parseMethodDescriptor yJ7_fill_53178.desc).map (fun d => d.parameters.length) = some 2 := ⟨by decide +kernel, by decide +kernel, by decide +kernel⟩
theorem hd_J3_checkIndex_8e157 : yJ3_checkIndex_8e157.cls ≠ "java/lang/invoke/MethodHandle" ∧ yJ3_checkIndex_8e157.cls ≠ "java/lang/invoke/VarHandle" ∧ (parseMethodDescriptor yJ3_checkIndex_8e157.desc).map (fun d => d.parameters.length) = some 3 := ⟨by decide +kernel, by decide +kernel, by decide +kernel⟩
theorem zNest_o : Cond.methodLinkNest RX8 83 yX11_outside "BottleLine" ∈ zNest := by decide +kernel
