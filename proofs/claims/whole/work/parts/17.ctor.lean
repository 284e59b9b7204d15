theorem lw_in_t {w : Cond} (h : w ∈ tables_1) : w ∈ lw_tbl := List.mem_append_right _ h
theorem tin_1 {w : Cond} (h : w ∈ tables_1_1) : w ∈ lw_tbl := lw_in_t (show w ∈ tables_1_1 ++ (tables_1_2 ++ (tables_1_3 ++ (tables_1_4 ++ (tables_1_5 ++ (tables_1_6 ++ (tables_1_7 ++ tables_1_8)))))) from List.mem_append_left _ h)
theorem tin_2 {w : Cond} (h : w ∈ tables_1_2) : w ∈ lw_tbl := lw_in_t (show w ∈ tables_1_1 ++ (tables_1_2 ++ (tables_1_3 ++ (tables_1_4 ++ (tables_1_5 ++ (tables_1_6 ++ (tables_1_7 ++ tables_1_8)))))) from List.mem_append_right _ (List.mem_append_left _ h))
theorem tin_3 {w : Cond} (h : w ∈ tables_1_3) : w ∈ lw_tbl := lw_in_t (show w ∈ tables_1_1 ++ (tables_1_2 ++ (tables_1_3 ++ (tables_1_4 ++ (tables_1_5 ++ (tables_1_6 ++ (tables_1_7 ++ tables_1_8)))))) from List.mem_append_right _ (List.mem_append_right _ (List.mem_append_left _ h)))
theorem tin_4 {w : Cond} (h : w ∈ tables_1_4) : w ∈ lw_tbl := lw_in_t (show w ∈ tables_1_1 ++ (tables_1_2 ++ (tables_1_3 ++ (tables_1_4 ++ (tables_1_5 ++ (tables_1_6 ++ (tables_1_7 ++ tables_1_8)))))) from List.mem_append_right _ (List.mem_append_right _ (List.mem_append_right _ (List.mem_append_left _ h))))
theorem tin_5 {w : Cond} (h : w ∈ tables_1_5) : w ∈ lw_tbl := lw_in_t (show w ∈ tables_1_1 ++ (tables_1_2 ++ (tables_1_3 ++ (tables_1_4 ++ (tables_1_5 ++ (tables_1_6 ++ (tables_1_7 ++ tables_1_8)))))) from List.mem_append_right _ (List.mem_append_right _ (List.mem_append_right _ (List.mem_append_right _ (List.mem_append_left _ h)))))
theorem tin_6 {w : Cond} (h : w ∈ tables_1_6) : w ∈ lw_tbl := lw_in_t (show w ∈ tables_1_1 ++ (tables_1_2 ++ (tables_1_3 ++ (tables_1_4 ++ (tables_1_5 ++ (tables_1_6 ++ (tables_1_7 ++ tables_1_8)))))) from List.mem_append_right _ (List.mem_append_right _ (List.mem_append_right _ (List.mem_append_right _ (List.mem_append_right _ (List.mem_append_left _ h))))))
theorem tin_7 {w : Cond} (h : w ∈ tables_1_7) : w ∈ lw_tbl := lw_in_t (show w ∈ tables_1_1 ++ (tables_1_2 ++ (tables_1_3 ++ (tables_1_4 ++ (tables_1_5 ++ (tables_1_6 ++ (tables_1_7 ++ tables_1_8)))))) from List.mem_append_right _ (List.mem_append_right _ (List.mem_append_right _ (List.mem_append_right _ (List.mem_append_right _ (List.mem_append_right _ (List.mem_append_left _ h)))))))
theorem tin_8 {w : Cond} (h : w ∈ tables_1_8) : w ∈ lw_tbl := lw_in_t (show w ∈ tables_1_1 ++ (tables_1_2 ++ (tables_1_3 ++ (tables_1_4 ++ (tables_1_5 ++ (tables_1_6 ++ (tables_1_7 ++ tables_1_8)))))) from List.mem_append_right _ (List.mem_append_right _ (List.mem_append_right _ (List.mem_append_right _ (List.mem_append_right _ (List.mem_append_right _ (List.mem_append_right _ (h))))))))
theorem wd0 : Cond.initialized RL ∈ lwg := lwg_in (tin_1 (List.mem_of_getElem? (i := 0) rfl)) rfl
theorem wd1 : Cond.initialized RX11 ∈ lwg := lwg_in (tin_1 (List.mem_of_getElem? (i := 1) rfl)) rfl
theorem wd2 : Cond.initialized RX8 ∈ lwg := lwg_in (tin_1 (List.mem_of_getElem? (i := 2) rfl)) rfl
theorem wd3 : Cond.initialized RX3 ∈ lwg := lwg_in (tin_1 (List.mem_of_getElem? (i := 3) rfl)) rfl
theorem wd4 : Cond.initialized RX5 ∈ lwg := lwg_in (tin_1 (List.mem_of_getElem? (i := 4) rfl)) rfl
theorem wd5 : Cond.initialized RX1 ∈ lwg := lwg_in (tin_1 (List.mem_of_getElem? (i := 5) rfl)) rfl
theorem wd6 : Cond.initialized RX7 ∈ lwg := lwg_in (tin_1 (List.mem_of_getElem? (i := 6) rfl)) rfl
theorem wd7 : Cond.initialized RX6 ∈ lwg := lwg_in (tin_1 (List.mem_of_getElem? (i := 7) rfl)) rfl
theorem wd8 : Cond.initialized RX9 ∈ lwg := lwg_in (tin_1 (List.mem_of_getElem? (i := 8) rfl)) rfl
theorem wd9 : Cond.initialized RX0 ∈ lwg := lwg_in (tin_1 (List.mem_of_getElem? (i := 9) rfl)) rfl
theorem wd10 : Cond.initialized RX2 ∈ lwg := lwg_in (tin_1 (List.mem_of_getElem? (i := 10) rfl)) rfl
theorem wd11 : Cond.initialized RX10 ∈ lwg := lwg_in (tin_1 (List.mem_of_getElem? (i := 11) rfl)) rfl
theorem wd12 : Cond.initialized RX4 ∈ lwg := lwg_in (tin_1 (List.mem_of_getElem? (i := 12) rfl)) rfl
theorem wd13 : Cond.initialized RJ7 ∈ lwg := lwg_in (tin_1 (List.mem_of_getElem? (i := 13) rfl)) rfl
theorem wd14 : Cond.initialized RX12 ∈ lwg := lwg_in (tin_1 (List.mem_of_getElem? (i := 14) rfl)) rfl
theorem wd15 : Cond.initialized RJ10 ∈ lwg := lwg_in (tin_1 (List.mem_of_getElem? (i := 15) rfl)) rfl
theorem wd16 : Cond.initialized RJ9 ∈ lwg := lwg_in (tin_1 (List.mem_of_getElem? (i := 16) rfl)) rfl
theorem wd17 : Cond.initialized RJ0 ∈ lwg := lwg_in (tin_1 (List.mem_of_getElem? (i := 17) rfl)) rfl
theorem wd18 : Cond.initialized RJ1 ∈ lwg := lwg_in (tin_1 (List.mem_of_getElem? (i := 18) rfl)) rfl
theorem wd19 : Cond.initialized RJ3 ∈ lwg := lwg_in (tin_1 (List.mem_of_getElem? (i := 19) rfl)) rfl
theorem wd20 : Cond.initialized RJ2 ∈ lwg := lwg_in (tin_1 (List.mem_of_getElem? (i := 20) rfl)) rfl
theorem wd21 : Cond.initialized RJ13 ∈ lwg := lwg_in (tin_1 (List.mem_of_getElem? (i := 21) rfl)) rfl
theorem wd22 : Cond.initialized RJ6 ∈ lwg := lwg_in (tin_1 (List.mem_of_getElem? (i := 22) rfl)) rfl
theorem wd23 : Cond.classLink RL 7 "BottleLine" ∈ lwg := lwg_in (tin_1 (List.mem_of_getElem? (i := 23) rfl)) rfl
theorem wd24 : Cond.instantiable RX11 19 ∈ lwg := lwg_in (tin_1 (List.mem_of_getElem? (i := 24) rfl)) rfl
theorem wd25 : Cond.methodLink RL 9 yX11_init ∈ lwg := lwg_in (tin_1 (List.mem_of_getElem? (i := 25) rfl)) rfl
theorem wd26 : Cond.instanceMethod yX11_init ∈ lwg := lwg_in (tin_1 (List.mem_of_getElem? (i := 26) rfl)) rfl
theorem wd27 : Cond.code yX11_init cX11_init 2 none ∈ lwg := lwg_in (tin_1 (List.mem_of_getElem? (i := 27) rfl)) rfl
theorem wd28 : Cond.methodLink RX11 1 (⟨"java/lang/Object", "<init>", "()V"⟩ : MethodName) ∈ lwg := lwg_in (tin_1 (List.mem_of_getElem? (i := 28) rfl)) rfl
theorem wd29 : Cond.instanceMethod (⟨"java/lang/Object", "<init>", "()V"⟩ : MethodName) ∈ lwg := lwg_in (tin_1 (List.mem_of_getElem? (i := 29) rfl)) rfl
theorem wd30 : Cond.code (⟨"java/lang/Object", "<init>", "()V"⟩ : MethodName) object_method_1_code 1 none ∈ lwg := lwg_in (tin_1 (List.mem_of_getElem? (i := 30) rfl)) rfl
theorem wd31 : Cond.classLink RX11 20 "[[J" ∈ lwg := lwg_in (tin_1 (List.mem_of_getElem? (i := 31) rfl)) rfl
theorem wd32 : Cond.classLink RX11 32 "BottleLine$Tape" ∈ lwg := lwg_in (tin_1 (List.mem_of_getElem? (i := 33) rfl)) rfl
theorem wd33 : Cond.instantiable RX8 11 ∈ lwg := lwg_in (tin_1 (List.mem_of_getElem? (i := 34) rfl)) rfl
theorem wd34 : Cond.instanceMethod yX8_init ∈ lwg := lwg_in (tin_1 (List.mem_of_getElem? (i := 36) rfl)) rfl
theorem wd35 : Cond.code yX8_init cX8_init 1 none ∈ lwg := lwg_in (tin_1 (List.mem_of_getElem? (i := 37) rfl)) rfl
theorem wd36 : Cond.methodLink RX8 3 (⟨"java/lang/Object", "<init>", "()V"⟩ : MethodName) ∈ lwg := lwg_in (tin_1 (List.mem_of_getElem? (i := 38) rfl)) rfl
theorem wd37 : Cond.fieldLink RX8 9 "BottleLine$Tape" "text" "[B" ∈ lwg := lwg_in (tin_1 (List.mem_of_getElem? (i := 39) rfl)) rfl
theorem wd38 : Cond.fieldLink RX8 15 "BottleLine$Tape" "filled" "I" ∈ lwg := lwg_in (tin_1 (List.mem_of_getElem? (i := 40) rfl)) rfl
theorem wd39 : Cond.fieldLink RX11 161 "BottleLine$Tape" "filled" "I" ∈ lwg := lwg_in (tin_1 (List.mem_of_getElem? (i := 41) rfl)) rfl
theorem wd40 : Cond.fieldLink RX8 19 "BottleLine$Tape" "length" "I" ∈ lwg := lwg_in (tin_1 (List.mem_of_getElem? (i := 42) rfl)) rfl
theorem wd41 : Cond.fieldLink RX8 22 "BottleLine$Tape" "next" "I" ∈ lwg := lwg_in (tin_1 (List.mem_of_getElem? (i := 43) rfl)) rfl
theorem wd42 : Cond.fieldLink RX8 25 "BottleLine$Tape" "kind" "I" ∈ lwg := lwg_in (tin_1 (List.mem_of_getElem? (i := 44) rfl)) rfl
theorem wd43 : Cond.fieldLink RX3 45 "BottleLine$Tape" "kind" "I" ∈ lwg := lwg_in (tin_1 (List.mem_of_getElem? (i := 45) rfl)) rfl
theorem wd44 : Cond.fieldLink RX7 38 "BottleLine$Tape" "kind" "I" ∈ lwg := lwg_in (tin_1 (List.mem_of_getElem? (i := 46) rfl)) rfl
theorem wd45 : Cond.fieldLink RX8 28 "BottleLine$Tape" "from" "I" ∈ lwg := lwg_in (tin_1 (List.mem_of_getElem? (i := 47) rfl)) rfl
theorem wd46 : Cond.fieldLink RX8 31 "BottleLine$Tape" "letters" "J" ∈ lwg := lwg_in (tin_1 (List.mem_of_getElem? (i := 48) rfl)) rfl
theorem wd47 : Cond.fieldLink RX3 110 "BottleLine$Tape" "letters" "J" ∈ lwg := lwg_in (tin_1 (List.mem_of_getElem? (i := 49) rfl)) rfl
theorem wd48 : Cond.fieldLink RX7 122 "BottleLine$Tape" "letters" "J" ∈ lwg := lwg_in (tin_1 (List.mem_of_getElem? (i := 50) rfl)) rfl
theorem wd49 : Cond.fieldLink RX8 35 "BottleLine$Tape" "number" "I" ∈ lwg := lwg_in (tin_1 (List.mem_of_getElem? (i := 51) rfl)) rfl
theorem wd50 : Cond.fieldLink RX8 38 "BottleLine$Tape" "taken" "I" ∈ lwg := lwg_in (tin_1 (List.mem_of_getElem? (i := 52) rfl)) rfl
theorem wd51 : Cond.fieldLink RX3 132 "BottleLine$Tape" "taken" "I" ∈ lwg := lwg_in (tin_1 (List.mem_of_getElem? (i := 53) rfl)) rfl
theorem wd52 : Cond.fieldLink RX7 109 "BottleLine$Tape" "taken" "I" ∈ lwg := lwg_in (tin_1 (List.mem_of_getElem? (i := 54) rfl)) rfl
theorem wd53 : Cond.fieldLink RX8 41 "BottleLine$Tape" "fault" "I" ∈ lwg := lwg_in (tin_1 (List.mem_of_getElem? (i := 55) rfl)) rfl
theorem wd54 : Cond.fieldLink RX11 204 "BottleLine$Tape" "fault" "I" ∈ lwg := lwg_in (tin_1 (List.mem_of_getElem? (i := 56) rfl)) rfl
theorem wd55 : Cond.fieldLink RX8 44 "BottleLine$Tape" "faultAt" "I" ∈ lwg := lwg_in (tin_1 (List.mem_of_getElem? (i := 57) rfl)) rfl
theorem wd56 : Cond.fieldLink RX11 207 "BottleLine$Tape" "faultAt" "I" ∈ lwg := lwg_in (tin_1 (List.mem_of_getElem? (i := 58) rfl)) rfl
theorem wd57 : Cond.arrayClass .long ∈ lwg := lwg_in (tin_1 (List.mem_of_getElem? (i := 82) rfl)) rfl
theorem wd58 : Cond.arrayClass .int ∈ lwg := lwg_in (tin_1 (List.mem_of_getElem? (i := 83) rfl)) rfl
theorem wd59 : Cond.arrayClass .byte ∈ lwg := lwg_in (tin_1 (List.mem_of_getElem? (i := 84) rfl)) rfl
theorem wd60 : Cond.classLink RX11 39 "BottleLine$LineReader" ∈ lwg := lwg_in (tin_1 (List.mem_of_getElem? (i := 85) rfl)) rfl
theorem wd61 : Cond.instantiable RX3 6 ∈ lwg := lwg_in (tin_1 (List.mem_of_getElem? (i := 86) rfl)) rfl
theorem wd62 : Cond.methodLink RX11 41 yX3_init ∈ lwg := lwg_in (tin_1 (List.mem_of_getElem? (i := 87) rfl)) rfl
theorem wd63 : Cond.instanceMethod yX3_init ∈ lwg := lwg_in (tin_1 (List.mem_of_getElem? (i := 88) rfl)) rfl
theorem wd64 : Cond.code yX3_init cX3_init 2 none ∈ lwg := lwg_in (tin_1 (List.mem_of_getElem? (i := 89) rfl)) rfl
theorem wd65 : Cond.methodLink RX3 3 (⟨"java/lang/Object", "<init>", "()V"⟩ : MethodName) ∈ lwg := lwg_in (tin_1 (List.mem_of_getElem? (i := 90) rfl)) rfl
theorem wd66 : Cond.classLink RX3 9 "BottleLine$Plan" ∈ lwg := lwg_in (tin_1 (List.mem_of_getElem? (i := 91) rfl)) rfl
theorem wd67 : Cond.instantiable RX5 5 ∈ lwg := lwg_in (tin_1 (List.mem_of_getElem? (i := 92) rfl)) rfl
theorem wd68 : Cond.instanceMethod yX5_init ∈ lwg := lwg_in (tin_1 (List.mem_of_getElem? (i := 94) rfl)) rfl
theorem wd69 : Cond.code yX5_init cX5_init 1 none ∈ lwg := lwg_in (tin_1 (List.mem_of_getElem? (i := 95) rfl)) rfl
theorem wd70 : Cond.methodLink RX5 3 (⟨"java/lang/Object", "<init>", "()V"⟩ : MethodName) ∈ lwg := lwg_in (tin_1 (List.mem_of_getElem? (i := 96) rfl)) rfl
theorem wd71 : Cond.classLink RX5 9 "BottleLine$Floor" ∈ lwg := lwg_in (tin_1 (List.mem_of_getElem? (i := 97) rfl)) rfl
theorem wd72 : Cond.instantiable RX1 14 ∈ lwg := lwg_in (tin_1 (List.mem_of_getElem? (i := 98) rfl)) rfl
theorem wd73 : Cond.instanceMethod yX1_init ∈ lwg := lwg_in (tin_1 (List.mem_of_getElem? (i := 100) rfl)) rfl
theorem wd74 : Cond.code yX1_init cX1_init 1 none ∈ lwg := lwg_in (tin_1 (List.mem_of_getElem? (i := 101) rfl)) rfl
theorem wd75 : Cond.methodLink RX1 3 (⟨"java/lang/Object", "<init>", "()V"⟩ : MethodName) ∈ lwg := lwg_in (tin_1 (List.mem_of_getElem? (i := 102) rfl)) rfl
theorem wd76 : Cond.fieldLink RX1 9 "BottleLine$Floor" "machines" "I" ∈ lwg := lwg_in (tin_1 (List.mem_of_getElem? (i := 103) rfl)) rfl
theorem wd77 : Cond.fieldLink RX5 33 "BottleLine$Floor" "machines" "I" ∈ lwg := lwg_in (tin_1 (List.mem_of_getElem? (i := 104) rfl)) rfl
theorem wd78 : Cond.fieldLink RX2 49 "BottleLine$Floor" "machines" "I" ∈ lwg := lwg_in (tin_1 (List.mem_of_getElem? (i := 105) rfl)) rfl
theorem wd79 : Cond.fieldLink RX9 54 "BottleLine$Floor" "machines" "I" ∈ lwg := lwg_in (tin_1 (List.mem_of_getElem? (i := 106) rfl)) rfl
theorem wd80 : Cond.fieldLink RX3 95 "BottleLine$Floor" "machines" "I" ∈ lwg := lwg_in (tin_1 (List.mem_of_getElem? (i := 107) rfl)) rfl
theorem wd81 : Cond.fieldLink RX11 182 "BottleLine$Floor" "machines" "I" ∈ lwg := lwg_in (tin_1 (List.mem_of_getElem? (i := 108) rfl)) rfl
theorem wd82 : Cond.fieldLink RX1 15 "BottleLine$Floor" "speed" "[I" ∈ lwg := lwg_in (tin_1 (List.mem_of_getElem? (i := 109) rfl)) rfl
theorem wd83 : Cond.fieldLink RX9 43 "BottleLine$Floor" "speed" "[I" ∈ lwg := lwg_in (tin_1 (List.mem_of_getElem? (i := 110) rfl)) rfl
theorem wd84 : Cond.fieldLink RX3 129 "BottleLine$Floor" "speed" "[I" ∈ lwg := lwg_in (tin_1 (List.mem_of_getElem? (i := 111) rfl)) rfl
theorem wd85 : Cond.fieldLink RX0 105 "BottleLine$Floor" "speed" "[I" ∈ lwg := lwg_in (tin_1 (List.mem_of_getElem? (i := 112) rfl)) rfl
theorem wd86 : Cond.fieldLink RX11 223 "BottleLine$Floor" "speed" "[I" ∈ lwg := lwg_in (tin_1 (List.mem_of_getElem? (i := 113) rfl)) rfl
theorem wd87 : Cond.fieldLink RX1 19 "BottleLine$Floor" "stops" "[I" ∈ lwg := lwg_in (tin_1 (List.mem_of_getElem? (i := 114) rfl)) rfl
theorem wd88 : Cond.fieldLink RX3 150 "BottleLine$Floor" "stops" "[I" ∈ lwg := lwg_in (tin_1 (List.mem_of_getElem? (i := 115) rfl)) rfl
theorem wd89 : Cond.fieldLink RX11 229 "BottleLine$Floor" "stops" "[I" ∈ lwg := lwg_in (tin_1 (List.mem_of_getElem? (i := 116) rfl)) rfl
theorem wd90 : Cond.fieldLink RX1 22 "BottleLine$Floor" "lasts" "[I" ∈ lwg := lwg_in (tin_1 (List.mem_of_getElem? (i := 117) rfl)) rfl
theorem wd91 : Cond.fieldLink RX3 152 "BottleLine$Floor" "lasts" "[I" ∈ lwg := lwg_in (tin_1 (List.mem_of_getElem? (i := 118) rfl)) rfl
theorem wd92 : Cond.fieldLink RX11 232 "BottleLine$Floor" "lasts" "[I" ∈ lwg := lwg_in (tin_1 (List.mem_of_getElem? (i := 119) rfl)) rfl
theorem wd93 : Cond.fieldLink RX1 25 "BottleLine$Floor" "room" "[I" ∈ lwg := lwg_in (tin_1 (List.mem_of_getElem? (i := 120) rfl)) rfl
theorem wd94 : Cond.fieldLink RX3 154 "BottleLine$Floor" "room" "[I" ∈ lwg := lwg_in (tin_1 (List.mem_of_getElem? (i := 121) rfl)) rfl
theorem wd95 : Cond.fieldLink RX9 83 "BottleLine$Floor" "room" "[I" ∈ lwg := lwg_in (tin_1 (List.mem_of_getElem? (i := 122) rfl)) rfl
theorem wd96 : Cond.fieldLink RX11 247 "BottleLine$Floor" "room" "[I" ∈ lwg := lwg_in (tin_1 (List.mem_of_getElem? (i := 123) rfl)) rfl
theorem wd97 : Cond.fieldLink RX1 28 "BottleLine$Floor" "seed" "I" ∈ lwg := lwg_in (tin_1 (List.mem_of_getElem? (i := 124) rfl)) rfl
theorem wd98 : Cond.fieldLink RX9 86 "BottleLine$Floor" "seed" "I" ∈ lwg := lwg_in (tin_1 (List.mem_of_getElem? (i := 125) rfl)) rfl
theorem wd99 : Cond.fieldLink RX1 31 "BottleLine$Floor" "drawn" "I" ∈ lwg := lwg_in (tin_1 (List.mem_of_getElem? (i := 126) rfl)) rfl
theorem wd100 : Cond.fieldLink RX1 34 "BottleLine$Floor" "minutesGone" "I" ∈ lwg := lwg_in (tin_1 (List.mem_of_getElem? (i := 127) rfl)) rfl
theorem wd101 : Cond.fieldLink RX11 213 "BottleLine$Floor" "minutesGone" "I" ∈ lwg := lwg_in (tin_1 (List.mem_of_getElem? (i := 128) rfl)) rfl
theorem wd102 : Cond.fieldLink RX1 37 "BottleLine$Floor" "stand" "[I" ∈ lwg := lwg_in (tin_1 (List.mem_of_getElem? (i := 129) rfl)) rfl
theorem wd103 : Cond.fieldLink RX0 108 "BottleLine$Floor" "stand" "[I" ∈ lwg := lwg_in (tin_1 (List.mem_of_getElem? (i := 130) rfl)) rfl
theorem wd104 : Cond.fieldLink RX11 235 "BottleLine$Floor" "stand" "[I" ∈ lwg := lwg_in (tin_1 (List.mem_of_getElem? (i := 131) rfl)) rfl
theorem wd105 : Cond.fieldLink RX1 40 "BottleLine$Floor" "how" "[I" ∈ lwg := lwg_in (tin_1 (List.mem_of_getElem? (i := 132) rfl)) rfl
theorem wd106 : Cond.fieldLink RX9 64 "BottleLine$Floor" "how" "[I" ∈ lwg := lwg_in (tin_1 (List.mem_of_getElem? (i := 133) rfl)) rfl
theorem wd107 : Cond.fieldLink RX0 102 "BottleLine$Floor" "how" "[I" ∈ lwg := lwg_in (tin_1 (List.mem_of_getElem? (i := 134) rfl)) rfl
theorem wd108 : Cond.fieldLink RX11 238 "BottleLine$Floor" "how" "[I" ∈ lwg := lwg_in (tin_1 (List.mem_of_getElem? (i := 135) rfl)) rfl
theorem wd109 : Cond.fieldLink RX1 43 "BottleLine$Floor" "bottles" "[I" ∈ lwg := lwg_in (tin_1 (List.mem_of_getElem? (i := 136) rfl)) rfl
theorem wd110 : Cond.fieldLink RX11 241 "BottleLine$Floor" "bottles" "[I" ∈ lwg := lwg_in (tin_1 (List.mem_of_getElem? (i := 137) rfl)) rfl
theorem wd111 : Cond.fieldLink RX1 46 "BottleLine$Floor" "lying" "[I" ∈ lwg := lwg_in (tin_1 (List.mem_of_getElem? (i := 138) rfl)) rfl
theorem wd112 : Cond.fieldLink RX11 250 "BottleLine$Floor" "lying" "[I" ∈ lwg := lwg_in (tin_1 (List.mem_of_getElem? (i := 139) rfl)) rfl
theorem wd113 : Cond.fieldLink RX1 49 "BottleLine$Floor" "spent" "[I" ∈ lwg := lwg_in (tin_1 (List.mem_of_getElem? (i := 140) rfl)) rfl
theorem wd114 : Cond.fieldLink RX11 269 "BottleLine$Floor" "spent" "[I" ∈ lwg := lwg_in (tin_1 (List.mem_of_getElem? (i := 141) rfl)) rfl
theorem wd115 : Cond.fieldLink RX1 52 "BottleLine$Floor" "blamed" "[I" ∈ lwg := lwg_in (tin_1 (List.mem_of_getElem? (i := 142) rfl)) rfl
theorem wd116 : Cond.fieldLink RX11 272 "BottleLine$Floor" "blamed" "[I" ∈ lwg := lwg_in (tin_1 (List.mem_of_getElem? (i := 143) rfl)) rfl
theorem wd117 : Cond.fieldLink RX5 12 "BottleLine$Plan" "floor" "LBottleLine$Floor;" ∈ lwg := lwg_in (tin_1 (List.mem_of_getElem? (i := 173) rfl)) rfl
theorem wd118 : Cond.fieldLink RX2 43 "BottleLine$Plan" "floor" "LBottleLine$Floor;" ∈ lwg := lwg_in (tin_1 (List.mem_of_getElem? (i := 174) rfl)) rfl
theorem wd119 : Cond.fieldLink RX0 57 "BottleLine$Plan" "floor" "LBottleLine$Floor;" ∈ lwg := lwg_in (tin_1 (List.mem_of_getElem? (i := 175) rfl)) rfl
theorem wd120 : Cond.fieldLink RX3 91 "BottleLine$Plan" "floor" "LBottleLine$Floor;" ∈ lwg := lwg_in (tin_1 (List.mem_of_getElem? (i := 176) rfl)) rfl
theorem wd121 : Cond.fieldLink RX11 178 "BottleLine$Plan" "floor" "LBottleLine$Floor;" ∈ lwg := lwg_in (tin_1 (List.mem_of_getElem? (i := 177) rfl)) rfl
theorem wd122 : Cond.fieldLink RX5 18 "BottleLine$Plan" "names" "[J" ∈ lwg := lwg_in (tin_1 (List.mem_of_getElem? (i := 178) rfl)) rfl
theorem wd123 : Cond.fieldLink RX3 144 "BottleLine$Plan" "names" "[J" ∈ lwg := lwg_in (tin_1 (List.mem_of_getElem? (i := 179) rfl)) rfl
theorem wd124 : Cond.fieldLink RX5 22 "BottleLine$Plan" "headsOf" "[I" ∈ lwg := lwg_in (tin_1 (List.mem_of_getElem? (i := 180) rfl)) rfl
theorem wd125 : Cond.fieldLink RX2 54 "BottleLine$Plan" "headsOf" "[I" ∈ lwg := lwg_in (tin_1 (List.mem_of_getElem? (i := 181) rfl)) rfl
theorem wd126 : Cond.fieldLink RX3 147 "BottleLine$Plan" "headsOf" "[I" ∈ lwg := lwg_in (tin_1 (List.mem_of_getElem? (i := 182) rfl)) rfl
theorem wd127 : Cond.fieldLink RX11 226 "BottleLine$Plan" "headsOf" "[I" ∈ lwg := lwg_in (tin_1 (List.mem_of_getElem? (i := 183) rfl)) rfl
theorem wd128 : Cond.fieldLink RX5 26 "BottleLine$Plan" "washes" "[I" ∈ lwg := lwg_in (tin_1 (List.mem_of_getElem? (i := 184) rfl)) rfl
theorem wd129 : Cond.fieldLink RX3 170 "BottleLine$Plan" "washes" "[I" ∈ lwg := lwg_in (tin_1 (List.mem_of_getElem? (i := 185) rfl)) rfl
theorem wd130 : Cond.fieldLink RX5 29 "BottleLine$Plan" "sorts" "I" ∈ lwg := lwg_in (tin_1 (List.mem_of_getElem? (i := 186) rfl)) rfl
theorem wd131 : Cond.fieldLink RX10 42 "BottleLine$Plan" "sorts" "I" ∈ lwg := lwg_in (tin_1 (List.mem_of_getElem? (i := 187) rfl)) rfl
theorem wd132 : Cond.fieldLink RX3 157 "BottleLine$Plan" "sorts" "I" ∈ lwg := lwg_in (tin_1 (List.mem_of_getElem? (i := 188) rfl)) rfl
theorem wd133 : Cond.fieldLink RX11 210 "BottleLine$Plan" "sorts" "I" ∈ lwg := lwg_in (tin_1 (List.mem_of_getElem? (i := 189) rfl)) rfl
theorem wd134 : Cond.fieldLink RX3 32 "BottleLine$LineReader" "tape" "LBottleLine$Tape;" ∈ lwg := lwg_in (tin_1 (List.mem_of_getElem? (i := 201) rfl)) rfl
theorem wd135 : Cond.fieldLink RX3 12 "BottleLine$LineReader" "fresh" "LBottleLine$Plan;" ∈ lwg := lwg_in (tin_1 (List.mem_of_getElem? (i := 202) rfl)) rfl
theorem wd136 : Cond.fieldLink RX11 171 "BottleLine$LineReader" "fresh" "LBottleLine$Plan;" ∈ lwg := lwg_in (tin_1 (List.mem_of_getElem? (i := 203) rfl)) rfl
theorem wd137 : Cond.fieldLink RX3 18 "BottleLine$LineReader" "sortNames" "[J" ∈ lwg := lwg_in (tin_1 (List.mem_of_getElem? (i := 204) rfl)) rfl
theorem wd138 : Cond.fieldLink RX3 22 "BottleLine$LineReader" "headsTold" "Z" ∈ lwg := lwg_in (tin_1 (List.mem_of_getElem? (i := 205) rfl)) rfl
theorem wd139 : Cond.fieldLink RX3 26 "BottleLine$LineReader" "stopsTold" "Z" ∈ lwg := lwg_in (tin_1 (List.mem_of_getElem? (i := 206) rfl)) rfl
theorem wd140 : Cond.fieldLink RX3 29 "BottleLine$LineReader" "tableTold" "Z" ∈ lwg := lwg_in (tin_1 (List.mem_of_getElem? (i := 207) rfl)) rfl
theorem wd141 : Cond.classLink RX11 48 "BottleLine$ShiftReader" ∈ lwg := lwg_in (tin_1 (List.mem_of_getElem? (i := 221) rfl)) rfl
theorem wd142 : Cond.instantiable RX7 4 ∈ lwg := lwg_in (tin_1 (List.mem_of_getElem? (i := 222) rfl)) rfl
theorem wd143 : Cond.methodLink RX11 50 yX7_init ∈ lwg := lwg_in (tin_1 (List.mem_of_getElem? (i := 223) rfl)) rfl
theorem wd144 : Cond.instanceMethod yX7_init ∈ lwg := lwg_in (tin_1 (List.mem_of_getElem? (i := 224) rfl)) rfl
theorem wd145 : Cond.code yX7_init cX7_init 2 none ∈ lwg := lwg_in (tin_1 (List.mem_of_getElem? (i := 225) rfl)) rfl
theorem wd146 : Cond.methodLink RX7 3 (⟨"java/lang/Object", "<init>", "()V"⟩ : MethodName) ∈ lwg := lwg_in (tin_1 (List.mem_of_getElem? (i := 226) rfl)) rfl
theorem wd147 : Cond.classLink RX7 9 "BottleLine$Script" ∈ lwg := lwg_in (tin_1 (List.mem_of_getElem? (i := 227) rfl)) rfl
theorem wd148 : Cond.instantiable RX6 5 ∈ lwg := lwg_in (tin_1 (List.mem_of_getElem? (i := 228) rfl)) rfl
theorem wd149 : Cond.instanceMethod yX6_init ∈ lwg := lwg_in (tin_1 (List.mem_of_getElem? (i := 230) rfl)) rfl
theorem wd150 : Cond.code yX6_init cX6_init 1 none ∈ lwg := lwg_in (tin_1 (List.mem_of_getElem? (i := 231) rfl)) rfl
theorem wd151 : Cond.methodLink RX6 1 (⟨"java/lang/Object", "<init>", "()V"⟩ : MethodName) ∈ lwg := lwg_in (tin_1 (List.mem_of_getElem? (i := 232) rfl)) rfl
theorem wd152 : Cond.fieldLink RX6 7 "BottleLine$Script" "steps" "I" ∈ lwg := lwg_in (tin_1 (List.mem_of_getElem? (i := 233) rfl)) rfl
theorem wd153 : Cond.fieldLink RX7 30 "BottleLine$Script" "steps" "I" ∈ lwg := lwg_in (tin_1 (List.mem_of_getElem? (i := 234) rfl)) rfl
theorem wd154 : Cond.fieldLink RX0 47 "BottleLine$Script" "steps" "I" ∈ lwg := lwg_in (tin_1 (List.mem_of_getElem? (i := 235) rfl)) rfl
theorem wd155 : Cond.fieldLink RX11 201 "BottleLine$Script" "steps" "I" ∈ lwg := lwg_in (tin_1 (List.mem_of_getElem? (i := 236) rfl)) rfl
theorem wd156 : Cond.fieldLink RX6 13 "BottleLine$Script" "kinds" "[I" ∈ lwg := lwg_in (tin_1 (List.mem_of_getElem? (i := 237) rfl)) rfl
theorem wd157 : Cond.fieldLink RX0 54 "BottleLine$Script" "kinds" "[I" ∈ lwg := lwg_in (tin_1 (List.mem_of_getElem? (i := 238) rfl)) rfl
theorem wd158 : Cond.fieldLink RX7 74 "BottleLine$Script" "kinds" "[I" ∈ lwg := lwg_in (tin_1 (List.mem_of_getElem? (i := 239) rfl)) rfl
theorem wd159 : Cond.fieldLink RX6 17 "BottleLine$Script" "names" "[J" ∈ lwg := lwg_in (tin_2 (List.mem_of_getElem? (i := 0) rfl)) rfl
theorem wd160 : Cond.fieldLink RX0 94 "BottleLine$Script" "names" "[J" ∈ lwg := lwg_in (tin_2 (List.mem_of_getElem? (i := 1) rfl)) rfl
theorem wd161 : Cond.fieldLink RX7 118 "BottleLine$Script" "names" "[J" ∈ lwg := lwg_in (tin_2 (List.mem_of_getElem? (i := 2) rfl)) rfl
theorem wd162 : Cond.fieldLink RX6 21 "BottleLine$Script" "numbers" "[I" ∈ lwg := lwg_in (tin_2 (List.mem_of_getElem? (i := 3) rfl)) rfl
theorem wd163 : Cond.fieldLink RX0 63 "BottleLine$Script" "numbers" "[I" ∈ lwg := lwg_in (tin_2 (List.mem_of_getElem? (i := 4) rfl)) rfl
theorem wd164 : Cond.fieldLink RX7 106 "BottleLine$Script" "numbers" "[I" ∈ lwg := lwg_in (tin_2 (List.mem_of_getElem? (i := 5) rfl)) rfl
theorem wd165 : Cond.fieldLink RX6 24 "BottleLine$Script" "ends" "[I" ∈ lwg := lwg_in (tin_2 (List.mem_of_getElem? (i := 6) rfl)) rfl
theorem wd166 : Cond.fieldLink RX7 57 "BottleLine$Script" "ends" "[I" ∈ lwg := lwg_in (tin_2 (List.mem_of_getElem? (i := 7) rfl)) rfl
theorem wd167 : Cond.fieldLink RX0 111 "BottleLine$Script" "ends" "[I" ∈ lwg := lwg_in (tin_2 (List.mem_of_getElem? (i := 8) rfl)) rfl
theorem wd168 : Cond.fieldLink RX7 26 "BottleLine$ShiftReader" "tape" "LBottleLine$Tape;" ∈ lwg := lwg_in (tin_2 (List.mem_of_getElem? (i := 20) rfl)) rfl
theorem wd169 : Cond.fieldLink RX7 12 "BottleLine$ShiftReader" "fresh" "LBottleLine$Script;" ∈ lwg := lwg_in (tin_2 (List.mem_of_getElem? (i := 21) rfl)) rfl
theorem wd170 : Cond.fieldLink RX11 196 "BottleLine$ShiftReader" "fresh" "LBottleLine$Script;" ∈ lwg := lwg_in (tin_2 (List.mem_of_getElem? (i := 22) rfl)) rfl
theorem wd171 : Cond.fieldLink RX7 18 "BottleLine$ShiftReader" "open" "[I" ∈ lwg := lwg_in (tin_2 (List.mem_of_getElem? (i := 23) rfl)) rfl
theorem wd172 : Cond.fieldLink RX7 22 "BottleLine$ShiftReader" "depth" "I" ∈ lwg := lwg_in (tin_2 (List.mem_of_getElem? (i := 24) rfl)) rfl
theorem wd173 : Cond.classLink RX11 55 "BottleLine$Plan" ∈ lwg := lwg_in (tin_2 (List.mem_of_getElem? (i := 34) rfl)) rfl
theorem wd174 : Cond.classLink RX11 62 "BottleLine$Script" ∈ lwg := lwg_in (tin_2 (List.mem_of_getElem? (i := 36) rfl)) rfl
theorem wd175 : Cond.classLink RX11 80 "BottleLine$Trials" ∈ lwg := lwg_in (tin_2 (List.mem_of_getElem? (i := 40) rfl)) rfl
theorem wd176 : Cond.instantiable RX9 7 ∈ lwg := lwg_in (tin_2 (List.mem_of_getElem? (i := 41) rfl)) rfl
theorem wd177 : Cond.instanceMethod yX9_init ∈ lwg := lwg_in (tin_2 (List.mem_of_getElem? (i := 43) rfl)) rfl
theorem wd178 : Cond.code yX9_init cX9_init 1 none ∈ lwg := lwg_in (tin_2 (List.mem_of_getElem? (i := 44) rfl)) rfl
theorem wd179 : Cond.methodLink RX9 3 (⟨"java/lang/Object", "<init>", "()V"⟩ : MethodName) ∈ lwg := lwg_in (tin_2 (List.mem_of_getElem? (i := 45) rfl)) rfl
theorem wd180 : Cond.classLink RX9 9 "BottleLine$Floor" ∈ lwg := lwg_in (tin_2 (List.mem_of_getElem? (i := 46) rfl)) rfl
theorem wd181 : Cond.fieldLink RX9 12 "BottleLine$Trials" "trial" "LBottleLine$Floor;" ∈ lwg := lwg_in (tin_2 (List.mem_of_getElem? (i := 48) rfl)) rfl
theorem wd182 : Cond.fieldLink RX9 18 "BottleLine$Trials" "heldOnce" "Z" ∈ lwg := lwg_in (tin_2 (List.mem_of_getElem? (i := 49) rfl)) rfl
theorem wd183 : Cond.fieldLink RX11 291 "BottleLine$Trials" "heldOnce" "Z" ∈ lwg := lwg_in (tin_2 (List.mem_of_getElem? (i := 50) rfl)) rfl
theorem wd184 : Cond.fieldLink RX9 22 "BottleLine$Trials" "gain" "I" ∈ lwg := lwg_in (tin_2 (List.mem_of_getElem? (i := 51) rfl)) rfl
theorem wd185 : Cond.fieldLink RX11 295 "BottleLine$Trials" "gain" "I" ∈ lwg := lwg_in (tin_2 (List.mem_of_getElem? (i := 52) rfl)) rfl
theorem wd186 : Cond.fieldLink RX9 26 "BottleLine$Trials" "tables" "I" ∈ lwg := lwg_in (tin_2 (List.mem_of_getElem? (i := 53) rfl)) rfl
theorem wd187 : Cond.fieldLink RX11 305 "BottleLine$Trials" "tables" "I" ∈ lwg := lwg_in (tin_2 (List.mem_of_getElem? (i := 54) rfl)) rfl
theorem wd188 : Cond.fieldLink RX9 29 "BottleLine$Trials" "bestUnits" "[I" ∈ lwg := lwg_in (tin_2 (List.mem_of_getElem? (i := 55) rfl)) rfl
theorem wd189 : Cond.fieldLink RX11 307 "BottleLine$Trials" "bestUnits" "[I" ∈ lwg := lwg_in (tin_2 (List.mem_of_getElem? (i := 56) rfl)) rfl
theorem wd190 : Cond.fieldLink RX9 33 "BottleLine$Trials" "units" "[I" ∈ lwg := lwg_in (tin_2 (List.mem_of_getElem? (i := 57) rfl)) rfl
theorem wd191 : Cond.fieldLink RX9 36 "BottleLine$Trials" "most" "I" ∈ lwg := lwg_in (tin_2 (List.mem_of_getElem? (i := 58) rfl)) rfl
theorem wd192 : Cond.classLink RX11 87 "BottleLine$Doing" ∈ lwg := lwg_in (tin_2 (List.mem_of_getElem? (i := 74) rfl)) rfl
theorem wd193 : Cond.instantiable RX0 9 ∈ lwg := lwg_in (tin_2 (List.mem_of_getElem? (i := 75) rfl)) rfl
theorem wd194 : Cond.instanceMethod yX0_init ∈ lwg := lwg_in (tin_2 (List.mem_of_getElem? (i := 77) rfl)) rfl
theorem wd195 : Cond.code yX0_init cX0_init 1 none ∈ lwg := lwg_in (tin_2 (List.mem_of_getElem? (i := 78) rfl)) rfl
theorem wd196 : Cond.methodLink RX0 3 (⟨"java/lang/Object", "<init>", "()V"⟩ : MethodName) ∈ lwg := lwg_in (tin_2 (List.mem_of_getElem? (i := 79) rfl)) rfl
theorem wd197 : Cond.fieldLink RX0 9 "BottleLine$Doing" "once" "Z" ∈ lwg := lwg_in (tin_2 (List.mem_of_getElem? (i := 80) rfl)) rfl
theorem wd198 : Cond.fieldLink RX11 322 "BottleLine$Doing" "once" "Z" ∈ lwg := lwg_in (tin_2 (List.mem_of_getElem? (i := 81) rfl)) rfl
theorem wd199 : Cond.fieldLink RX0 15 "BottleLine$Doing" "stepsDone" "I" ∈ lwg := lwg_in (tin_2 (List.mem_of_getElem? (i := 82) rfl)) rfl
theorem wd200 : Cond.fieldLink RX11 317 "BottleLine$Doing" "stepsDone" "I" ∈ lwg := lwg_in (tin_2 (List.mem_of_getElem? (i := 83) rfl)) rfl
theorem wd201 : Cond.fieldLink RX0 19 "BottleLine$Doing" "minutesDone" "I" ∈ lwg := lwg_in (tin_2 (List.mem_of_getElem? (i := 84) rfl)) rfl
theorem wd202 : Cond.fieldLink RX11 325 "BottleLine$Doing" "minutesDone" "I" ∈ lwg := lwg_in (tin_2 (List.mem_of_getElem? (i := 85) rfl)) rfl
theorem wd203 : Cond.fieldLink RX0 22 "BottleLine$Doing" "madeThen" "I" ∈ lwg := lwg_in (tin_2 (List.mem_of_getElem? (i := 86) rfl)) rfl
theorem wd204 : Cond.fieldLink RX11 328 "BottleLine$Doing" "madeThen" "I" ∈ lwg := lwg_in (tin_2 (List.mem_of_getElem? (i := 87) rfl)) rfl
theorem wd205 : Cond.fieldLink RX0 25 "BottleLine$Doing" "leftOver" "I" ∈ lwg := lwg_in (tin_2 (List.mem_of_getElem? (i := 88) rfl)) rfl
theorem wd206 : Cond.fieldLink RX11 331 "BottleLine$Doing" "leftOver" "I" ∈ lwg := lwg_in (tin_2 (List.mem_of_getElem? (i := 89) rfl)) rfl
theorem wd207 : Cond.fieldLink RX0 28 "BottleLine$Doing" "at" "I" ∈ lwg := lwg_in (tin_2 (List.mem_of_getElem? (i := 90) rfl)) rfl
theorem wd208 : Cond.fieldLink RX0 31 "BottleLine$Doing" "depth" "I" ∈ lwg := lwg_in (tin_2 (List.mem_of_getElem? (i := 91) rfl)) rfl
theorem wd209 : Cond.fieldLink RX0 36 "BottleLine$Doing" "open" "[I" ∈ lwg := lwg_in (tin_2 (List.mem_of_getElem? (i := 92) rfl)) rfl
theorem wd210 : Cond.fieldLink RX0 40 "BottleLine$Doing" "rounds" "[I" ∈ lwg := lwg_in (tin_2 (List.mem_of_getElem? (i := 93) rfl)) rfl
theorem wd211 : Cond.classLink RX11 94 "BottleLine$HeadSearch" ∈ lwg := lwg_in (tin_2 (List.mem_of_getElem? (i := 113) rfl)) rfl
theorem wd212 : Cond.instantiable RX2 5 ∈ lwg := lwg_in (tin_2 (List.mem_of_getElem? (i := 114) rfl)) rfl
theorem wd213 : Cond.instanceMethod yX2_init ∈ lwg := lwg_in (tin_2 (List.mem_of_getElem? (i := 116) rfl)) rfl
theorem wd214 : Cond.code yX2_init cX2_init 1 none ∈ lwg := lwg_in (tin_2 (List.mem_of_getElem? (i := 117) rfl)) rfl
theorem wd215 : Cond.methodLink RX2 3 (⟨"java/lang/Object", "<init>", "()V"⟩ : MethodName) ∈ lwg := lwg_in (tin_2 (List.mem_of_getElem? (i := 118) rfl)) rfl
theorem wd216 : Cond.fieldLink RX2 11 "BottleLine$HeadSearch" "covered" "[J" ∈ lwg := lwg_in (tin_2 (List.mem_of_getElem? (i := 119) rfl)) rfl
theorem wd217 : Cond.fieldLink RX2 15 "BottleLine$HeadSearch" "size" "I" ∈ lwg := lwg_in (tin_2 (List.mem_of_getElem? (i := 120) rfl)) rfl
theorem wd218 : Cond.fieldLink RX11 345 "BottleLine$HeadSearch" "size" "I" ∈ lwg := lwg_in (tin_2 (List.mem_of_getElem? (i := 121) rfl)) rfl
theorem wd219 : Cond.fieldLink RX2 19 "BottleLine$HeadSearch" "sets" "I" ∈ lwg := lwg_in (tin_2 (List.mem_of_getElem? (i := 122) rfl)) rfl
theorem wd220 : Cond.fieldLink RX11 350 "BottleLine$HeadSearch" "sets" "I" ∈ lwg := lwg_in (tin_2 (List.mem_of_getElem? (i := 123) rfl)) rfl
theorem wd221 : Cond.fieldLink RX2 22 "BottleLine$HeadSearch" "first" "I" ∈ lwg := lwg_in (tin_2 (List.mem_of_getElem? (i := 124) rfl)) rfl
theorem wd222 : Cond.fieldLink RX11 353 "BottleLine$HeadSearch" "first" "I" ∈ lwg := lwg_in (tin_2 (List.mem_of_getElem? (i := 125) rfl)) rfl
theorem wd223 : Cond.fieldLink RX2 25 "BottleLine$HeadSearch" "second" "I" ∈ lwg := lwg_in (tin_2 (List.mem_of_getElem? (i := 126) rfl)) rfl
theorem wd224 : Cond.fieldLink RX11 356 "BottleLine$HeadSearch" "second" "I" ∈ lwg := lwg_in (tin_2 (List.mem_of_getElem? (i := 127) rfl)) rfl
theorem wd225 : Cond.classLink RX11 101 "BottleLine$Washing" ∈ lwg := lwg_in (tin_2 (List.mem_of_getElem? (i := 139) rfl)) rfl
theorem wd226 : Cond.instantiable RX10 4 ∈ lwg := lwg_in (tin_2 (List.mem_of_getElem? (i := 140) rfl)) rfl
theorem wd227 : Cond.instanceMethod yX10_init ∈ lwg := lwg_in (tin_2 (List.mem_of_getElem? (i := 142) rfl)) rfl
theorem wd228 : Cond.code yX10_init cX10_init 1 none ∈ lwg := lwg_in (tin_2 (List.mem_of_getElem? (i := 143) rfl)) rfl
theorem wd229 : Cond.methodLink RX10 3 (⟨"java/lang/Object", "<init>", "()V"⟩ : MethodName) ∈ lwg := lwg_in (tin_2 (List.mem_of_getElem? (i := 144) rfl)) rfl
theorem wd230 : Cond.fieldLink RX10 9 "BottleLine$Washing" "way" "[I" ∈ lwg := lwg_in (tin_2 (List.mem_of_getElem? (i := 145) rfl)) rfl
theorem wd231 : Cond.fieldLink RX10 15 "BottleLine$Washing" "best" "[I" ∈ lwg := lwg_in (tin_2 (List.mem_of_getElem? (i := 146) rfl)) rfl
theorem wd232 : Cond.fieldLink RX11 380 "BottleLine$Washing" "best" "[I" ∈ lwg := lwg_in (tin_2 (List.mem_of_getElem? (i := 147) rfl)) rfl
theorem wd233 : Cond.fieldLink RX10 18 "BottleLine$Washing" "length" "I" ∈ lwg := lwg_in (tin_2 (List.mem_of_getElem? (i := 148) rfl)) rfl
theorem wd234 : Cond.fieldLink RX11 377 "BottleLine$Washing" "length" "I" ∈ lwg := lwg_in (tin_2 (List.mem_of_getElem? (i := 149) rfl)) rfl
theorem wd235 : Cond.fieldLink RX10 22 "BottleLine$Washing" "least" "I" ∈ lwg := lwg_in (tin_2 (List.mem_of_getElem? (i := 150) rfl)) rfl
theorem wd236 : Cond.classLink RX11 108 "BottleLine$Packing" ∈ lwg := lwg_in (tin_2 (List.mem_of_getElem? (i := 160) rfl)) rfl
theorem wd237 : Cond.instantiable RX4 3 ∈ lwg := lwg_in (tin_2 (List.mem_of_getElem? (i := 161) rfl)) rfl
theorem wd238 : Cond.instanceMethod yX4_init ∈ lwg := lwg_in (tin_2 (List.mem_of_getElem? (i := 163) rfl)) rfl
theorem wd239 : Cond.code yX4_init cX4_init 1 none ∈ lwg := lwg_in (tin_2 (List.mem_of_getElem? (i := 164) rfl)) rfl
theorem wd240 : Cond.methodLink RX4 1 (⟨"java/lang/Object", "<init>", "()V"⟩ : MethodName) ∈ lwg := lwg_in (tin_2 (List.mem_of_getElem? (i := 165) rfl)) rfl
theorem wd241 : Cond.fieldLink RX4 9 "BottleLine$Packing" "placed" "[I" ∈ lwg := lwg_in (tin_2 (List.mem_of_getElem? (i := 166) rfl)) rfl
theorem wd242 : Cond.fieldLink RX11 394 "BottleLine$Packing" "placed" "[I" ∈ lwg := lwg_in (tin_2 (List.mem_of_getElem? (i := 167) rfl)) rfl
theorem wd243 : Cond.fieldLink RX4 13 "BottleLine$Packing" "repairs" "I" ∈ lwg := lwg_in (tin_2 (List.mem_of_getElem? (i := 168) rfl)) rfl
theorem wd244 : Cond.fieldLink RX11 391 "BottleLine$Packing" "repairs" "I" ∈ lwg := lwg_in (tin_2 (List.mem_of_getElem? (i := 169) rfl)) rfl
theorem wd245 : Cond.fieldLink RX4 17 "BottleLine$Packing" "load" "[J" ∈ lwg := lwg_in (tin_2 (List.mem_of_getElem? (i := 170) rfl)) rfl
theorem wd246 : Cond.methodLink RX11 115 yJ7_fill_53178 ∈ lwg := lwg_in (tin_2 (List.mem_of_getElem? (i := 178) rfl)) rfl
theorem wd247 : Cond.static yJ7_fill_53178 ∈ lwg := lwg_in (tin_2 (List.mem_of_getElem? (i := 179) rfl)) rfl
theorem wd248 : Cond.code yJ7_fill_53178 cJ7_fill_53178 4 none ∈ lwg := lwg_in (tin_2 (List.mem_of_getElem? (i := 180) rfl)) rfl
theorem wd249 : Cond.fieldLink RX11 9 "BottleLine" "status" "I" ∈ lwg := lwg_in (tin_2 (List.mem_of_getElem? (i := 181) rfl)) rfl
theorem wd250 : Cond.fieldLink RX11 13 "BottleLine" "top" "J" ∈ lwg := lwg_in (tin_2 (List.mem_of_getElem? (i := 182) rfl)) rfl
theorem wd251 : Cond.fieldLink RX11 17 "BottleLine" "bottom" "J" ∈ lwg := lwg_in (tin_2 (List.mem_of_getElem? (i := 183) rfl)) rfl
theorem wd252 : Cond.fieldLink RX11 22 "BottleLine" "rows" "[[J" ∈ lwg := lwg_in (tin_2 (List.mem_of_getElem? (i := 184) rfl)) rfl
theorem wd253 : Cond.fieldLink RX11 25 "BottleLine" "rowSort" "[I" ∈ lwg := lwg_in (tin_2 (List.mem_of_getElem? (i := 185) rfl)) rfl
theorem wd254 : Cond.fieldLink RX11 29 "BottleLine" "rowSize" "[I" ∈ lwg := lwg_in (tin_2 (List.mem_of_getElem? (i := 186) rfl)) rfl
theorem wd255 : Cond.fieldLink RX11 35 "BottleLine" "tape" "LBottleLine$Tape;" ∈ lwg := lwg_in (tin_2 (List.mem_of_getElem? (i := 187) rfl)) rfl
theorem wd256 : Cond.fieldLink RX11 44 "BottleLine" "lineReader" "LBottleLine$LineReader;" ∈ lwg := lwg_in (tin_2 (List.mem_of_getElem? (i := 188) rfl)) rfl
theorem wd257 : Cond.fieldLink RX11 51 "BottleLine" "shiftReader" "LBottleLine$ShiftReader;" ∈ lwg := lwg_in (tin_2 (List.mem_of_getElem? (i := 189) rfl)) rfl
theorem wd258 : Cond.fieldLink RX11 58 "BottleLine" "plan" "LBottleLine$Plan;" ∈ lwg := lwg_in (tin_2 (List.mem_of_getElem? (i := 190) rfl)) rfl
theorem wd259 : Cond.fieldLink RX11 65 "BottleLine" "script" "LBottleLine$Script;" ∈ lwg := lwg_in (tin_2 (List.mem_of_getElem? (i := 191) rfl)) rfl
theorem wd260 : Cond.fieldLink RX11 69 "BottleLine" "markedPlans" "[LBottleLine$Plan;" ∈ lwg := lwg_in (tin_2 (List.mem_of_getElem? (i := 192) rfl)) rfl
theorem wd261 : Cond.fieldLink RX11 73 "BottleLine" "markedScripts" "[LBottleLine$Script;" ∈ lwg := lwg_in (tin_2 (List.mem_of_getElem? (i := 193) rfl)) rfl
theorem wd262 : Cond.fieldLink RX11 77 "BottleLine" "marks" "I" ∈ lwg := lwg_in (tin_2 (List.mem_of_getElem? (i := 194) rfl)) rfl
theorem wd263 : Cond.fieldLink RX11 83 "BottleLine" "trials" "LBottleLine$Trials;" ∈ lwg := lwg_in (tin_2 (List.mem_of_getElem? (i := 195) rfl)) rfl
theorem wd264 : Cond.fieldLink RX11 90 "BottleLine" "doing" "LBottleLine$Doing;" ∈ lwg := lwg_in (tin_2 (List.mem_of_getElem? (i := 196) rfl)) rfl
theorem wd265 : Cond.fieldLink RX11 97 "BottleLine" "headSearch" "LBottleLine$HeadSearch;" ∈ lwg := lwg_in (tin_2 (List.mem_of_getElem? (i := 197) rfl)) rfl
theorem wd266 : Cond.fieldLink RX11 104 "BottleLine" "washing" "LBottleLine$Washing;" ∈ lwg := lwg_in (tin_2 (List.mem_of_getElem? (i := 198) rfl)) rfl
theorem wd267 : Cond.fieldLink RX11 111 "BottleLine" "packing" "LBottleLine$Packing;" ∈ lwg := lwg_in (tin_2 (List.mem_of_getElem? (i := 199) rfl)) rfl
theorem wd268 : Cond.methodLink RL 13 yX11_status ∈ lwg := lwg_in (tin_2 (List.mem_of_getElem? (i := 239) rfl)) rfl
theorem wd269 : Cond.instanceMethod yX11_status ∈ lwg := lwg_in (tin_3 (List.mem_of_getElem? (i := 0) rfl)) rfl
theorem wd270 : Cond.selects RX11 yX11_status yX11_status ∈ lwg := lwg_in (tin_3 (List.mem_of_getElem? (i := 1) rfl)) rfl
theorem wd271 : Cond.code yX11_status cX11_status 1 (some .int) ∈ lwg := lwg_in (tin_3 (List.mem_of_getElem? (i := 2) rfl)) rfl
theorem wd272 : Cond.methodLink RL 18 yX11_top ∈ lwg := lwg_in (tin_3 (List.mem_of_getElem? (i := 3) rfl)) rfl
theorem wd273 : Cond.instanceMethod yX11_top ∈ lwg := lwg_in (tin_3 (List.mem_of_getElem? (i := 4) rfl)) rfl
theorem wd274 : Cond.selects RX11 yX11_top yX11_top ∈ lwg := lwg_in (tin_3 (List.mem_of_getElem? (i := 5) rfl)) rfl
theorem wd275 : Cond.code yX11_top cX11_top 1 (some .long) ∈ lwg := lwg_in (tin_3 (List.mem_of_getElem? (i := 6) rfl)) rfl
theorem wd276 : Cond.methodLink RL 23 yX11_bottom ∈ lwg := lwg_in (tin_3 (List.mem_of_getElem? (i := 7) rfl)) rfl
theorem wd277 : Cond.instanceMethod yX11_bottom ∈ lwg := lwg_in (tin_3 (List.mem_of_getElem? (i := 8) rfl)) rfl
theorem wd278 : Cond.selects RX11 yX11_bottom yX11_bottom ∈ lwg := lwg_in (tin_3 (List.mem_of_getElem? (i := 9) rfl)) rfl
theorem wd279 : Cond.code yX11_bottom cX11_bottom 1 (some .long) ∈ lwg := lwg_in (tin_3 (List.mem_of_getElem? (i := 10) rfl)) rfl
theorem wd280 : Cond.methodLink RL 27 yX11_tray ∈ lwg := lwg_in (tin_3 (List.mem_of_getElem? (i := 11) rfl)) rfl
theorem wd281 : Cond.instanceMethod yX11_tray ∈ lwg := lwg_in (tin_3 (List.mem_of_getElem? (i := 12) rfl)) rfl
theorem wd282 : Cond.selects RX11 yX11_tray yX11_tray ∈ lwg := lwg_in (tin_3 (List.mem_of_getElem? (i := 13) rfl)) rfl
theorem wd283 : Cond.code yX11_tray cX11_tray 4 (some .boolean) ∈ lwg := lwg_in (tin_3 (List.mem_of_getElem? (i := 14) rfl)) rfl
theorem wd284 : Cond.methodLink RX11 121 yX11_isTray ∈ lwg := lwg_in (tin_3 (List.mem_of_getElem? (i := 15) rfl)) rfl
theorem wd285 : Cond.static yX11_isTray ∈ lwg := lwg_in (tin_3 (List.mem_of_getElem? (i := 16) rfl)) rfl
theorem wd286 : Cond.code yX11_isTray cX11_isTray 1 (some .boolean) ∈ lwg := lwg_in (tin_3 (List.mem_of_getElem? (i := 17) rfl)) rfl
theorem wd287 : Cond.constantLong RX11 125 (3 : Int64) ∈ lwg := lwg_in (tin_3 (List.mem_of_getElem? (i := 18) rfl)) rfl
theorem wd288 : Cond.methodLink RX11 127 yX11_outside ∈ lwg := lwg_in (tin_3 (List.mem_of_getElem? (i := 19) rfl)) rfl
theorem wd289 : Cond.static yX11_outside ∈ lwg := lwg_in (tin_3 (List.mem_of_getElem? (i := 20) rfl)) rfl
theorem wd290 : Cond.code yX11_outside cX11_outside 6 (some .boolean) ∈ lwg := lwg_in (tin_3 (List.mem_of_getElem? (i := 21) rfl)) rfl
theorem wd291 : Cond.constantLong RX11 131 (60 : Int64) ∈ lwg := lwg_in (tin_3 (List.mem_of_getElem? (i := 22) rfl)) rfl
theorem wd292 : Cond.methodLink RX11 133 yX11_refused ∈ lwg := lwg_in (tin_3 (List.mem_of_getElem? (i := 23) rfl)) rfl
theorem wd293 : Cond.instanceMethod yX11_refused ∈ lwg := lwg_in (tin_3 (List.mem_of_getElem? (i := 25) rfl)) rfl
theorem wd294 : Cond.code yX11_refused cX11_refused 2 (some .boolean) ∈ lwg := lwg_in (tin_3 (List.mem_of_getElem? (i := 26) rfl)) rfl
theorem wd295 : Cond.methodLink RX11 136 yJ7_fill_d0a16 ∈ lwg := lwg_in (tin_3 (List.mem_of_getElem? (i := 27) rfl)) rfl
theorem wd296 : Cond.static yJ7_fill_d0a16 ∈ lwg := lwg_in (tin_3 (List.mem_of_getElem? (i := 28) rfl)) rfl
theorem wd297 : Cond.code yJ7_fill_d0a16 cJ7_fill_d0a16 5 none ∈ lwg := lwg_in (tin_3 (List.mem_of_getElem? (i := 29) rfl)) rfl
theorem wd298 : Cond.methodLink RX11 139 yX11_granted ∈ lwg := lwg_in (tin_3 (List.mem_of_getElem? (i := 30) rfl)) rfl
theorem wd299 : Cond.instanceMethod yX11_granted ∈ lwg := lwg_in (tin_3 (List.mem_of_getElem? (i := 32) rfl)) rfl
theorem wd300 : Cond.code yX11_granted cX11_granted 1 (some .boolean) ∈ lwg := lwg_in (tin_3 (List.mem_of_getElem? (i := 33) rfl)) rfl
theorem wd301 : Cond.methodLink RL 34 yX11_write ∈ lwg := lwg_in (tin_3 (List.mem_of_getElem? (i := 34) rfl)) rfl
theorem wd302 : Cond.instanceMethod yX11_write ∈ lwg := lwg_in (tin_3 (List.mem_of_getElem? (i := 35) rfl)) rfl
theorem wd303 : Cond.selects RX11 yX11_write yX11_write ∈ lwg := lwg_in (tin_3 (List.mem_of_getElem? (i := 36) rfl)) rfl
theorem wd304 : Cond.code yX11_write cX11_write 6 (some .boolean) ∈ lwg := lwg_in (tin_3 (List.mem_of_getElem? (i := 37) rfl)) rfl
theorem wd305 : Cond.methodLink RX11 143 yX11_placeLack ∈ lwg := lwg_in (tin_3 (List.mem_of_getElem? (i := 38) rfl)) rfl
theorem wd306 : Cond.instanceMethod yX11_placeLack ∈ lwg := lwg_in (tin_3 (List.mem_of_getElem? (i := 40) rfl)) rfl
theorem wd307 : Cond.code yX11_placeLack cX11_placeLack 3 (some .int) ∈ lwg := lwg_in (tin_3 (List.mem_of_getElem? (i := 41) rfl)) rfl
theorem wd308 : Cond.methodLink RX11 147 yX11_cut ∈ lwg := lwg_in (tin_3 (List.mem_of_getElem? (i := 42) rfl)) rfl
theorem wd309 : Cond.static yX11_cut ∈ lwg := lwg_in (tin_3 (List.mem_of_getElem? (i := 43) rfl)) rfl
theorem wd310 : Cond.code yX11_cut cX11_cut 3 (some .long) ∈ lwg := lwg_in (tin_3 (List.mem_of_getElem? (i := 44) rfl)) rfl
theorem wd311 : Cond.methodLink RL 39 yX11_read ∈ lwg := lwg_in (tin_3 (List.mem_of_getElem? (i := 45) rfl)) rfl
theorem wd312 : Cond.instanceMethod yX11_read ∈ lwg := lwg_in (tin_3 (List.mem_of_getElem? (i := 46) rfl)) rfl
theorem wd313 : Cond.selects RX11 yX11_read yX11_read ∈ lwg := lwg_in (tin_3 (List.mem_of_getElem? (i := 47) rfl)) rfl
theorem wd314 : Cond.code yX11_read cX11_read 4 (some .long) ∈ lwg := lwg_in (tin_3 (List.mem_of_getElem? (i := 48) rfl)) rfl
theorem wd315 : Cond.methodLink RX11 151 yX11_none ∈ lwg := lwg_in (tin_3 (List.mem_of_getElem? (i := 49) rfl)) rfl
theorem wd316 : Cond.instanceMethod yX11_none ∈ lwg := lwg_in (tin_3 (List.mem_of_getElem? (i := 51) rfl)) rfl
theorem wd317 : Cond.code yX11_none cX11_none 2 (some .int) ∈ lwg := lwg_in (tin_3 (List.mem_of_getElem? (i := 52) rfl)) rfl
theorem wd318 : Cond.methodLink RL 44 yX11_pour ∈ lwg := lwg_in (tin_3 (List.mem_of_getElem? (i := 53) rfl)) rfl
theorem wd319 : Cond.instanceMethod yX11_pour ∈ lwg := lwg_in (tin_3 (List.mem_of_getElem? (i := 54) rfl)) rfl
theorem wd320 : Cond.selects RX11 yX11_pour yX11_pour ∈ lwg := lwg_in (tin_3 (List.mem_of_getElem? (i := 55) rfl)) rfl
theorem wd321 : Cond.code yX11_pour cX11_pour 6 (some .boolean) ∈ lwg := lwg_in (tin_3 (List.mem_of_getElem? (i := 56) rfl)) rfl
theorem wd322 : Cond.methodLink RX11 155 (⟨"java/lang/System", "arraycopy", "(Ljava/lang/Object;ILjava/lang/Object;II)V"⟩ : MethodName) ∈ lwg := lwg_in (tin_3 (List.mem_of_getElem? (i := 57) rfl)) rfl
theorem wd323 : Cond.static (⟨"java/lang/System", "arraycopy", "(Ljava/lang/Object;ILjava/lang/Object;II)V"⟩ : MethodName) ∈ lwg := lwg_in (tin_3 (List.mem_of_getElem? (i := 58) rfl)) rfl
theorem wd324 : Cond.native (⟨"java/lang/System", "arraycopy", "(Ljava/lang/Object;ILjava/lang/Object;II)V"⟩ : MethodName) ∈ lwg := lwg_in (tin_3 (List.mem_of_getElem? (i := 59) rfl)) rfl
theorem wd325 : Cond.methodLink RL 49 yX11_feed ∈ lwg := lwg_in (tin_3 (List.mem_of_getElem? (i := 60) rfl)) rfl
theorem wd326 : Cond.instanceMethod yX11_feed ∈ lwg := lwg_in (tin_3 (List.mem_of_getElem? (i := 61) rfl)) rfl
theorem wd327 : Cond.selects RX11 yX11_feed yX11_feed ∈ lwg := lwg_in (tin_3 (List.mem_of_getElem? (i := 62) rfl)) rfl
theorem wd328 : Cond.code yX11_feed cX11_feed 6 (some .int) ∈ lwg := lwg_in (tin_3 (List.mem_of_getElem? (i := 63) rfl)) rfl
theorem wd329 : Cond.methodLink RX11 164 yX8_lay ∈ lwg := lwg_in (tin_3 (List.mem_of_getElem? (i := 64) rfl)) rfl
theorem wd330 : Cond.instanceMethod yX8_lay ∈ lwg := lwg_in (tin_3 (List.mem_of_getElem? (i := 65) rfl)) rfl
theorem wd331 : Cond.selects RX8 yX8_lay yX8_lay ∈ lwg := lwg_in (tin_3 (List.mem_of_getElem? (i := 66) rfl)) rfl
theorem wd332 : Cond.code yX8_lay cX8_lay 3 none ∈ lwg := lwg_in (tin_3 (List.mem_of_getElem? (i := 67) rfl)) rfl
theorem wd333 : Cond.methodLink RL 54 yX11_line ∈ lwg := lwg_in (tin_3 (List.mem_of_getElem? (i := 68) rfl)) rfl
theorem wd334 : Cond.instanceMethod yX11_line ∈ lwg := lwg_in (tin_3 (List.mem_of_getElem? (i := 69) rfl)) rfl
theorem wd335 : Cond.selects RX11 yX11_line yX11_line ∈ lwg := lwg_in (tin_3 (List.mem_of_getElem? (i := 70) rfl)) rfl
theorem wd336 : Cond.code yX11_line cX11_line 2 (some .int) ∈ lwg := lwg_in (tin_3 (List.mem_of_getElem? (i := 71) rfl)) rfl
theorem wd337 : Cond.methodLink RX11 168 yX3_takesAll ∈ lwg := lwg_in (tin_3 (List.mem_of_getElem? (i := 72) rfl)) rfl
theorem wd338 : Cond.instanceMethod yX3_takesAll ∈ lwg := lwg_in (tin_3 (List.mem_of_getElem? (i := 73) rfl)) rfl
theorem wd339 : Cond.selects RX3 yX3_takesAll yX3_takesAll ∈ lwg := lwg_in (tin_3 (List.mem_of_getElem? (i := 74) rfl)) rfl
theorem wd340 : Cond.code yX3_takesAll cX3_takesAll 3 (some .boolean) ∈ lwg := lwg_in (tin_3 (List.mem_of_getElem? (i := 75) rfl)) rfl
theorem wd341 : Cond.methodLink RX3 36 yX5_clear ∈ lwg := lwg_in (tin_3 (List.mem_of_getElem? (i := 76) rfl)) rfl
theorem wd342 : Cond.instanceMethod yX5_clear ∈ lwg := lwg_in (tin_3 (List.mem_of_getElem? (i := 77) rfl)) rfl
theorem wd343 : Cond.selects RX5 yX5_clear yX5_clear ∈ lwg := lwg_in (tin_3 (List.mem_of_getElem? (i := 78) rfl)) rfl
theorem wd344 : Cond.code yX5_clear cX5_clear 1 none ∈ lwg := lwg_in (tin_3 (List.mem_of_getElem? (i := 79) rfl)) rfl
theorem wd345 : Cond.methodLink RX5 36 yX1_start ∈ lwg := lwg_in (tin_3 (List.mem_of_getElem? (i := 80) rfl)) rfl
theorem wd346 : Cond.instanceMethod yX1_start ∈ lwg := lwg_in (tin_3 (List.mem_of_getElem? (i := 81) rfl)) rfl
theorem wd347 : Cond.selects RX1 yX1_start yX1_start ∈ lwg := lwg_in (tin_3 (List.mem_of_getElem? (i := 82) rfl)) rfl
theorem wd348 : Cond.code yX1_start cX1_start 2 none ∈ lwg := lwg_in (tin_3 (List.mem_of_getElem? (i := 83) rfl)) rfl
theorem wd349 : Cond.methodLink RX1 55 yJ7_fill_53178 ∈ lwg := lwg_in (tin_3 (List.mem_of_getElem? (i := 84) rfl)) rfl
theorem wd350 : Cond.methodLink RX5 40 yJ7_fill_53178 ∈ lwg := lwg_in (tin_3 (List.mem_of_getElem? (i := 85) rfl)) rfl
theorem wd351 : Cond.methodLink RX3 39 yX8_open ∈ lwg := lwg_in (tin_3 (List.mem_of_getElem? (i := 86) rfl)) rfl
theorem wd352 : Cond.instanceMethod yX8_open ∈ lwg := lwg_in (tin_3 (List.mem_of_getElem? (i := 87) rfl)) rfl
theorem wd353 : Cond.selects RX8 yX8_open yX8_open ∈ lwg := lwg_in (tin_3 (List.mem_of_getElem? (i := 88) rfl)) rfl
theorem wd354 : Cond.code yX8_open cX8_open 2 none ∈ lwg := lwg_in (tin_3 (List.mem_of_getElem? (i := 89) rfl)) rfl
theorem wd355 : Cond.methodLink RX8 47 yJ9_min_7cf53 ∈ lwg := lwg_in (tin_3 (List.mem_of_getElem? (i := 90) rfl)) rfl
theorem wd356 : Cond.static yJ9_min_7cf53 ∈ lwg := lwg_in (tin_3 (List.mem_of_getElem? (i := 91) rfl)) rfl
theorem wd357 : Cond.code yJ9_min_7cf53 cJ9_min_7cf53 2 (some .int) ∈ lwg := lwg_in (tin_3 (List.mem_of_getElem? (i := 92) rfl)) rfl
theorem wd358 : Cond.methodLink RX8 53 yX8_advance ∈ lwg := lwg_in (tin_3 (List.mem_of_getElem? (i := 93) rfl)) rfl
theorem wd359 : Cond.instanceMethod yX8_advance ∈ lwg := lwg_in (tin_3 (List.mem_of_getElem? (i := 94) rfl)) rfl
theorem wd360 : Cond.selects RX8 yX8_advance yX8_advance ∈ lwg := lwg_in (tin_3 (List.mem_of_getElem? (i := 95) rfl)) rfl
theorem wd361 : Cond.code yX8_advance cX8_advance 1 none ∈ lwg := lwg_in (tin_3 (List.mem_of_getElem? (i := 96) rfl)) rfl
theorem wd362 : Cond.methodLink RX8 56 yX8_readWord ∈ lwg := lwg_in (tin_3 (List.mem_of_getElem? (i := 97) rfl)) rfl
theorem wd363 : Cond.instanceMethod yX8_readWord ∈ lwg := lwg_in (tin_3 (List.mem_of_getElem? (i := 99) rfl)) rfl
theorem wd364 : Cond.code yX8_readWord cX8_readWord 1 none ∈ lwg := lwg_in (tin_3 (List.mem_of_getElem? (i := 100) rfl)) rfl
theorem wd365 : Cond.methodLink RX8 59 yX8_readNumber ∈ lwg := lwg_in (tin_3 (List.mem_of_getElem? (i := 101) rfl)) rfl
theorem wd366 : Cond.instanceMethod yX8_readNumber ∈ lwg := lwg_in (tin_3 (List.mem_of_getElem? (i := 103) rfl)) rfl
theorem wd367 : Cond.code yX8_readNumber cX8_readNumber 1 none ∈ lwg := lwg_in (tin_3 (List.mem_of_getElem? (i := 104) rfl)) rfl
theorem wd368 : Cond.methodLink RX3 49 yX3_takePart ∈ lwg := lwg_in (tin_3 (List.mem_of_getElem? (i := 105) rfl)) rfl
theorem wd369 : Cond.instanceMethod yX3_takePart ∈ lwg := lwg_in (tin_3 (List.mem_of_getElem? (i := 107) rfl)) rfl
theorem wd370 : Cond.code yX3_takePart cX3_takePart 1 (some .boolean) ∈ lwg := lwg_in (tin_3 (List.mem_of_getElem? (i := 108) rfl)) rfl
theorem wd371 : Cond.methodLink RX3 55 yX8_is ∈ lwg := lwg_in (tin_3 (List.mem_of_getElem? (i := 110) rfl)) rfl
theorem wd372 : Cond.instanceMethod yX8_is ∈ lwg := lwg_in (tin_3 (List.mem_of_getElem? (i := 111) rfl)) rfl
theorem wd373 : Cond.selects RX8 yX8_is yX8_is ∈ lwg := lwg_in (tin_3 (List.mem_of_getElem? (i := 112) rfl)) rfl
theorem wd374 : Cond.code yX8_is cX8_is 3 (some .boolean) ∈ lwg := lwg_in (tin_3 (List.mem_of_getElem? (i := 113) rfl)) rfl
theorem wd375 : Cond.methodLink RX8 62 yJ0_length_8abf5 ∈ lwg := lwg_in (tin_3 (List.mem_of_getElem? (i := 114) rfl)) rfl
theorem wd376 : Cond.instanceMethod yJ0_length_8abf5 ∈ lwg := lwg_in (tin_3 (List.mem_of_getElem? (i := 115) rfl)) rfl
theorem wd377 : Cond.selects RJ0 yJ0_length_8abf5 yJ0_length_8abf5 ∈ lwg := lwg_in (tin_3 (List.mem_of_getElem? (i := 116) rfl)) rfl
theorem wd378 : Cond.code yJ0_length_8abf5 cJ0_length_8abf5 1 (some .int) ∈ lwg := lwg_in (tin_3 (List.mem_of_getElem? (i := 117) rfl)) rfl
theorem wd379 : Cond.methodLink RJ0 335 yJ0_coder_7d493 ∈ lwg := lwg_in (tin_3 (List.mem_of_getElem? (i := 118) rfl)) rfl
theorem wd380 : Cond.instanceMethod yJ0_coder_7d493 ∈ lwg := lwg_in (tin_3 (List.mem_of_getElem? (i := 119) rfl)) rfl
theorem wd381 : Cond.selects RJ0 yJ0_coder_7d493 yJ0_coder_7d493 ∈ lwg := lwg_in (tin_3 (List.mem_of_getElem? (i := 120) rfl)) rfl
theorem wd382 : Cond.code yJ0_coder_7d493 cJ0_coder_7d493 1 (some .byte) ∈ lwg := lwg_in (tin_3 (List.mem_of_getElem? (i := 121) rfl)) rfl
theorem wd383 : Cond.fieldLink RJ0 38 "java/lang/String" "COMPACT_STRINGS" "Z" ∈ lwg := lwg_in (tin_3 (List.mem_of_getElem? (i := 122) rfl)) rfl
theorem wd384 : Cond.methodLink RX8 67 yJ0_charAt_5068e ∈ lwg := lwg_in (tin_3 (List.mem_of_getElem? (i := 124) rfl)) rfl
theorem wd385 : Cond.instanceMethod yJ0_charAt_5068e ∈ lwg := lwg_in (tin_3 (List.mem_of_getElem? (i := 125) rfl)) rfl
theorem wd386 : Cond.selects RJ0 yJ0_charAt_5068e yJ0_charAt_5068e ∈ lwg := lwg_in (tin_3 (List.mem_of_getElem? (i := 126) rfl)) rfl
theorem wd387 : Cond.code yJ0_charAt_5068e cJ0_charAt_5068e 2 (some .char) ∈ lwg := lwg_in (tin_3 (List.mem_of_getElem? (i := 127) rfl)) rfl
theorem wd388 : Cond.methodLink RJ0 492 yJ0_isLatin1_aae02 ∈ lwg := lwg_in (tin_3 (List.mem_of_getElem? (i := 128) rfl)) rfl
theorem wd389 : Cond.instanceMethod yJ0_isLatin1_aae02 ∈ lwg := lwg_in (tin_3 (List.mem_of_getElem? (i := 129) rfl)) rfl
theorem wd390 : Cond.selects RJ0 yJ0_isLatin1_aae02 yJ0_isLatin1_aae02 ∈ lwg := lwg_in (tin_3 (List.mem_of_getElem? (i := 130) rfl)) rfl
theorem wd391 : Cond.code yJ0_isLatin1_aae02 cJ0_isLatin1_aae02 1 (some .boolean) ∈ lwg := lwg_in (tin_3 (List.mem_of_getElem? (i := 131) rfl)) rfl
theorem wd392 : Cond.methodLink RJ0 495 yJ1_charAt_3b067 ∈ lwg := lwg_in (tin_3 (List.mem_of_getElem? (i := 132) rfl)) rfl
theorem wd393 : Cond.static yJ1_charAt_3b067 ∈ lwg := lwg_in (tin_3 (List.mem_of_getElem? (i := 133) rfl)) rfl
theorem wd394 : Cond.code yJ1_charAt_3b067 cJ1_charAt_3b067 2 (some .char) ∈ lwg := lwg_in (tin_3 (List.mem_of_getElem? (i := 134) rfl)) rfl
theorem wd395 : Cond.methodLink RJ1 9 yJ0_checkIndex_df160 ∈ lwg := lwg_in (tin_3 (List.mem_of_getElem? (i := 135) rfl)) rfl
theorem wd396 : Cond.static yJ0_checkIndex_df160 ∈ lwg := lwg_in (tin_3 (List.mem_of_getElem? (i := 136) rfl)) rfl
theorem wd397 : Cond.code yJ0_checkIndex_df160 cJ0_checkIndex_df160 2 none ∈ lwg := lwg_in (tin_3 (List.mem_of_getElem? (i := 137) rfl)) rfl
theorem wd398 : Cond.fieldLink RJ0 1053 "jdk/internal/util/Preconditions" "SIOOBE_FORMATTER" "Ljava/util/function/BiFunction;" ∈ lwg := lwg_in (tin_3 (List.mem_of_getElem? (i := 138) rfl)) rfl
theorem wd399 : Cond.methodLink RJ0 1059 yJ3_checkIndex_8e157 ∈ lwg := lwg_in (tin_3 (List.mem_of_getElem? (i := 140) rfl)) rfl
theorem wd400 : Cond.static yJ3_checkIndex_8e157 ∈ lwg := lwg_in (tin_3 (List.mem_of_getElem? (i := 141) rfl)) rfl
theorem wd401 : Cond.code yJ3_checkIndex_8e157 cJ3_checkIndex_8e157 3 (some .int) ∈ lwg := lwg_in (tin_3 (List.mem_of_getElem? (i := 142) rfl)) rfl
theorem wd402 : Cond.methodLink RJ0 498 yJ2_charAt_3b067 ∈ lwg := lwg_in (tin_3 (List.mem_of_getElem? (i := 143) rfl)) rfl
theorem wd403 : Cond.static yJ2_charAt_3b067 ∈ lwg := lwg_in (tin_3 (List.mem_of_getElem? (i := 144) rfl)) rfl
theorem wd404 : Cond.code yJ2_charAt_3b067 cJ2_charAt_3b067 2 (some .char) ∈ lwg := lwg_in (tin_3 (List.mem_of_getElem? (i := 145) rfl)) rfl
theorem wd405 : Cond.methodLink RJ2 67 yJ2_checkIndex_2214a ∈ lwg := lwg_in (tin_3 (List.mem_of_getElem? (i := 146) rfl)) rfl
theorem wd406 : Cond.static yJ2_checkIndex_2214a ∈ lwg := lwg_in (tin_3 (List.mem_of_getElem? (i := 147) rfl)) rfl
theorem wd407 : Cond.code yJ2_checkIndex_2214a cJ2_checkIndex_2214a 2 none ∈ lwg := lwg_in (tin_3 (List.mem_of_getElem? (i := 148) rfl)) rfl
theorem wd408 : Cond.methodLink RJ2 48 yJ2_length_9d52b ∈ lwg := lwg_in (tin_3 (List.mem_of_getElem? (i := 149) rfl)) rfl
theorem wd409 : Cond.static yJ2_length_9d52b ∈ lwg := lwg_in (tin_3 (List.mem_of_getElem? (i := 150) rfl)) rfl
theorem wd410 : Cond.code yJ2_length_9d52b cJ2_length_9d52b 1 (some .int) ∈ lwg := lwg_in (tin_3 (List.mem_of_getElem? (i := 151) rfl)) rfl
theorem wd411 : Cond.methodLink RJ2 414 yJ0_checkIndex_df160 ∈ lwg := lwg_in (tin_3 (List.mem_of_getElem? (i := 152) rfl)) rfl
theorem wd412 : Cond.methodLink RJ2 71 yJ2_getChar_3b067 ∈ lwg := lwg_in (tin_3 (List.mem_of_getElem? (i := 153) rfl)) rfl
theorem wd413 : Cond.static yJ2_getChar_3b067 ∈ lwg := lwg_in (tin_3 (List.mem_of_getElem? (i := 154) rfl)) rfl
theorem wd414 : Cond.code yJ2_getChar_3b067 cJ2_getChar_3b067 2 (some .char) ∈ lwg := lwg_in (tin_3 (List.mem_of_getElem? (i := 155) rfl)) rfl
theorem wd415 : Cond.fieldLink RJ2 44 "java/lang/StringUTF16" "$assertionsDisabled" "Z" ∈ lwg := lwg_in (tin_3 (List.mem_of_getElem? (i := 156) rfl)) rfl
theorem wd416 : Cond.fieldLink RJ2 59 "java/lang/StringUTF16" "HI_BYTE_SHIFT" "I" ∈ lwg := lwg_in (tin_3 (List.mem_of_getElem? (i := 158) rfl)) rfl
theorem wd417 : Cond.fieldLink RJ2 63 "java/lang/StringUTF16" "LO_BYTE_SHIFT" "I" ∈ lwg := lwg_in (tin_3 (List.mem_of_getElem? (i := 160) rfl)) rfl
theorem wd418 : Cond.methodLink RX3 59 yX3_takeMachine ∈ lwg := lwg_in (tin_3 (List.mem_of_getElem? (i := 162) rfl)) rfl
theorem wd419 : Cond.instanceMethod yX3_takeMachine ∈ lwg := lwg_in (tin_3 (List.mem_of_getElem? (i := 164) rfl)) rfl
theorem wd420 : Cond.code yX3_takeMachine cX3_takeMachine 3 (some .boolean) ∈ lwg := lwg_in (tin_3 (List.mem_of_getElem? (i := 165) rfl)) rfl
theorem wd421 : Cond.methodLink RX3 100 yX8_wrong ∈ lwg := lwg_in (tin_3 (List.mem_of_getElem? (i := 166) rfl)) rfl
theorem wd422 : Cond.instanceMethod yX8_wrong ∈ lwg := lwg_in (tin_3 (List.mem_of_getElem? (i := 167) rfl)) rfl
theorem wd423 : Cond.selects RX8 yX8_wrong yX8_wrong ∈ lwg := lwg_in (tin_3 (List.mem_of_getElem? (i := 168) rfl)) rfl
theorem wd424 : Cond.code yX8_wrong cX8_wrong 2 (some .boolean) ∈ lwg := lwg_in (tin_3 (List.mem_of_getElem? (i := 169) rfl)) rfl
theorem wd425 : Cond.methodLink RX3 104 yX8_advance ∈ lwg := lwg_in (tin_3 (List.mem_of_getElem? (i := 170) rfl)) rfl
theorem wd426 : Cond.methodLink RX3 107 yX3_isName ∈ lwg := lwg_in (tin_3 (List.mem_of_getElem? (i := 171) rfl)) rfl
theorem wd427 : Cond.instanceMethod yX3_isName ∈ lwg := lwg_in (tin_3 (List.mem_of_getElem? (i := 173) rfl)) rfl
theorem wd428 : Cond.code yX3_isName cX3_isName 1 (some .boolean) ∈ lwg := lwg_in (tin_3 (List.mem_of_getElem? (i := 174) rfl)) rfl
theorem wd429 : Cond.methodLink RX3 80 yX8_isShortWord ∈ lwg := lwg_in (tin_3 (List.mem_of_getElem? (i := 175) rfl)) rfl
theorem wd430 : Cond.instanceMethod yX8_isShortWord ∈ lwg := lwg_in (tin_3 (List.mem_of_getElem? (i := 176) rfl)) rfl
theorem wd431 : Cond.selects RX8 yX8_isShortWord yX8_isShortWord ∈ lwg := lwg_in (tin_3 (List.mem_of_getElem? (i := 177) rfl)) rfl
theorem wd432 : Cond.code yX8_isShortWord cX8_isShortWord 1 (some .boolean) ∈ lwg := lwg_in (tin_3 (List.mem_of_getElem? (i := 178) rfl)) rfl
theorem wd433 : Cond.methodLink RX3 77 yX8_misplaced ∈ lwg := lwg_in (tin_3 (List.mem_of_getElem? (i := 186) rfl)) rfl
theorem wd434 : Cond.instanceMethod yX8_misplaced ∈ lwg := lwg_in (tin_3 (List.mem_of_getElem? (i := 187) rfl)) rfl
theorem wd435 : Cond.selects RX8 yX8_misplaced yX8_misplaced ∈ lwg := lwg_in (tin_3 (List.mem_of_getElem? (i := 188) rfl)) rfl
theorem wd436 : Cond.code yX8_misplaced cX8_misplaced 1 (some .boolean) ∈ lwg := lwg_in (tin_3 (List.mem_of_getElem? (i := 189) rfl)) rfl
theorem wd437 : Cond.methodLink RX8 71 yX8_wrong ∈ lwg := lwg_in (tin_3 (List.mem_of_getElem? (i := 190) rfl)) rfl
theorem wd438 : Cond.methodLink RX3 114 yX5_machineNamed ∈ lwg := lwg_in (tin_3 (List.mem_of_getElem? (i := 191) rfl)) rfl
theorem wd439 : Cond.instanceMethod yX5_machineNamed ∈ lwg := lwg_in (tin_3 (List.mem_of_getElem? (i := 192) rfl)) rfl
theorem wd440 : Cond.selects RX5 yX5_machineNamed yX5_machineNamed ∈ lwg := lwg_in (tin_3 (List.mem_of_getElem? (i := 193) rfl)) rfl
theorem wd441 : Cond.code yX5_machineNamed cX5_machineNamed 4 (some .int) ∈ lwg := lwg_in (tin_3 (List.mem_of_getElem? (i := 194) rfl)) rfl
theorem wd442 : Cond.methodLink RX3 118 yX3_addMachine ∈ lwg := lwg_in (tin_3 (List.mem_of_getElem? (i := 195) rfl)) rfl
theorem wd443 : Cond.instanceMethod yX3_addMachine ∈ lwg := lwg_in (tin_3 (List.mem_of_getElem? (i := 197) rfl)) rfl
theorem wd444 : Cond.code yX3_addMachine cX3_addMachine 4 none ∈ lwg := lwg_in (tin_3 (List.mem_of_getElem? (i := 198) rfl)) rfl
theorem wd445 : Cond.methodLink RX3 122 yX8_takeWord ∈ lwg := lwg_in (tin_3 (List.mem_of_getElem? (i := 199) rfl)) rfl
theorem wd446 : Cond.instanceMethod yX8_takeWord ∈ lwg := lwg_in (tin_3 (List.mem_of_getElem? (i := 200) rfl)) rfl
theorem wd447 : Cond.selects RX8 yX8_takeWord yX8_takeWord ∈ lwg := lwg_in (tin_3 (List.mem_of_getElem? (i := 201) rfl)) rfl
theorem wd448 : Cond.code yX8_takeWord cX8_takeWord 2 (some .boolean) ∈ lwg := lwg_in (tin_3 (List.mem_of_getElem? (i := 202) rfl)) rfl
theorem wd449 : Cond.methodLink RX8 75 yX8_is ∈ lwg := lwg_in (tin_3 (List.mem_of_getElem? (i := 203) rfl)) rfl
theorem wd450 : Cond.methodLink RX8 79 yX8_misplaced ∈ lwg := lwg_in (tin_3 (List.mem_of_getElem? (i := 204) rfl)) rfl
theorem wd451 : Cond.methodLink RX3 125 yX8_takeNumber ∈ lwg := lwg_in (tin_3 (List.mem_of_getElem? (i := 205) rfl)) rfl
theorem wd452 : Cond.instanceMethod yX8_takeNumber ∈ lwg := lwg_in (tin_3 (List.mem_of_getElem? (i := 206) rfl)) rfl
theorem wd453 : Cond.selects RX8 yX8_takeNumber yX8_takeNumber ∈ lwg := lwg_in (tin_3 (List.mem_of_getElem? (i := 207) rfl)) rfl
theorem wd454 : Cond.code yX8_takeNumber cX8_takeNumber 3 (some .boolean) ∈ lwg := lwg_in (tin_3 (List.mem_of_getElem? (i := 208) rfl)) rfl
theorem wd455 : Cond.methodLink RX3 135 yX3_takeHeads ∈ lwg := lwg_in (tin_3 (List.mem_of_getElem? (i := 210) rfl)) rfl
theorem wd456 : Cond.instanceMethod yX3_takeHeads ∈ lwg := lwg_in (tin_3 (List.mem_of_getElem? (i := 212) rfl)) rfl
theorem wd457 : Cond.code yX3_takeHeads cX3_takeHeads 2 (some .boolean) ∈ lwg := lwg_in (tin_3 (List.mem_of_getElem? (i := 213) rfl)) rfl
theorem wd458 : Cond.methodLink RX3 138 yX3_takeStops ∈ lwg := lwg_in (tin_3 (List.mem_of_getElem? (i := 214) rfl)) rfl
theorem wd459 : Cond.instanceMethod yX3_takeStops ∈ lwg := lwg_in (tin_3 (List.mem_of_getElem? (i := 216) rfl)) rfl
theorem wd460 : Cond.code yX3_takeStops cX3_takeStops 2 (some .boolean) ∈ lwg := lwg_in (tin_3 (List.mem_of_getElem? (i := 217) rfl)) rfl
theorem wd461 : Cond.methodLink RX3 141 yX8_takeSign ∈ lwg := lwg_in (tin_3 (List.mem_of_getElem? (i := 218) rfl)) rfl
theorem wd462 : Cond.instanceMethod yX8_takeSign ∈ lwg := lwg_in (tin_3 (List.mem_of_getElem? (i := 219) rfl)) rfl
theorem wd463 : Cond.selects RX8 yX8_takeSign yX8_takeSign ∈ lwg := lwg_in (tin_3 (List.mem_of_getElem? (i := 220) rfl)) rfl
theorem wd464 : Cond.code yX8_takeSign cX8_takeSign 1 (some .boolean) ∈ lwg := lwg_in (tin_3 (List.mem_of_getElem? (i := 221) rfl)) rfl
theorem wd465 : Cond.methodLink RX3 64 yX3_takeTable ∈ lwg := lwg_in (tin_3 (List.mem_of_getElem? (i := 222) rfl)) rfl
theorem wd466 : Cond.instanceMethod yX3_takeTable ∈ lwg := lwg_in (tin_3 (List.mem_of_getElem? (i := 224) rfl)) rfl
theorem wd467 : Cond.code yX3_takeTable cX3_takeTable 2 (some .boolean) ∈ lwg := lwg_in (tin_3 (List.mem_of_getElem? (i := 225) rfl)) rfl
theorem wd468 : Cond.methodLink RX3 69 yX3_takeSort ∈ lwg := lwg_in (tin_3 (List.mem_of_getElem? (i := 226) rfl)) rfl
theorem wd469 : Cond.instanceMethod yX3_takeSort ∈ lwg := lwg_in (tin_3 (List.mem_of_getElem? (i := 228) rfl)) rfl
theorem wd470 : Cond.code yX3_takeSort cX3_takeSort 1 (some .boolean) ∈ lwg := lwg_in (tin_3 (List.mem_of_getElem? (i := 229) rfl)) rfl
theorem wd471 : Cond.methodLink RX3 160 yX3_sortNamed ∈ lwg := lwg_in (tin_3 (List.mem_of_getElem? (i := 230) rfl)) rfl
theorem wd472 : Cond.instanceMethod yX3_sortNamed ∈ lwg := lwg_in (tin_3 (List.mem_of_getElem? (i := 232) rfl)) rfl
theorem wd473 : Cond.code yX3_sortNamed cX3_sortNamed 4 (some .int) ∈ lwg := lwg_in (tin_3 (List.mem_of_getElem? (i := 233) rfl)) rfl
theorem wd474 : Cond.methodLink RX3 74 yX3_takeWash ∈ lwg := lwg_in (tin_3 (List.mem_of_getElem? (i := 234) rfl)) rfl
theorem wd475 : Cond.instanceMethod yX3_takeWash ∈ lwg := lwg_in (tin_3 (List.mem_of_getElem? (i := 236) rfl)) rfl
theorem wd476 : Cond.code yX3_takeWash cX3_takeWash 3 (some .boolean) ∈ lwg := lwg_in (tin_3 (List.mem_of_getElem? (i := 237) rfl)) rfl
theorem wd477 : Cond.methodLink RX3 163 yX3_sortHere ∈ lwg := lwg_in (tin_3 (List.mem_of_getElem? (i := 238) rfl)) rfl
theorem wd478 : Cond.instanceMethod yX3_sortHere ∈ lwg := lwg_in (tin_4 (List.mem_of_getElem? (i := 0) rfl)) rfl
theorem wd479 : Cond.code yX3_sortHere cX3_sortHere 2 (some .int) ∈ lwg := lwg_in (tin_4 (List.mem_of_getElem? (i := 1) rfl)) rfl
theorem wd480 : Cond.methodLink RX3 167 yX5_washTold ∈ lwg := lwg_in (tin_4 (List.mem_of_getElem? (i := 2) rfl)) rfl
theorem wd481 : Cond.instanceMethod yX5_washTold ∈ lwg := lwg_in (tin_4 (List.mem_of_getElem? (i := 3) rfl)) rfl
theorem wd482 : Cond.selects RX5 yX5_washTold yX5_washTold ∈ lwg := lwg_in (tin_4 (List.mem_of_getElem? (i := 4) rfl)) rfl
theorem wd483 : Cond.code yX5_washTold cX5_washTold 3 (some .boolean) ∈ lwg := lwg_in (tin_4 (List.mem_of_getElem? (i := 5) rfl)) rfl
theorem wd484 : Cond.methodLink RX11 174 yX5_copy ∈ lwg := lwg_in (tin_4 (List.mem_of_getElem? (i := 6) rfl)) rfl
theorem wd485 : Cond.instanceMethod yX5_copy ∈ lwg := lwg_in (tin_4 (List.mem_of_getElem? (i := 7) rfl)) rfl
theorem wd486 : Cond.selects RX5 yX5_copy yX5_copy ∈ lwg := lwg_in (tin_4 (List.mem_of_getElem? (i := 8) rfl)) rfl
theorem wd487 : Cond.code yX5_copy cX5_copy 2 none ∈ lwg := lwg_in (tin_4 (List.mem_of_getElem? (i := 9) rfl)) rfl
theorem wd488 : Cond.methodLink RX5 46 yX1_copy ∈ lwg := lwg_in (tin_4 (List.mem_of_getElem? (i := 10) rfl)) rfl
theorem wd489 : Cond.instanceMethod yX1_copy ∈ lwg := lwg_in (tin_4 (List.mem_of_getElem? (i := 11) rfl)) rfl
theorem wd490 : Cond.selects RX1 yX1_copy yX1_copy ∈ lwg := lwg_in (tin_4 (List.mem_of_getElem? (i := 12) rfl)) rfl
theorem wd491 : Cond.code yX1_copy cX1_copy 2 none ∈ lwg := lwg_in (tin_4 (List.mem_of_getElem? (i := 13) rfl)) rfl
theorem wd492 : Cond.methodLink RX1 61 (⟨"java/lang/System", "arraycopy", "(Ljava/lang/Object;ILjava/lang/Object;II)V"⟩ : MethodName) ∈ lwg := lwg_in (tin_4 (List.mem_of_getElem? (i := 14) rfl)) rfl
theorem wd493 : Cond.methodLink RX5 50 (⟨"java/lang/System", "arraycopy", "(Ljava/lang/Object;ILjava/lang/Object;II)V"⟩ : MethodName) ∈ lwg := lwg_in (tin_4 (List.mem_of_getElem? (i := 15) rfl)) rfl
theorem wd494 : Cond.methodLink RX11 187 yX11_answer ∈ lwg := lwg_in (tin_4 (List.mem_of_getElem? (i := 16) rfl)) rfl
theorem wd495 : Cond.instanceMethod yX11_answer ∈ lwg := lwg_in (tin_4 (List.mem_of_getElem? (i := 18) rfl)) rfl
theorem wd496 : Cond.code yX11_answer cX11_answer 2 (some .int) ∈ lwg := lwg_in (tin_4 (List.mem_of_getElem? (i := 19) rfl)) rfl
theorem wd497 : Cond.methodLink RL 59 yX11_shift ∈ lwg := lwg_in (tin_4 (List.mem_of_getElem? (i := 20) rfl)) rfl
theorem wd498 : Cond.instanceMethod yX11_shift ∈ lwg := lwg_in (tin_4 (List.mem_of_getElem? (i := 21) rfl)) rfl
theorem wd499 : Cond.selects RX11 yX11_shift yX11_shift ∈ lwg := lwg_in (tin_4 (List.mem_of_getElem? (i := 22) rfl)) rfl
theorem wd500 : Cond.code yX11_shift cX11_shift 2 (some .int) ∈ lwg := lwg_in (tin_4 (List.mem_of_getElem? (i := 23) rfl)) rfl
theorem wd501 : Cond.methodLink RX11 190 yJ9_min_7cf53 ∈ lwg := lwg_in (tin_4 (List.mem_of_getElem? (i := 24) rfl)) rfl
theorem wd502 : Cond.methodLink RX11 195 yX7_takesAll ∈ lwg := lwg_in (tin_4 (List.mem_of_getElem? (i := 25) rfl)) rfl
theorem wd503 : Cond.instanceMethod yX7_takesAll ∈ lwg := lwg_in (tin_4 (List.mem_of_getElem? (i := 26) rfl)) rfl
theorem wd504 : Cond.selects RX7 yX7_takesAll yX7_takesAll ∈ lwg := lwg_in (tin_4 (List.mem_of_getElem? (i := 27) rfl)) rfl
theorem wd505 : Cond.code yX7_takesAll cX7_takesAll 3 (some .boolean) ∈ lwg := lwg_in (tin_4 (List.mem_of_getElem? (i := 28) rfl)) rfl
theorem wd506 : Cond.methodLink RX7 33 yX8_open ∈ lwg := lwg_in (tin_4 (List.mem_of_getElem? (i := 29) rfl)) rfl
theorem wd507 : Cond.methodLink RX7 41 yX8_misplaced ∈ lwg := lwg_in (tin_4 (List.mem_of_getElem? (i := 30) rfl)) rfl
theorem wd508 : Cond.methodLink RX7 47 yX8_is ∈ lwg := lwg_in (tin_4 (List.mem_of_getElem? (i := 32) rfl)) rfl
theorem wd509 : Cond.methodLink RX7 51 yX7_takeEnd ∈ lwg := lwg_in (tin_4 (List.mem_of_getElem? (i := 33) rfl)) rfl
theorem wd510 : Cond.instanceMethod yX7_takeEnd ∈ lwg := lwg_in (tin_4 (List.mem_of_getElem? (i := 35) rfl)) rfl
theorem wd511 : Cond.code yX7_takeEnd cX7_takeEnd 1 (some .boolean) ∈ lwg := lwg_in (tin_4 (List.mem_of_getElem? (i := 36) rfl)) rfl
theorem wd512 : Cond.methodLink RX7 60 yX8_advance ∈ lwg := lwg_in (tin_4 (List.mem_of_getElem? (i := 37) rfl)) rfl
theorem wd513 : Cond.methodLink RX7 63 yX8_takeSign ∈ lwg := lwg_in (tin_4 (List.mem_of_getElem? (i := 38) rfl)) rfl
theorem wd514 : Cond.methodLink RX7 54 yX7_takeStep ∈ lwg := lwg_in (tin_4 (List.mem_of_getElem? (i := 39) rfl)) rfl
theorem wd515 : Cond.instanceMethod yX7_takeStep ∈ lwg := lwg_in (tin_4 (List.mem_of_getElem? (i := 41) rfl)) rfl
theorem wd516 : Cond.code yX7_takeStep cX7_takeStep 4 (some .boolean) ∈ lwg := lwg_in (tin_4 (List.mem_of_getElem? (i := 42) rfl)) rfl
theorem wd517 : Cond.methodLink RX7 66 yX7_kindHere ∈ lwg := lwg_in (tin_4 (List.mem_of_getElem? (i := 43) rfl)) rfl
theorem wd518 : Cond.instanceMethod yX7_kindHere ∈ lwg := lwg_in (tin_4 (List.mem_of_getElem? (i := 45) rfl)) rfl
theorem wd519 : Cond.code yX7_kindHere cX7_kindHere 1 (some .int) ∈ lwg := lwg_in (tin_4 (List.mem_of_getElem? (i := 46) rfl)) rfl
theorem wd520 : Cond.methodLink RX7 70 yX8_wrong ∈ lwg := lwg_in (tin_4 (List.mem_of_getElem? (i := 53) rfl)) rfl
theorem wd521 : Cond.methodLink RX7 77 yX7_takeDetails ∈ lwg := lwg_in (tin_4 (List.mem_of_getElem? (i := 54) rfl)) rfl
theorem wd522 : Cond.instanceMethod yX7_takeDetails ∈ lwg := lwg_in (tin_4 (List.mem_of_getElem? (i := 56) rfl)) rfl
theorem wd523 : Cond.code yX7_takeDetails cX7_takeDetails 3 (some .boolean) ∈ lwg := lwg_in (tin_4 (List.mem_of_getElem? (i := 57) rfl)) rfl
theorem wd524 : Cond.methodLink RX7 93 yX7_takeAmount ∈ lwg := lwg_in (tin_4 (List.mem_of_getElem? (i := 58) rfl)) rfl
theorem wd525 : Cond.instanceMethod yX7_takeAmount ∈ lwg := lwg_in (tin_4 (List.mem_of_getElem? (i := 60) rfl)) rfl
theorem wd526 : Cond.code yX7_takeAmount cX7_takeAmount 4 (some .boolean) ∈ lwg := lwg_in (tin_4 (List.mem_of_getElem? (i := 61) rfl)) rfl
theorem wd527 : Cond.methodLink RX7 103 yX8_takeNumber ∈ lwg := lwg_in (tin_4 (List.mem_of_getElem? (i := 62) rfl)) rfl
theorem wd528 : Cond.methodLink RX7 97 yX7_takeName ∈ lwg := lwg_in (tin_4 (List.mem_of_getElem? (i := 63) rfl)) rfl
theorem wd529 : Cond.instanceMethod yX7_takeName ∈ lwg := lwg_in (tin_4 (List.mem_of_getElem? (i := 65) rfl)) rfl
theorem wd530 : Cond.code yX7_takeName cX7_takeName 2 (some .boolean) ∈ lwg := lwg_in (tin_4 (List.mem_of_getElem? (i := 66) rfl)) rfl
theorem wd531 : Cond.methodLink RX7 112 yX8_isShortWord ∈ lwg := lwg_in (tin_4 (List.mem_of_getElem? (i := 67) rfl)) rfl
theorem wd532 : Cond.methodLink RX7 115 yX7_stateHere ∈ lwg := lwg_in (tin_4 (List.mem_of_getElem? (i := 68) rfl)) rfl
theorem wd533 : Cond.instanceMethod yX7_stateHere ∈ lwg := lwg_in (tin_4 (List.mem_of_getElem? (i := 70) rfl)) rfl
theorem wd534 : Cond.code yX7_stateHere cX7_stateHere 1 (some .int) ∈ lwg := lwg_in (tin_4 (List.mem_of_getElem? (i := 71) rfl)) rfl
theorem wd535 : Cond.methodLink RX7 100 yX7_takeState ∈ lwg := lwg_in (tin_4 (List.mem_of_getElem? (i := 76) rfl)) rfl
theorem wd536 : Cond.instanceMethod yX7_takeState ∈ lwg := lwg_in (tin_4 (List.mem_of_getElem? (i := 78) rfl)) rfl
theorem wd537 : Cond.code yX7_takeState cX7_takeState 3 (some .boolean) ∈ lwg := lwg_in (tin_4 (List.mem_of_getElem? (i := 79) rfl)) rfl
theorem wd538 : Cond.methodLink RX11 198 yX6_copy ∈ lwg := lwg_in (tin_4 (List.mem_of_getElem? (i := 80) rfl)) rfl
theorem wd539 : Cond.instanceMethod yX6_copy ∈ lwg := lwg_in (tin_4 (List.mem_of_getElem? (i := 81) rfl)) rfl
theorem wd540 : Cond.selects RX6 yX6_copy yX6_copy ∈ lwg := lwg_in (tin_4 (List.mem_of_getElem? (i := 82) rfl)) rfl
theorem wd541 : Cond.code yX6_copy cX6_copy 2 none ∈ lwg := lwg_in (tin_4 (List.mem_of_getElem? (i := 83) rfl)) rfl
theorem wd542 : Cond.methodLink RX6 27 (⟨"java/lang/System", "arraycopy", "(Ljava/lang/Object;ILjava/lang/Object;II)V"⟩ : MethodName) ∈ lwg := lwg_in (tin_4 (List.mem_of_getElem? (i := 84) rfl)) rfl
theorem wd543 : Cond.methodLink RL 63 yX11_fault ∈ lwg := lwg_in (tin_4 (List.mem_of_getElem? (i := 85) rfl)) rfl
theorem wd544 : Cond.instanceMethod yX11_fault ∈ lwg := lwg_in (tin_4 (List.mem_of_getElem? (i := 86) rfl)) rfl
theorem wd545 : Cond.selects RX11 yX11_fault yX11_fault ∈ lwg := lwg_in (tin_4 (List.mem_of_getElem? (i := 87) rfl)) rfl
theorem wd546 : Cond.code yX11_fault cX11_fault 2 (some .int) ∈ lwg := lwg_in (tin_4 (List.mem_of_getElem? (i := 88) rfl)) rfl
theorem wd547 : Cond.methodLink RL 67 yX11_many ∈ lwg := lwg_in (tin_4 (List.mem_of_getElem? (i := 89) rfl)) rfl
theorem wd548 : Cond.instanceMethod yX11_many ∈ lwg := lwg_in (tin_4 (List.mem_of_getElem? (i := 90) rfl)) rfl
theorem wd549 : Cond.selects RX11 yX11_many yX11_many ∈ lwg := lwg_in (tin_4 (List.mem_of_getElem? (i := 91) rfl)) rfl
theorem wd550 : Cond.code yX11_many cX11_many 2 (some .int) ∈ lwg := lwg_in (tin_4 (List.mem_of_getElem? (i := 92) rfl)) rfl
theorem wd551 : Cond.methodLink RX11 216 yX1_made ∈ lwg := lwg_in (tin_4 (List.mem_of_getElem? (i := 93) rfl)) rfl
theorem wd552 : Cond.instanceMethod yX1_made ∈ lwg := lwg_in (tin_4 (List.mem_of_getElem? (i := 94) rfl)) rfl
theorem wd553 : Cond.selects RX1 yX1_made yX1_made ∈ lwg := lwg_in (tin_4 (List.mem_of_getElem? (i := 95) rfl)) rfl
theorem wd554 : Cond.code yX1_made cX1_made 1 (some .int) ∈ lwg := lwg_in (tin_4 (List.mem_of_getElem? (i := 96) rfl)) rfl
theorem wd555 : Cond.methodLink RL 71 yX11_machine ∈ lwg := lwg_in (tin_4 (List.mem_of_getElem? (i := 97) rfl)) rfl
theorem wd556 : Cond.instanceMethod yX11_machine ∈ lwg := lwg_in (tin_4 (List.mem_of_getElem? (i := 98) rfl)) rfl
theorem wd557 : Cond.selects RX11 yX11_machine yX11_machine ∈ lwg := lwg_in (tin_4 (List.mem_of_getElem? (i := 99) rfl)) rfl
theorem wd558 : Cond.code yX11_machine cX11_machine 4 (some .int) ∈ lwg := lwg_in (tin_4 (List.mem_of_getElem? (i := 100) rfl)) rfl
theorem wd559 : Cond.methodLink RX11 220 yX11_isMachine ∈ lwg := lwg_in (tin_4 (List.mem_of_getElem? (i := 101) rfl)) rfl
theorem wd560 : Cond.instanceMethod yX11_isMachine ∈ lwg := lwg_in (tin_4 (List.mem_of_getElem? (i := 103) rfl)) rfl
theorem wd561 : Cond.code yX11_isMachine cX11_isMachine 2 (some .boolean) ∈ lwg := lwg_in (tin_4 (List.mem_of_getElem? (i := 104) rfl)) rfl
theorem wd562 : Cond.methodLink RL 76 yX11_table ∈ lwg := lwg_in (tin_4 (List.mem_of_getElem? (i := 105) rfl)) rfl
theorem wd563 : Cond.instanceMethod yX11_table ∈ lwg := lwg_in (tin_4 (List.mem_of_getElem? (i := 106) rfl)) rfl
theorem wd564 : Cond.selects RX11 yX11_table yX11_table ∈ lwg := lwg_in (tin_4 (List.mem_of_getElem? (i := 107) rfl)) rfl
theorem wd565 : Cond.code yX11_table cX11_table 3 (some .int) ∈ lwg := lwg_in (tin_4 (List.mem_of_getElem? (i := 108) rfl)) rfl
theorem wd566 : Cond.methodLink RX11 244 yX1_tables ∈ lwg := lwg_in (tin_4 (List.mem_of_getElem? (i := 109) rfl)) rfl
theorem wd567 : Cond.instanceMethod yX1_tables ∈ lwg := lwg_in (tin_4 (List.mem_of_getElem? (i := 110) rfl)) rfl
theorem wd568 : Cond.selects RX1 yX1_tables yX1_tables ∈ lwg := lwg_in (tin_4 (List.mem_of_getElem? (i := 111) rfl)) rfl
theorem wd569 : Cond.code yX1_tables cX1_tables 1 (some .int) ∈ lwg := lwg_in (tin_4 (List.mem_of_getElem? (i := 112) rfl)) rfl
theorem wd570 : Cond.methodLink RX1 67 yJ9_max_7cf53 ∈ lwg := lwg_in (tin_4 (List.mem_of_getElem? (i := 113) rfl)) rfl
theorem wd571 : Cond.static yJ9_max_7cf53 ∈ lwg := lwg_in (tin_4 (List.mem_of_getElem? (i := 114) rfl)) rfl
theorem wd572 : Cond.code yJ9_max_7cf53 cJ9_max_7cf53 2 (some .int) ∈ lwg := lwg_in (tin_4 (List.mem_of_getElem? (i := 115) rfl)) rfl
theorem wd573 : Cond.methodLink RL 80 yX11_wash ∈ lwg := lwg_in (tin_4 (List.mem_of_getElem? (i := 116) rfl)) rfl
theorem wd574 : Cond.instanceMethod yX11_wash ∈ lwg := lwg_in (tin_4 (List.mem_of_getElem? (i := 117) rfl)) rfl
theorem wd575 : Cond.selects RX11 yX11_wash yX11_wash ∈ lwg := lwg_in (tin_4 (List.mem_of_getElem? (i := 118) rfl)) rfl
theorem wd576 : Cond.code yX11_wash cX11_wash 3 (some .int) ∈ lwg := lwg_in (tin_4 (List.mem_of_getElem? (i := 119) rfl)) rfl
theorem wd577 : Cond.methodLink RX11 253 yX11_isSort ∈ lwg := lwg_in (tin_4 (List.mem_of_getElem? (i := 120) rfl)) rfl
theorem wd578 : Cond.instanceMethod yX11_isSort ∈ lwg := lwg_in (tin_4 (List.mem_of_getElem? (i := 122) rfl)) rfl
theorem wd579 : Cond.code yX11_isSort cX11_isSort 2 (some .boolean) ∈ lwg := lwg_in (tin_4 (List.mem_of_getElem? (i := 123) rfl)) rfl
theorem wd580 : Cond.methodLink RX11 256 yX5_washMinutes ∈ lwg := lwg_in (tin_4 (List.mem_of_getElem? (i := 124) rfl)) rfl
theorem wd581 : Cond.instanceMethod yX5_washMinutes ∈ lwg := lwg_in (tin_4 (List.mem_of_getElem? (i := 125) rfl)) rfl
theorem wd582 : Cond.selects RX5 yX5_washMinutes yX5_washMinutes ∈ lwg := lwg_in (tin_4 (List.mem_of_getElem? (i := 126) rfl)) rfl
theorem wd583 : Cond.code yX5_washMinutes cX5_washMinutes 3 (some .int) ∈ lwg := lwg_in (tin_4 (List.mem_of_getElem? (i := 127) rfl)) rfl
theorem wd584 : Cond.methodLink RX5 56 yX5_washTold ∈ lwg := lwg_in (tin_4 (List.mem_of_getElem? (i := 128) rfl)) rfl
theorem wd585 : Cond.methodLink RL 84 yX11_begin ∈ lwg := lwg_in (tin_4 (List.mem_of_getElem? (i := 129) rfl)) rfl
theorem wd586 : Cond.instanceMethod yX11_begin ∈ lwg := lwg_in (tin_4 (List.mem_of_getElem? (i := 130) rfl)) rfl
theorem wd587 : Cond.selects RX11 yX11_begin yX11_begin ∈ lwg := lwg_in (tin_4 (List.mem_of_getElem? (i := 131) rfl)) rfl
theorem wd588 : Cond.code yX11_begin cX11_begin 2 (some .boolean) ∈ lwg := lwg_in (tin_4 (List.mem_of_getElem? (i := 132) rfl)) rfl
theorem wd589 : Cond.constantLong RX11 259 (9999 : Int64) ∈ lwg := lwg_in (tin_4 (List.mem_of_getElem? (i := 133) rfl)) rfl
theorem wd590 : Cond.methodLink RX11 261 yX1_start ∈ lwg := lwg_in (tin_4 (List.mem_of_getElem? (i := 134) rfl)) rfl
theorem wd591 : Cond.methodLink RL 89 yX11_run ∈ lwg := lwg_in (tin_4 (List.mem_of_getElem? (i := 135) rfl)) rfl
theorem wd592 : Cond.instanceMethod yX11_run ∈ lwg := lwg_in (tin_4 (List.mem_of_getElem? (i := 136) rfl)) rfl
theorem wd593 : Cond.selects RX11 yX11_run yX11_run ∈ lwg := lwg_in (tin_4 (List.mem_of_getElem? (i := 137) rfl)) rfl
theorem wd594 : Cond.code yX11_run cX11_run 2 (some .int) ∈ lwg := lwg_in (tin_4 (List.mem_of_getElem? (i := 138) rfl)) rfl
theorem wd595 : Cond.constantLong RX11 264 (600 : Int64) ∈ lwg := lwg_in (tin_4 (List.mem_of_getElem? (i := 139) rfl)) rfl
theorem wd596 : Cond.methodLink RX11 266 yX1_spend ∈ lwg := lwg_in (tin_4 (List.mem_of_getElem? (i := 140) rfl)) rfl
theorem wd597 : Cond.instanceMethod yX1_spend ∈ lwg := lwg_in (tin_4 (List.mem_of_getElem? (i := 141) rfl)) rfl
theorem wd598 : Cond.selects RX1 yX1_spend yX1_spend ∈ lwg := lwg_in (tin_4 (List.mem_of_getElem? (i := 142) rfl)) rfl
theorem wd599 : Cond.code yX1_spend cX1_spend 4 (some .int) ∈ lwg := lwg_in (tin_4 (List.mem_of_getElem? (i := 143) rfl)) rfl
theorem wd600 : Cond.methodLink RX1 73 yX1_made ∈ lwg := lwg_in (tin_4 (List.mem_of_getElem? (i := 144) rfl)) rfl
theorem wd601 : Cond.methodLink RX1 77 yX1_goOn ∈ lwg := lwg_in (tin_4 (List.mem_of_getElem? (i := 145) rfl)) rfl
theorem wd602 : Cond.instanceMethod yX1_goOn ∈ lwg := lwg_in (tin_4 (List.mem_of_getElem? (i := 146) rfl)) rfl
theorem wd603 : Cond.selects RX1 yX1_goOn yX1_goOn ∈ lwg := lwg_in (tin_4 (List.mem_of_getElem? (i := 147) rfl)) rfl
theorem wd604 : Cond.code yX1_goOn cX1_goOn 2 none ∈ lwg := lwg_in (tin_4 (List.mem_of_getElem? (i := 148) rfl)) rfl
theorem wd605 : Cond.methodLink RX1 83 yX1_standsStill ∈ lwg := lwg_in (tin_4 (List.mem_of_getElem? (i := 149) rfl)) rfl
theorem wd606 : Cond.instanceMethod yX1_standsStill ∈ lwg := lwg_in (tin_4 (List.mem_of_getElem? (i := 151) rfl)) rfl
theorem wd607 : Cond.code yX1_standsStill cX1_standsStill 2 (some .boolean) ∈ lwg := lwg_in (tin_4 (List.mem_of_getElem? (i := 152) rfl)) rfl
theorem wd608 : Cond.methodLink RX1 91 yX1_draw ∈ lwg := lwg_in (tin_4 (List.mem_of_getElem? (i := 153) rfl)) rfl
theorem wd609 : Cond.instanceMethod yX1_draw ∈ lwg := lwg_in (tin_4 (List.mem_of_getElem? (i := 155) rfl)) rfl
theorem wd610 : Cond.code yX1_draw cX1_draw 1 (some .int) ∈ lwg := lwg_in (tin_4 (List.mem_of_getElem? (i := 156) rfl)) rfl
theorem wd611 : Cond.constant RX1 94 (65536 : Int32) ∈ lwg := lwg_in (tin_4 (List.mem_of_getElem? (i := 157) rfl)) rfl
theorem wd612 : Cond.methodLink RX1 87 yX1_moveBottles ∈ lwg := lwg_in (tin_4 (List.mem_of_getElem? (i := 158) rfl)) rfl
theorem wd613 : Cond.instanceMethod yX1_moveBottles ∈ lwg := lwg_in (tin_4 (List.mem_of_getElem? (i := 160) rfl)) rfl
theorem wd614 : Cond.code yX1_moveBottles cX1_moveBottles 5 (some .int) ∈ lwg := lwg_in (tin_4 (List.mem_of_getElem? (i := 161) rfl)) rfl
theorem wd615 : Cond.constant RX1 95 (1000000 : Int32) ∈ lwg := lwg_in (tin_4 (List.mem_of_getElem? (i := 162) rfl)) rfl
theorem wd616 : Cond.methodLink RX1 96 yJ9_min_7cf53 ∈ lwg := lwg_in (tin_4 (List.mem_of_getElem? (i := 163) rfl)) rfl
theorem wd617 : Cond.methodLink RX1 80 yX1_countStates ∈ lwg := lwg_in (tin_4 (List.mem_of_getElem? (i := 164) rfl)) rfl
theorem wd618 : Cond.instanceMethod yX1_countStates ∈ lwg := lwg_in (tin_4 (List.mem_of_getElem? (i := 166) rfl)) rfl
theorem wd619 : Cond.code yX1_countStates cX1_countStates 2 none ∈ lwg := lwg_in (tin_4 (List.mem_of_getElem? (i := 167) rfl)) rfl
theorem wd620 : Cond.methodLink RX1 99 yX1_starverOf ∈ lwg := lwg_in (tin_4 (List.mem_of_getElem? (i := 168) rfl)) rfl
theorem wd621 : Cond.instanceMethod yX1_starverOf ∈ lwg := lwg_in (tin_4 (List.mem_of_getElem? (i := 170) rfl)) rfl
theorem wd622 : Cond.code yX1_starverOf cX1_starverOf 3 (some .int) ∈ lwg := lwg_in (tin_4 (List.mem_of_getElem? (i := 171) rfl)) rfl
theorem wd623 : Cond.methodLink RX1 102 yX1_blockerOf ∈ lwg := lwg_in (tin_4 (List.mem_of_getElem? (i := 172) rfl)) rfl
theorem wd624 : Cond.instanceMethod yX1_blockerOf ∈ lwg := lwg_in (tin_4 (List.mem_of_getElem? (i := 174) rfl)) rfl
theorem wd625 : Cond.code yX1_blockerOf cX1_blockerOf 3 (some .int) ∈ lwg := lwg_in (tin_4 (List.mem_of_getElem? (i := 175) rfl)) rfl
theorem wd626 : Cond.methodLink RL 93 yX11_minutes ∈ lwg := lwg_in (tin_4 (List.mem_of_getElem? (i := 176) rfl)) rfl
theorem wd627 : Cond.instanceMethod yX11_minutes ∈ lwg := lwg_in (tin_4 (List.mem_of_getElem? (i := 177) rfl)) rfl
theorem wd628 : Cond.selects RX11 yX11_minutes yX11_minutes ∈ lwg := lwg_in (tin_4 (List.mem_of_getElem? (i := 178) rfl)) rfl
theorem wd629 : Cond.code yX11_minutes cX11_minutes 3 (some .int) ∈ lwg := lwg_in (tin_4 (List.mem_of_getElem? (i := 179) rfl)) rfl
theorem wd630 : Cond.methodLink RL 97 yX11_blame ∈ lwg := lwg_in (tin_4 (List.mem_of_getElem? (i := 180) rfl)) rfl
theorem wd631 : Cond.instanceMethod yX11_blame ∈ lwg := lwg_in (tin_4 (List.mem_of_getElem? (i := 181) rfl)) rfl
theorem wd632 : Cond.selects RX11 yX11_blame yX11_blame ∈ lwg := lwg_in (tin_4 (List.mem_of_getElem? (i := 182) rfl)) rfl
theorem wd633 : Cond.code yX11_blame cX11_blame 3 (some .int) ∈ lwg := lwg_in (tin_4 (List.mem_of_getElem? (i := 183) rfl)) rfl
theorem wd634 : Cond.methodLink RL 101 yX11_share ∈ lwg := lwg_in (tin_4 (List.mem_of_getElem? (i := 184) rfl)) rfl
theorem wd635 : Cond.instanceMethod yX11_share ∈ lwg := lwg_in (tin_4 (List.mem_of_getElem? (i := 185) rfl)) rfl
theorem wd636 : Cond.selects RX11 yX11_share yX11_share ∈ lwg := lwg_in (tin_4 (List.mem_of_getElem? (i := 186) rfl)) rfl
theorem wd637 : Cond.code yX11_share cX11_share 2 (some .boolean) ∈ lwg := lwg_in (tin_4 (List.mem_of_getElem? (i := 187) rfl)) rfl
theorem wd638 : Cond.methodLink RX11 275 yX11_tell ∈ lwg := lwg_in (tin_4 (List.mem_of_getElem? (i := 188) rfl)) rfl
theorem wd639 : Cond.instanceMethod yX11_tell ∈ lwg := lwg_in (tin_4 (List.mem_of_getElem? (i := 190) rfl)) rfl
theorem wd640 : Cond.code yX11_tell cX11_tell 7 none ∈ lwg := lwg_in (tin_4 (List.mem_of_getElem? (i := 191) rfl)) rfl
theorem wd641 : Cond.methodLink RX11 401 yX11_commonDivisor ∈ lwg := lwg_in (tin_4 (List.mem_of_getElem? (i := 192) rfl)) rfl
theorem wd642 : Cond.static yX11_commonDivisor ∈ lwg := lwg_in (tin_4 (List.mem_of_getElem? (i := 193) rfl)) rfl
theorem wd643 : Cond.code yX11_commonDivisor cX11_commonDivisor 11 (some .long) ∈ lwg := lwg_in (tin_4 (List.mem_of_getElem? (i := 194) rfl)) rfl
theorem wd644 : Cond.methodLink RL 105 yX11_tried ∈ lwg := lwg_in (tin_4 (List.mem_of_getElem? (i := 195) rfl)) rfl
theorem wd645 : Cond.instanceMethod yX11_tried ∈ lwg := lwg_in (tin_4 (List.mem_of_getElem? (i := 196) rfl)) rfl
theorem wd646 : Cond.selects RX11 yX11_tried yX11_tried ∈ lwg := lwg_in (tin_4 (List.mem_of_getElem? (i := 197) rfl)) rfl
theorem wd647 : Cond.code yX11_tried cX11_tried 4 (some .int) ∈ lwg := lwg_in (tin_4 (List.mem_of_getElem? (i := 198) rfl)) rfl
theorem wd648 : Cond.constantLong RX11 279 (99 : Int64) ∈ lwg := lwg_in (tin_4 (List.mem_of_getElem? (i := 199) rfl)) rfl
theorem wd649 : Cond.methodLink RX11 281 yX9_madeWith ∈ lwg := lwg_in (tin_4 (List.mem_of_getElem? (i := 200) rfl)) rfl
theorem wd650 : Cond.instanceMethod yX9_madeWith ∈ lwg := lwg_in (tin_4 (List.mem_of_getElem? (i := 201) rfl)) rfl
theorem wd651 : Cond.selects RX9 yX9_madeWith yX9_madeWith ∈ lwg := lwg_in (tin_4 (List.mem_of_getElem? (i := 202) rfl)) rfl
theorem wd652 : Cond.code yX9_madeWith cX9_madeWith 5 (some .int) ∈ lwg := lwg_in (tin_4 (List.mem_of_getElem? (i := 203) rfl)) rfl
theorem wd653 : Cond.methodLink RX9 39 yX1_copy ∈ lwg := lwg_in (tin_4 (List.mem_of_getElem? (i := 204) rfl)) rfl
theorem wd654 : Cond.methodLink RX9 46 yX1_wouldMake ∈ lwg := lwg_in (tin_4 (List.mem_of_getElem? (i := 205) rfl)) rfl
theorem wd655 : Cond.instanceMethod yX1_wouldMake ∈ lwg := lwg_in (tin_4 (List.mem_of_getElem? (i := 206) rfl)) rfl
theorem wd656 : Cond.selects RX1 yX1_wouldMake yX1_wouldMake ∈ lwg := lwg_in (tin_4 (List.mem_of_getElem? (i := 207) rfl)) rfl
theorem wd657 : Cond.code yX1_wouldMake cX1_wouldMake 4 (some .int) ∈ lwg := lwg_in (tin_4 (List.mem_of_getElem? (i := 208) rfl)) rfl
theorem wd658 : Cond.methodLink RL 110 yX11_holder ∈ lwg := lwg_in (tin_4 (List.mem_of_getElem? (i := 209) rfl)) rfl
theorem wd659 : Cond.instanceMethod yX11_holder ∈ lwg := lwg_in (tin_4 (List.mem_of_getElem? (i := 210) rfl)) rfl
theorem wd660 : Cond.selects RX11 yX11_holder yX11_holder ∈ lwg := lwg_in (tin_4 (List.mem_of_getElem? (i := 211) rfl)) rfl
theorem wd661 : Cond.code yX11_holder cX11_holder 3 (some .int) ∈ lwg := lwg_in (tin_4 (List.mem_of_getElem? (i := 212) rfl)) rfl
theorem wd662 : Cond.constantLong RX11 285 (20 : Int64) ∈ lwg := lwg_in (tin_4 (List.mem_of_getElem? (i := 213) rfl)) rfl
theorem wd663 : Cond.methodLink RX11 287 yX9_findHolder ∈ lwg := lwg_in (tin_4 (List.mem_of_getElem? (i := 214) rfl)) rfl
theorem wd664 : Cond.instanceMethod yX9_findHolder ∈ lwg := lwg_in (tin_4 (List.mem_of_getElem? (i := 215) rfl)) rfl
theorem wd665 : Cond.selects RX9 yX9_findHolder yX9_findHolder ∈ lwg := lwg_in (tin_4 (List.mem_of_getElem? (i := 216) rfl)) rfl
theorem wd666 : Cond.code yX9_findHolder cX9_findHolder 9 (some .int) ∈ lwg := lwg_in (tin_4 (List.mem_of_getElem? (i := 217) rfl)) rfl
theorem wd667 : Cond.methodLink RX9 50 yX9_madeWith ∈ lwg := lwg_in (tin_4 (List.mem_of_getElem? (i := 218) rfl)) rfl
theorem wd668 : Cond.methodLink RX9 57 yX9_faster ∈ lwg := lwg_in (tin_4 (List.mem_of_getElem? (i := 219) rfl)) rfl
theorem wd669 : Cond.static yX9_faster ∈ lwg := lwg_in (tin_4 (List.mem_of_getElem? (i := 220) rfl)) rfl
theorem wd670 : Cond.code yX9_faster cX9_faster 2 (some .int) ∈ lwg := lwg_in (tin_4 (List.mem_of_getElem? (i := 221) rfl)) rfl
theorem wd671 : Cond.methodLink RX9 67 yJ9_min_7cf53 ∈ lwg := lwg_in (tin_4 (List.mem_of_getElem? (i := 222) rfl)) rfl
theorem wd672 : Cond.methodLink RL 114 yX11_gained ∈ lwg := lwg_in (tin_4 (List.mem_of_getElem? (i := 223) rfl)) rfl
theorem wd673 : Cond.instanceMethod yX11_gained ∈ lwg := lwg_in (tin_4 (List.mem_of_getElem? (i := 224) rfl)) rfl
theorem wd674 : Cond.selects RX11 yX11_gained yX11_gained ∈ lwg := lwg_in (tin_4 (List.mem_of_getElem? (i := 225) rfl)) rfl
theorem wd675 : Cond.code yX11_gained cX11_gained 1 (some .int) ∈ lwg := lwg_in (tin_4 (List.mem_of_getElem? (i := 226) rfl)) rfl
theorem wd676 : Cond.methodLink RL 118 yX11_shared ∈ lwg := lwg_in (tin_4 (List.mem_of_getElem? (i := 227) rfl)) rfl
theorem wd677 : Cond.instanceMethod yX11_shared ∈ lwg := lwg_in (tin_4 (List.mem_of_getElem? (i := 228) rfl)) rfl
theorem wd678 : Cond.selects RX11 yX11_shared yX11_shared ∈ lwg := lwg_in (tin_4 (List.mem_of_getElem? (i := 229) rfl)) rfl
theorem wd679 : Cond.code yX11_shared cX11_shared 4 (some .int) ∈ lwg := lwg_in (tin_4 (List.mem_of_getElem? (i := 230) rfl)) rfl
theorem wd680 : Cond.constantLong RX11 298 (8 : Int64) ∈ lwg := lwg_in (tin_4 (List.mem_of_getElem? (i := 231) rfl)) rfl
theorem wd681 : Cond.constantLong RX11 300 (200 : Int64) ∈ lwg := lwg_in (tin_4 (List.mem_of_getElem? (i := 232) rfl)) rfl
theorem wd682 : Cond.methodLink RX11 302 yX9_shareOut ∈ lwg := lwg_in (tin_4 (List.mem_of_getElem? (i := 233) rfl)) rfl
theorem wd683 : Cond.instanceMethod yX9_shareOut ∈ lwg := lwg_in (tin_4 (List.mem_of_getElem? (i := 234) rfl)) rfl
theorem wd684 : Cond.selects RX9 yX9_shareOut yX9_shareOut ∈ lwg := lwg_in (tin_4 (List.mem_of_getElem? (i := 235) rfl)) rfl
theorem wd685 : Cond.code yX9_shareOut cX9_shareOut 5 (some .int) ∈ lwg := lwg_in (tin_4 (List.mem_of_getElem? (i := 236) rfl)) rfl
theorem wd686 : Cond.methodLink RX9 72 yX1_tables ∈ lwg := lwg_in (tin_4 (List.mem_of_getElem? (i := 237) rfl)) rfl
theorem wd687 : Cond.methodLink RX9 75 yX9_shareFrom ∈ lwg := lwg_in (tin_4 (List.mem_of_getElem? (i := 238) rfl)) rfl
theorem wd688 : Cond.instanceMethod yX9_shareFrom ∈ lwg := lwg_in (tin_5 (List.mem_of_getElem? (i := 0) rfl)) rfl
theorem wd689 : Cond.code yX9_shareFrom cX9_shareFrom 6 none ∈ lwg := lwg_in (tin_5 (List.mem_of_getElem? (i := 1) rfl)) rfl
theorem wd690 : Cond.methodLink RX9 79 yX9_trySharing ∈ lwg := lwg_in (tin_5 (List.mem_of_getElem? (i := 2) rfl)) rfl
theorem wd691 : Cond.instanceMethod yX9_trySharing ∈ lwg := lwg_in (tin_5 (List.mem_of_getElem? (i := 4) rfl)) rfl
theorem wd692 : Cond.code yX9_trySharing cX9_trySharing 4 none ∈ lwg := lwg_in (tin_5 (List.mem_of_getElem? (i := 5) rfl)) rfl
theorem wd693 : Cond.methodLink RX9 89 yX1_start ∈ lwg := lwg_in (tin_5 (List.mem_of_getElem? (i := 6) rfl)) rfl
theorem wd694 : Cond.methodLink RX9 93 (⟨"java/lang/System", "arraycopy", "(Ljava/lang/Object;ILjava/lang/Object;II)V"⟩ : MethodName) ∈ lwg := lwg_in (tin_5 (List.mem_of_getElem? (i := 7) rfl)) rfl
theorem wd695 : Cond.methodLink RL 122 yX11_unit ∈ lwg := lwg_in (tin_5 (List.mem_of_getElem? (i := 8) rfl)) rfl
theorem wd696 : Cond.instanceMethod yX11_unit ∈ lwg := lwg_in (tin_5 (List.mem_of_getElem? (i := 9) rfl)) rfl
theorem wd697 : Cond.selects RX11 yX11_unit yX11_unit ∈ lwg := lwg_in (tin_5 (List.mem_of_getElem? (i := 10) rfl)) rfl
theorem wd698 : Cond.code yX11_unit cX11_unit 2 (some .int) ∈ lwg := lwg_in (tin_5 (List.mem_of_getElem? (i := 11) rfl)) rfl
theorem wd699 : Cond.methodLink RL 126 yX11_waits ∈ lwg := lwg_in (tin_5 (List.mem_of_getElem? (i := 12) rfl)) rfl
theorem wd700 : Cond.instanceMethod yX11_waits ∈ lwg := lwg_in (tin_5 (List.mem_of_getElem? (i := 13) rfl)) rfl
theorem wd701 : Cond.selects RX11 yX11_waits yX11_waits ∈ lwg := lwg_in (tin_5 (List.mem_of_getElem? (i := 14) rfl)) rfl
theorem wd702 : Cond.code yX11_waits cX11_waits 4 (some .int) ∈ lwg := lwg_in (tin_5 (List.mem_of_getElem? (i := 15) rfl)) rfl
theorem wd703 : Cond.methodLink RX11 310 yX9_waitsWith ∈ lwg := lwg_in (tin_5 (List.mem_of_getElem? (i := 16) rfl)) rfl
theorem wd704 : Cond.instanceMethod yX9_waitsWith ∈ lwg := lwg_in (tin_5 (List.mem_of_getElem? (i := 17) rfl)) rfl
theorem wd705 : Cond.selects RX9 yX9_waitsWith yX9_waitsWith ∈ lwg := lwg_in (tin_5 (List.mem_of_getElem? (i := 18) rfl)) rfl
theorem wd706 : Cond.code yX9_waitsWith cX9_waitsWith 7 (some .int) ∈ lwg := lwg_in (tin_5 (List.mem_of_getElem? (i := 19) rfl)) rfl
theorem wd707 : Cond.methodLink RX9 61 yX1_goOn ∈ lwg := lwg_in (tin_5 (List.mem_of_getElem? (i := 20) rfl)) rfl
theorem wd708 : Cond.methodLink RL 130 yX11_unwaited ∈ lwg := lwg_in (tin_5 (List.mem_of_getElem? (i := 21) rfl)) rfl
theorem wd709 : Cond.instanceMethod yX11_unwaited ∈ lwg := lwg_in (tin_5 (List.mem_of_getElem? (i := 22) rfl)) rfl
theorem wd710 : Cond.selects RX11 yX11_unwaited yX11_unwaited ∈ lwg := lwg_in (tin_5 (List.mem_of_getElem? (i := 23) rfl)) rfl
theorem wd711 : Cond.code yX11_unwaited cX11_unwaited 4 (some .int) ∈ lwg := lwg_in (tin_5 (List.mem_of_getElem? (i := 24) rfl)) rfl
theorem wd712 : Cond.methodLink RL 134 yX11_work ∈ lwg := lwg_in (tin_5 (List.mem_of_getElem? (i := 25) rfl)) rfl
theorem wd713 : Cond.instanceMethod yX11_work ∈ lwg := lwg_in (tin_5 (List.mem_of_getElem? (i := 26) rfl)) rfl
theorem wd714 : Cond.selects RX11 yX11_work yX11_work ∈ lwg := lwg_in (tin_5 (List.mem_of_getElem? (i := 27) rfl)) rfl
theorem wd715 : Cond.code yX11_work cX11_work 1 (some .int) ∈ lwg := lwg_in (tin_5 (List.mem_of_getElem? (i := 28) rfl)) rfl
theorem wd716 : Cond.methodLink RX11 313 yX0_doAll ∈ lwg := lwg_in (tin_5 (List.mem_of_getElem? (i := 29) rfl)) rfl
theorem wd717 : Cond.instanceMethod yX0_doAll ∈ lwg := lwg_in (tin_5 (List.mem_of_getElem? (i := 30) rfl)) rfl
theorem wd718 : Cond.selects RX0 yX0_doAll yX0_doAll ∈ lwg := lwg_in (tin_5 (List.mem_of_getElem? (i := 31) rfl)) rfl
theorem wd719 : Cond.code yX0_doAll cX0_doAll 4 none ∈ lwg := lwg_in (tin_5 (List.mem_of_getElem? (i := 32) rfl)) rfl
theorem wd720 : Cond.methodLink RX0 43 yX0_leaveBlocks ∈ lwg := lwg_in (tin_5 (List.mem_of_getElem? (i := 33) rfl)) rfl
theorem wd721 : Cond.instanceMethod yX0_leaveBlocks ∈ lwg := lwg_in (tin_5 (List.mem_of_getElem? (i := 35) rfl)) rfl
theorem wd722 : Cond.code yX0_leaveBlocks cX0_leaveBlocks 2 none ∈ lwg := lwg_in (tin_5 (List.mem_of_getElem? (i := 36) rfl)) rfl
theorem wd723 : Cond.methodLink RX0 50 yX0_doStep ∈ lwg := lwg_in (tin_5 (List.mem_of_getElem? (i := 37) rfl)) rfl
theorem wd724 : Cond.instanceMethod yX0_doStep ∈ lwg := lwg_in (tin_5 (List.mem_of_getElem? (i := 39) rfl)) rfl
theorem wd725 : Cond.code yX0_doStep cX0_doStep 4 none ∈ lwg := lwg_in (tin_5 (List.mem_of_getElem? (i := 40) rfl)) rfl
theorem wd726 : Cond.methodLink RX0 66 yX0_doRun ∈ lwg := lwg_in (tin_5 (List.mem_of_getElem? (i := 41) rfl)) rfl
theorem wd727 : Cond.instanceMethod yX0_doRun ∈ lwg := lwg_in (tin_5 (List.mem_of_getElem? (i := 43) rfl)) rfl
theorem wd728 : Cond.code yX0_doRun cX0_doRun 4 none ∈ lwg := lwg_in (tin_5 (List.mem_of_getElem? (i := 44) rfl)) rfl
theorem wd729 : Cond.methodLink RX0 82 yJ9_min_7cf53 ∈ lwg := lwg_in (tin_5 (List.mem_of_getElem? (i := 45) rfl)) rfl
theorem wd730 : Cond.methodLink RX0 88 yX1_spend ∈ lwg := lwg_in (tin_5 (List.mem_of_getElem? (i := 46) rfl)) rfl
theorem wd731 : Cond.methodLink RX0 70 yX0_enterBlock ∈ lwg := lwg_in (tin_5 (List.mem_of_getElem? (i := 47) rfl)) rfl
theorem wd732 : Cond.instanceMethod yX0_enterBlock ∈ lwg := lwg_in (tin_5 (List.mem_of_getElem? (i := 49) rfl)) rfl
theorem wd733 : Cond.code yX0_enterBlock cX0_enterBlock 4 none ∈ lwg := lwg_in (tin_5 (List.mem_of_getElem? (i := 50) rfl)) rfl
theorem wd734 : Cond.methodLink RX0 74 yX0_wasSo ∈ lwg := lwg_in (tin_5 (List.mem_of_getElem? (i := 51) rfl)) rfl
theorem wd735 : Cond.static yX0_wasSo ∈ lwg := lwg_in (tin_5 (List.mem_of_getElem? (i := 52) rfl)) rfl
theorem wd736 : Cond.code yX0_wasSo cX0_wasSo 4 (some .boolean) ∈ lwg := lwg_in (tin_5 (List.mem_of_getElem? (i := 53) rfl)) rfl
theorem wd737 : Cond.methodLink RX0 98 yX5_machineNamed ∈ lwg := lwg_in (tin_5 (List.mem_of_getElem? (i := 54) rfl)) rfl
theorem wd738 : Cond.methodLink RX0 78 yX0_handle ∈ lwg := lwg_in (tin_5 (List.mem_of_getElem? (i := 55) rfl)) rfl
theorem wd739 : Cond.static yX0_handle ∈ lwg := lwg_in (tin_5 (List.mem_of_getElem? (i := 56) rfl)) rfl
theorem wd740 : Cond.code yX0_handle cX0_handle 4 none ∈ lwg := lwg_in (tin_5 (List.mem_of_getElem? (i := 57) rfl)) rfl
theorem wd741 : Cond.methodLink RL 138 yX11_worked ∈ lwg := lwg_in (tin_5 (List.mem_of_getElem? (i := 58) rfl)) rfl
theorem wd742 : Cond.instanceMethod yX11_worked ∈ lwg := lwg_in (tin_5 (List.mem_of_getElem? (i := 59) rfl)) rfl
theorem wd743 : Cond.selects RX11 yX11_worked yX11_worked ∈ lwg := lwg_in (tin_5 (List.mem_of_getElem? (i := 60) rfl)) rfl
theorem wd744 : Cond.code yX11_worked cX11_worked 2 (some .int) ∈ lwg := lwg_in (tin_5 (List.mem_of_getElem? (i := 61) rfl)) rfl
theorem wd745 : Cond.constantLong RX11 320 (2 : Int64) ∈ lwg := lwg_in (tin_5 (List.mem_of_getElem? (i := 62) rfl)) rfl
theorem wd746 : Cond.methodLink RL 142 yX11_heads ∈ lwg := lwg_in (tin_5 (List.mem_of_getElem? (i := 63) rfl)) rfl
theorem wd747 : Cond.instanceMethod yX11_heads ∈ lwg := lwg_in (tin_5 (List.mem_of_getElem? (i := 64) rfl)) rfl
theorem wd748 : Cond.selects RX11 yX11_heads yX11_heads ∈ lwg := lwg_in (tin_5 (List.mem_of_getElem? (i := 65) rfl)) rfl
theorem wd749 : Cond.code yX11_heads cX11_heads 5 (some .int) ∈ lwg := lwg_in (tin_5 (List.mem_of_getElem? (i := 66) rfl)) rfl
theorem wd750 : Cond.methodLink RX11 334 yX11_rowLack ∈ lwg := lwg_in (tin_5 (List.mem_of_getElem? (i := 67) rfl)) rfl
theorem wd751 : Cond.instanceMethod yX11_rowLack ∈ lwg := lwg_in (tin_5 (List.mem_of_getElem? (i := 69) rfl)) rfl
theorem wd752 : Cond.code yX11_rowLack cX11_rowLack 3 (some .int) ∈ lwg := lwg_in (tin_5 (List.mem_of_getElem? (i := 70) rfl)) rfl
theorem wd753 : Cond.methodLink RX11 337 yX11_rises ∈ lwg := lwg_in (tin_5 (List.mem_of_getElem? (i := 71) rfl)) rfl
theorem wd754 : Cond.static yX11_rises ∈ lwg := lwg_in (tin_5 (List.mem_of_getElem? (i := 72) rfl)) rfl
theorem wd755 : Cond.code yX11_rises cX11_rises 4 (some .boolean) ∈ lwg := lwg_in (tin_5 (List.mem_of_getElem? (i := 73) rfl)) rfl
theorem wd756 : Cond.methodLink RX11 341 yX2_finds ∈ lwg := lwg_in (tin_5 (List.mem_of_getElem? (i := 74) rfl)) rfl
theorem wd757 : Cond.instanceMethod yX2_finds ∈ lwg := lwg_in (tin_5 (List.mem_of_getElem? (i := 75) rfl)) rfl
theorem wd758 : Cond.selects RX2 yX2_finds yX2_finds ∈ lwg := lwg_in (tin_5 (List.mem_of_getElem? (i := 76) rfl)) rfl
theorem wd759 : Cond.code yX2_finds cX2_finds 7 (some .boolean) ∈ lwg := lwg_in (tin_5 (List.mem_of_getElem? (i := 77) rfl)) rfl
theorem wd760 : Cond.methodLink RX2 28 yX2_headsAt ∈ lwg := lwg_in (tin_5 (List.mem_of_getElem? (i := 78) rfl)) rfl
theorem wd761 : Cond.static yX2_headsAt ∈ lwg := lwg_in (tin_5 (List.mem_of_getElem? (i := 79) rfl)) rfl
theorem wd762 : Cond.code yX2_headsAt cX2_headsAt 2 (some .int) ∈ lwg := lwg_in (tin_5 (List.mem_of_getElem? (i := 80) rfl)) rfl
theorem wd763 : Cond.methodLink RX2 32 yX2_coveredBy ∈ lwg := lwg_in (tin_5 (List.mem_of_getElem? (i := 81) rfl)) rfl
theorem wd764 : Cond.static yX2_coveredBy ∈ lwg := lwg_in (tin_5 (List.mem_of_getElem? (i := 82) rfl)) rfl
theorem wd765 : Cond.code yX2_coveredBy cX2_coveredBy 8 (some .long) ∈ lwg := lwg_in (tin_5 (List.mem_of_getElem? (i := 83) rfl)) rfl
theorem wd766 : Cond.constantLong RX2 58 (-1 : Int64) ∈ lwg := lwg_in (tin_5 (List.mem_of_getElem? (i := 84) rfl)) rfl
theorem wd767 : Cond.methodLink RX2 60 yJ13_bitCount_95d88 ∈ lwg := lwg_in (tin_5 (List.mem_of_getElem? (i := 85) rfl)) rfl
theorem wd768 : Cond.static yJ13_bitCount_95d88 ∈ lwg := lwg_in (tin_5 (List.mem_of_getElem? (i := 86) rfl)) rfl
theorem wd769 : Cond.code yJ13_bitCount_95d88 cJ13_bitCount_95d88 2 (some .int) ∈ lwg := lwg_in (tin_5 (List.mem_of_getElem? (i := 87) rfl)) rfl
theorem wd770 : Cond.constantLong RJ13 314 (6148914691236517205 : Int64) ∈ lwg := lwg_in (tin_5 (List.mem_of_getElem? (i := 88) rfl)) rfl
theorem wd771 : Cond.constantLong RJ13 316 (3689348814741910323 : Int64) ∈ lwg := lwg_in (tin_5 (List.mem_of_getElem? (i := 89) rfl)) rfl
theorem wd772 : Cond.constantLong RJ13 318 (1085102592571150095 : Int64) ∈ lwg := lwg_in (tin_5 (List.mem_of_getElem? (i := 90) rfl)) rfl
theorem wd773 : Cond.methodLink RX2 36 yX2_findsOne ∈ lwg := lwg_in (tin_5 (List.mem_of_getElem? (i := 91) rfl)) rfl
theorem wd774 : Cond.instanceMethod yX2_findsOne ∈ lwg := lwg_in (tin_5 (List.mem_of_getElem? (i := 93) rfl)) rfl
theorem wd775 : Cond.code yX2_findsOne cX2_findsOne 5 (some .boolean) ∈ lwg := lwg_in (tin_5 (List.mem_of_getElem? (i := 94) rfl)) rfl
theorem wd776 : Cond.methodLink RX2 66 yX2_keeps ∈ lwg := lwg_in (tin_5 (List.mem_of_getElem? (i := 95) rfl)) rfl
theorem wd777 : Cond.instanceMethod yX2_keeps ∈ lwg := lwg_in (tin_5 (List.mem_of_getElem? (i := 97) rfl)) rfl
theorem wd778 : Cond.code yX2_keeps cX2_keeps 3 (some .boolean) ∈ lwg := lwg_in (tin_5 (List.mem_of_getElem? (i := 98) rfl)) rfl
theorem wd779 : Cond.methodLink RX2 40 yX2_findsTwo ∈ lwg := lwg_in (tin_5 (List.mem_of_getElem? (i := 99) rfl)) rfl
theorem wd780 : Cond.instanceMethod yX2_findsTwo ∈ lwg := lwg_in (tin_5 (List.mem_of_getElem? (i := 101) rfl)) rfl
theorem wd781 : Cond.code yX2_findsTwo cX2_findsTwo 6 (some .boolean) ∈ lwg := lwg_in (tin_5 (List.mem_of_getElem? (i := 102) rfl)) rfl
theorem wd782 : Cond.methodLink RL 146 yX11_head ∈ lwg := lwg_in (tin_5 (List.mem_of_getElem? (i := 103) rfl)) rfl
theorem wd783 : Cond.instanceMethod yX11_head ∈ lwg := lwg_in (tin_5 (List.mem_of_getElem? (i := 104) rfl)) rfl
theorem wd784 : Cond.selects RX11 yX11_head yX11_head ∈ lwg := lwg_in (tin_5 (List.mem_of_getElem? (i := 105) rfl)) rfl
theorem wd785 : Cond.code yX11_head cX11_head 3 (some .int) ∈ lwg := lwg_in (tin_5 (List.mem_of_getElem? (i := 106) rfl)) rfl
theorem wd786 : Cond.constantLong RX11 348 (4 : Int64) ∈ lwg := lwg_in (tin_5 (List.mem_of_getElem? (i := 107) rfl)) rfl
theorem wd787 : Cond.methodLink RL 150 yX11_brief ∈ lwg := lwg_in (tin_5 (List.mem_of_getElem? (i := 108) rfl)) rfl
theorem wd788 : Cond.instanceMethod yX11_brief ∈ lwg := lwg_in (tin_5 (List.mem_of_getElem? (i := 109) rfl)) rfl
theorem wd789 : Cond.selects RX11 yX11_brief yX11_brief ∈ lwg := lwg_in (tin_5 (List.mem_of_getElem? (i := 110) rfl)) rfl
theorem wd790 : Cond.code yX11_brief cX11_brief 7 (some .int) ∈ lwg := lwg_in (tin_5 (List.mem_of_getElem? (i := 111) rfl)) rfl
theorem wd791 : Cond.constantLong RX11 359 (-999 : Int64) ∈ lwg := lwg_in (tin_5 (List.mem_of_getElem? (i := 112) rfl)) rfl
theorem wd792 : Cond.methodLink RX11 361 yX11_allWithin ∈ lwg := lwg_in (tin_5 (List.mem_of_getElem? (i := 113) rfl)) rfl
theorem wd793 : Cond.static yX11_allWithin ∈ lwg := lwg_in (tin_5 (List.mem_of_getElem? (i := 114) rfl)) rfl
theorem wd794 : Cond.code yX11_allWithin cX11_allWithin 7 (some .boolean) ∈ lwg := lwg_in (tin_5 (List.mem_of_getElem? (i := 115) rfl)) rfl
theorem wd795 : Cond.methodLink RX11 365 yX11_thrownForShort ∈ lwg := lwg_in (tin_5 (List.mem_of_getElem? (i := 116) rfl)) rfl
theorem wd796 : Cond.static yX11_thrownForShort ∈ lwg := lwg_in (tin_5 (List.mem_of_getElem? (i := 117) rfl)) rfl
theorem wd797 : Cond.code yX11_thrownForShort cX11_thrownForShort 9 (some .int) ∈ lwg := lwg_in (tin_5 (List.mem_of_getElem? (i := 118) rfl)) rfl
theorem wd798 : Cond.methodLink RL 154 yX11_glass ∈ lwg := lwg_in (tin_5 (List.mem_of_getElem? (i := 119) rfl)) rfl
theorem wd799 : Cond.instanceMethod yX11_glass ∈ lwg := lwg_in (tin_5 (List.mem_of_getElem? (i := 120) rfl)) rfl
theorem wd800 : Cond.selects RX11 yX11_glass yX11_glass ∈ lwg := lwg_in (tin_5 (List.mem_of_getElem? (i := 121) rfl)) rfl
theorem wd801 : Cond.code yX11_glass cX11_glass 6 (some .int) ∈ lwg := lwg_in (tin_5 (List.mem_of_getElem? (i := 122) rfl)) rfl
theorem wd802 : Cond.methodLink RX11 369 yX11_thrownForGlass ∈ lwg := lwg_in (tin_5 (List.mem_of_getElem? (i := 123) rfl)) rfl
theorem wd803 : Cond.instanceMethod yX11_thrownForGlass ∈ lwg := lwg_in (tin_5 (List.mem_of_getElem? (i := 125) rfl)) rfl
theorem wd804 : Cond.code yX11_thrownForGlass cX11_thrownForGlass 8 (some .int) ∈ lwg := lwg_in (tin_5 (List.mem_of_getElem? (i := 126) rfl)) rfl
theorem wd805 : Cond.methodLink RX11 405 yJ9_max_f86c9 ∈ lwg := lwg_in (tin_5 (List.mem_of_getElem? (i := 127) rfl)) rfl
theorem wd806 : Cond.static yJ9_max_f86c9 ∈ lwg := lwg_in (tin_5 (List.mem_of_getElem? (i := 128) rfl)) rfl
theorem wd807 : Cond.code yJ9_max_f86c9 cJ9_max_f86c9 4 (some .long) ∈ lwg := lwg_in (tin_5 (List.mem_of_getElem? (i := 129) rfl)) rfl
theorem wd808 : Cond.methodLink RX11 408 yX11_thrownAlready ∈ lwg := lwg_in (tin_5 (List.mem_of_getElem? (i := 130) rfl)) rfl
theorem wd809 : Cond.instanceMethod yX11_thrownAlready ∈ lwg := lwg_in (tin_5 (List.mem_of_getElem? (i := 132) rfl)) rfl
theorem wd810 : Cond.code yX11_thrownAlready cX11_thrownAlready 6 (some .boolean) ∈ lwg := lwg_in (tin_5 (List.mem_of_getElem? (i := 133) rfl)) rfl
theorem wd811 : Cond.methodLink RX11 412 yJ9_abs_067f4 ∈ lwg := lwg_in (tin_5 (List.mem_of_getElem? (i := 134) rfl)) rfl
theorem wd812 : Cond.static yJ9_abs_067f4 ∈ lwg := lwg_in (tin_5 (List.mem_of_getElem? (i := 135) rfl)) rfl
theorem wd813 : Cond.code yJ9_abs_067f4 cJ9_abs_067f4 2 (some .long) ∈ lwg := lwg_in (tin_5 (List.mem_of_getElem? (i := 136) rfl)) rfl
theorem wd814 : Cond.methodLink RL 158 yX11_order ∈ lwg := lwg_in (tin_5 (List.mem_of_getElem? (i := 137) rfl)) rfl
theorem wd815 : Cond.instanceMethod yX11_order ∈ lwg := lwg_in (tin_5 (List.mem_of_getElem? (i := 138) rfl)) rfl
theorem wd816 : Cond.selects RX11 yX11_order yX11_order ∈ lwg := lwg_in (tin_5 (List.mem_of_getElem? (i := 139) rfl)) rfl
theorem wd817 : Cond.code yX11_order cX11_order 3 (some .int) ∈ lwg := lwg_in (tin_5 (List.mem_of_getElem? (i := 140) rfl)) rfl
theorem wd818 : Cond.methodLink RX11 373 yX10_findOrder ∈ lwg := lwg_in (tin_5 (List.mem_of_getElem? (i := 141) rfl)) rfl
theorem wd819 : Cond.instanceMethod yX10_findOrder ∈ lwg := lwg_in (tin_5 (List.mem_of_getElem? (i := 142) rfl)) rfl
theorem wd820 : Cond.selects RX10 yX10_findOrder yX10_findOrder ∈ lwg := lwg_in (tin_5 (List.mem_of_getElem? (i := 143) rfl)) rfl
theorem wd821 : Cond.code yX10_findOrder cX10_findOrder 4 (some .int) ∈ lwg := lwg_in (tin_5 (List.mem_of_getElem? (i := 144) rfl)) rfl
theorem wd822 : Cond.methodLink RX10 25 yJ6_bitCount_0f7a4 ∈ lwg := lwg_in (tin_5 (List.mem_of_getElem? (i := 145) rfl)) rfl
theorem wd823 : Cond.static yJ6_bitCount_0f7a4 ∈ lwg := lwg_in (tin_5 (List.mem_of_getElem? (i := 146) rfl)) rfl
theorem wd824 : Cond.code yJ6_bitCount_0f7a4 cJ6_bitCount_0f7a4 1 (some .int) ∈ lwg := lwg_in (tin_5 (List.mem_of_getElem? (i := 147) rfl)) rfl
theorem wd825 : Cond.constant RJ6 265 (1431655765 : Int32) ∈ lwg := lwg_in (tin_5 (List.mem_of_getElem? (i := 148) rfl)) rfl
theorem wd826 : Cond.constant RJ6 266 (858993459 : Int32) ∈ lwg := lwg_in (tin_5 (List.mem_of_getElem? (i := 149) rfl)) rfl
theorem wd827 : Cond.constant RJ6 267 (252645135 : Int32) ∈ lwg := lwg_in (tin_5 (List.mem_of_getElem? (i := 150) rfl)) rfl
theorem wd828 : Cond.constant RX10 31 (1000000 : Int32) ∈ lwg := lwg_in (tin_5 (List.mem_of_getElem? (i := 151) rfl)) rfl
theorem wd829 : Cond.methodLink RX10 32 yX10_goOnFrom ∈ lwg := lwg_in (tin_5 (List.mem_of_getElem? (i := 152) rfl)) rfl
theorem wd830 : Cond.instanceMethod yX10_goOnFrom ∈ lwg := lwg_in (tin_5 (List.mem_of_getElem? (i := 154) rfl)) rfl
theorem wd831 : Cond.code yX10_goOnFrom cX10_goOnFrom 7 none ∈ lwg := lwg_in (tin_5 (List.mem_of_getElem? (i := 155) rfl)) rfl
theorem wd832 : Cond.methodLink RX10 36 (⟨"java/lang/System", "arraycopy", "(Ljava/lang/Object;ILjava/lang/Object;II)V"⟩ : MethodName) ∈ lwg := lwg_in (tin_5 (List.mem_of_getElem? (i := 156) rfl)) rfl
theorem wd833 : Cond.methodLink RX10 47 yX5_washMinutes ∈ lwg := lwg_in (tin_5 (List.mem_of_getElem? (i := 157) rfl)) rfl
theorem wd834 : Cond.methodLink RL 162 yX11_ordered ∈ lwg := lwg_in (tin_5 (List.mem_of_getElem? (i := 158) rfl)) rfl
theorem wd835 : Cond.instanceMethod yX11_ordered ∈ lwg := lwg_in (tin_5 (List.mem_of_getElem? (i := 159) rfl)) rfl
theorem wd836 : Cond.selects RX11 yX11_ordered yX11_ordered ∈ lwg := lwg_in (tin_5 (List.mem_of_getElem? (i := 160) rfl)) rfl
theorem wd837 : Cond.code yX11_ordered cX11_ordered 2 (some .int) ∈ lwg := lwg_in (tin_5 (List.mem_of_getElem? (i := 161) rfl)) rfl
theorem wd838 : Cond.methodLink RL 166 yX11_closes ∈ lwg := lwg_in (tin_5 (List.mem_of_getElem? (i := 162) rfl)) rfl
theorem wd839 : Cond.instanceMethod yX11_closes ∈ lwg := lwg_in (tin_5 (List.mem_of_getElem? (i := 163) rfl)) rfl
theorem wd840 : Cond.selects RX11 yX11_closes yX11_closes ∈ lwg := lwg_in (tin_5 (List.mem_of_getElem? (i := 164) rfl)) rfl
theorem wd841 : Cond.code yX11_closes cX11_closes 6 (some .int) ∈ lwg := lwg_in (tin_5 (List.mem_of_getElem? (i := 165) rfl)) rfl
theorem wd842 : Cond.constantLong RX11 383 (1000000 : Int64) ∈ lwg := lwg_in (tin_5 (List.mem_of_getElem? (i := 166) rfl)) rfl
theorem wd843 : Cond.methodLink RL 170 yX11_recall ∈ lwg := lwg_in (tin_5 (List.mem_of_getElem? (i := 167) rfl)) rfl
theorem wd844 : Cond.instanceMethod yX11_recall ∈ lwg := lwg_in (tin_5 (List.mem_of_getElem? (i := 168) rfl)) rfl
theorem wd845 : Cond.selects RX11 yX11_recall yX11_recall ∈ lwg := lwg_in (tin_5 (List.mem_of_getElem? (i := 169) rfl)) rfl
theorem wd846 : Cond.code yX11_recall cX11_recall 11 (some .int) ∈ lwg := lwg_in (tin_5 (List.mem_of_getElem? (i := 170) rfl)) rfl
theorem wd847 : Cond.methodLink RL 175 yX11_shifts ∈ lwg := lwg_in (tin_5 (List.mem_of_getElem? (i := 171) rfl)) rfl
theorem wd848 : Cond.instanceMethod yX11_shifts ∈ lwg := lwg_in (tin_5 (List.mem_of_getElem? (i := 172) rfl)) rfl
theorem wd849 : Cond.selects RX11 yX11_shifts yX11_shifts ∈ lwg := lwg_in (tin_5 (List.mem_of_getElem? (i := 173) rfl)) rfl
theorem wd850 : Cond.code yX11_shifts cX11_shifts 5 (some .int) ∈ lwg := lwg_in (tin_5 (List.mem_of_getElem? (i := 174) rfl)) rfl
theorem wd851 : Cond.constantLong RX11 385 (999 : Int64) ∈ lwg := lwg_in (tin_5 (List.mem_of_getElem? (i := 175) rfl)) rfl
theorem wd852 : Cond.methodLink RX11 387 yX4_pack ∈ lwg := lwg_in (tin_5 (List.mem_of_getElem? (i := 176) rfl)) rfl
theorem wd853 : Cond.instanceMethod yX4_pack ∈ lwg := lwg_in (tin_5 (List.mem_of_getElem? (i := 177) rfl)) rfl
theorem wd854 : Cond.selects RX4 yX4_pack yX4_pack ∈ lwg := lwg_in (tin_5 (List.mem_of_getElem? (i := 178) rfl)) rfl
theorem wd855 : Cond.code yX4_pack cX4_pack 5 (some .int) ∈ lwg := lwg_in (tin_5 (List.mem_of_getElem? (i := 179) rfl)) rfl
theorem wd856 : Cond.methodLink RX4 21 yJ7_fill_d0a16 ∈ lwg := lwg_in (tin_5 (List.mem_of_getElem? (i := 180) rfl)) rfl
theorem wd857 : Cond.methodLink RX4 27 yX4_fits ∈ lwg := lwg_in (tin_5 (List.mem_of_getElem? (i := 181) rfl)) rfl
theorem wd858 : Cond.instanceMethod yX4_fits ∈ lwg := lwg_in (tin_5 (List.mem_of_getElem? (i := 183) rfl)) rfl
theorem wd859 : Cond.code yX4_fits cX4_fits 7 (some .boolean) ∈ lwg := lwg_in (tin_5 (List.mem_of_getElem? (i := 184) rfl)) rfl
theorem wd860 : Cond.methodLink RX4 31 yJ9_max_7cf53 ∈ lwg := lwg_in (tin_5 (List.mem_of_getElem? (i := 185) rfl)) rfl
theorem wd861 : Cond.methodLink RL 179 yX11_shiftOf ∈ lwg := lwg_in (tin_5 (List.mem_of_getElem? (i := 186) rfl)) rfl
theorem wd862 : Cond.instanceMethod yX11_shiftOf ∈ lwg := lwg_in (tin_5 (List.mem_of_getElem? (i := 187) rfl)) rfl
theorem wd863 : Cond.selects RX11 yX11_shiftOf yX11_shiftOf ∈ lwg := lwg_in (tin_5 (List.mem_of_getElem? (i := 188) rfl)) rfl
theorem wd864 : Cond.code yX11_shiftOf cX11_shiftOf 2 (some .int) ∈ lwg := lwg_in (tin_5 (List.mem_of_getElem? (i := 189) rfl)) rfl
theorem wd865 : Cond.methodLink RL 183 yX11_lot ∈ lwg := lwg_in (tin_5 (List.mem_of_getElem? (i := 190) rfl)) rfl
theorem wd866 : Cond.instanceMethod yX11_lot ∈ lwg := lwg_in (tin_5 (List.mem_of_getElem? (i := 191) rfl)) rfl
theorem wd867 : Cond.selects RX11 yX11_lot yX11_lot ∈ lwg := lwg_in (tin_5 (List.mem_of_getElem? (i := 192) rfl)) rfl
theorem wd868 : Cond.code yX11_lot cX11_lot 7 (some .int) ∈ lwg := lwg_in (tin_5 (List.mem_of_getElem? (i := 193) rfl)) rfl
theorem wd869 : Cond.constantLong RX11 397 (30 : Int64) ∈ lwg := lwg_in (tin_5 (List.mem_of_getElem? (i := 194) rfl)) rfl
theorem wd870 : Cond.methodLink RL 187 yX11_torn ∈ lwg := lwg_in (tin_5 (List.mem_of_getElem? (i := 195) rfl)) rfl
theorem wd871 : Cond.instanceMethod yX11_torn ∈ lwg := lwg_in (tin_5 (List.mem_of_getElem? (i := 196) rfl)) rfl
theorem wd872 : Cond.selects RX11 yX11_torn yX11_torn ∈ lwg := lwg_in (tin_5 (List.mem_of_getElem? (i := 197) rfl)) rfl
theorem wd873 : Cond.code yX11_torn cX11_torn 10 (some .boolean) ∈ lwg := lwg_in (tin_5 (List.mem_of_getElem? (i := 198) rfl)) rfl
theorem wd874 : Cond.constantLong RX11 399 (-1 : Int64) ∈ lwg := lwg_in (tin_5 (List.mem_of_getElem? (i := 199) rfl)) rfl
theorem wd875 : Cond.methodLink RL 191 yX11_mark ∈ lwg := lwg_in (tin_5 (List.mem_of_getElem? (i := 200) rfl)) rfl
theorem wd876 : Cond.instanceMethod yX11_mark ∈ lwg := lwg_in (tin_5 (List.mem_of_getElem? (i := 201) rfl)) rfl
theorem wd877 : Cond.selects RX11 yX11_mark yX11_mark ∈ lwg := lwg_in (tin_5 (List.mem_of_getElem? (i := 202) rfl)) rfl
theorem wd878 : Cond.code yX11_mark cX11_mark 1 (some .int) ∈ lwg := lwg_in (tin_5 (List.mem_of_getElem? (i := 203) rfl)) rfl
theorem wd879 : Cond.methodLink RL 195 yX11_back ∈ lwg := lwg_in (tin_5 (List.mem_of_getElem? (i := 204) rfl)) rfl
theorem wd880 : Cond.instanceMethod yX11_back ∈ lwg := lwg_in (tin_5 (List.mem_of_getElem? (i := 205) rfl)) rfl
theorem wd881 : Cond.selects RX11 yX11_back yX11_back ∈ lwg := lwg_in (tin_5 (List.mem_of_getElem? (i := 206) rfl)) rfl
theorem wd882 : Cond.code yX11_back cX11_back 1 (some .int) ∈ lwg := lwg_in (tin_5 (List.mem_of_getElem? (i := 207) rfl)) rfl
theorem wd883 : Cond.classLink RL 10 "BottleLineModel" ∈ lwg := lwg_in (tin_5 (List.mem_of_getElem? (i := 208) rfl)) rfl
theorem wd884 : Cond.instantiable RX12 51 ∈ lwg := lwg_in (tin_5 (List.mem_of_getElem? (i := 209) rfl)) rfl
theorem wd885 : Cond.methodLink RL 12 yX12_init ∈ lwg := lwg_in (tin_5 (List.mem_of_getElem? (i := 210) rfl)) rfl
theorem wd886 : Cond.instanceMethod yX12_init ∈ lwg := lwg_in (tin_5 (List.mem_of_getElem? (i := 211) rfl)) rfl
theorem wd887 : Cond.code yX12_init cX12_init 1 none ∈ lwg := lwg_in (tin_5 (List.mem_of_getElem? (i := 212) rfl)) rfl
theorem wd888 : Cond.methodLink RX12 1 (⟨"java/lang/Object", "<init>", "()V"⟩ : MethodName) ∈ lwg := lwg_in (tin_5 (List.mem_of_getElem? (i := 213) rfl)) rfl
theorem wd889 : Cond.fieldLink RX12 7 "BottleLineModel" "at" "[J" ∈ lwg := lwg_in (tin_5 (List.mem_of_getElem? (i := 214) rfl)) rfl
theorem wd890 : Cond.fieldLink RX12 102 "BottleLineModel" "status" "I" ∈ lwg := lwg_in (tin_5 (List.mem_of_getElem? (i := 215) rfl)) rfl
theorem wd891 : Cond.fieldLink RX12 105 "BottleLineModel" "top" "J" ∈ lwg := lwg_in (tin_5 (List.mem_of_getElem? (i := 216) rfl)) rfl
theorem wd892 : Cond.fieldLink RX12 13 "BottleLineModel" "bottom" "J" ∈ lwg := lwg_in (tin_5 (List.mem_of_getElem? (i := 217) rfl)) rfl
theorem wd893 : Cond.fieldLink RX12 17 "BottleLineModel" "sort" "[I" ∈ lwg := lwg_in (tin_5 (List.mem_of_getElem? (i := 218) rfl)) rfl
theorem wd894 : Cond.fieldLink RX12 21 "BottleLineModel" "trayMany" "[I" ∈ lwg := lwg_in (tin_5 (List.mem_of_getElem? (i := 219) rfl)) rfl
theorem wd895 : Cond.fieldLink RX12 24 "BottleLineModel" "trays" "[J" ∈ lwg := lwg_in (tin_5 (List.mem_of_getElem? (i := 220) rfl)) rfl
theorem wd896 : Cond.fieldLink RX12 27 "BottleLineModel" "tape" "[B" ∈ lwg := lwg_in (tin_5 (List.mem_of_getElem? (i := 221) rfl)) rfl
theorem wd897 : Cond.fieldLink RX12 31 "BottleLineModel" "text" "[B" ∈ lwg := lwg_in (tin_5 (List.mem_of_getElem? (i := 222) rfl)) rfl
theorem wd898 : Cond.fieldLink RX12 129 "BottleLineModel" "taped" "I" ∈ lwg := lwg_in (tin_5 (List.mem_of_getElem? (i := 223) rfl)) rfl
theorem wd899 : Cond.fieldLink RX12 136 "BottleLineModel" "size" "I" ∈ lwg := lwg_in (tin_5 (List.mem_of_getElem? (i := 224) rfl)) rfl
theorem wd900 : Cond.fieldLink RX12 152 "BottleLineModel" "token" "I" ∈ lwg := lwg_in (tin_5 (List.mem_of_getElem? (i := 225) rfl)) rfl
theorem wd901 : Cond.fieldLink RX12 146 "BottleLineModel" "from" "I" ∈ lwg := lwg_in (tin_5 (List.mem_of_getElem? (i := 226) rfl)) rfl
theorem wd902 : Cond.fieldLink RX12 139 "BottleLineModel" "end" "I" ∈ lwg := lwg_in (tin_5 (List.mem_of_getElem? (i := 227) rfl)) rfl
theorem wd903 : Cond.fieldLink RX12 149 "BottleLineModel" "value" "I" ∈ lwg := lwg_in (tin_5 (List.mem_of_getElem? (i := 228) rfl)) rfl
theorem wd904 : Cond.fieldLink RX12 34 "BottleLineModel" "faultKind" "I" ∈ lwg := lwg_in (tin_5 (List.mem_of_getElem? (i := 229) rfl)) rfl
theorem wd905 : Cond.fieldLink RX12 38 "BottleLineModel" "faultPlace" "I" ∈ lwg := lwg_in (tin_5 (List.mem_of_getElem? (i := 230) rfl)) rfl
theorem wd906 : Cond.fieldLink RX12 177 "BottleLineModel" "faults" "I" ∈ lwg := lwg_in (tin_5 (List.mem_of_getElem? (i := 231) rfl)) rfl
theorem wd907 : Cond.fieldLink RX12 41 "BottleLineModel" "sortName" "[J" ∈ lwg := lwg_in (tin_5 (List.mem_of_getElem? (i := 232) rfl)) rfl
theorem wd908 : Cond.fieldLink RX12 44 "BottleLineModel" "isTold" "[Z" ∈ lwg := lwg_in (tin_5 (List.mem_of_getElem? (i := 233) rfl)) rfl
theorem wd909 : Cond.fieldLink RX12 48 "BottleLineModel" "opened" "[I" ∈ lwg := lwg_in (tin_5 (List.mem_of_getElem? (i := 234) rfl)) rfl
theorem wd910 : Cond.fieldLink RX12 256 "BottleLineModel" "depth" "I" ∈ lwg := lwg_in (tin_5 (List.mem_of_getElem? (i := 235) rfl)) rfl
theorem wd911 : Cond.fieldLink RX12 259 "BottleLineModel" "steps" "I" ∈ lwg := lwg_in (tin_5 (List.mem_of_getElem? (i := 236) rfl)) rfl
theorem wd912 : Cond.fieldLink RX12 333 "BottleLineModel" "gain" "J" ∈ lwg := lwg_in (tin_5 (List.mem_of_getElem? (i := 237) rfl)) rfl
theorem wd913 : Cond.fieldLink RX12 336 "BottleLineModel" "isHeld" "Z" ∈ lwg := lwg_in (tin_5 (List.mem_of_getElem? (i := 238) rfl)) rfl
theorem wd914 : Cond.fieldLink RX12 51 "BottleLineModel" "units" "[I" ∈ lwg := lwg_in (tin_5 (List.mem_of_getElem? (i := 239) rfl)) rfl
theorem wd915 : Cond.fieldLink RX12 54 "BottleLineModel" "bestUnits" "[I" ∈ lwg := lwg_in (tin_6 (List.mem_of_getElem? (i := 0) rfl)) rfl
theorem wd916 : Cond.fieldLink RX12 346 "BottleLineModel" "unitMany" "I" ∈ lwg := lwg_in (tin_6 (List.mem_of_getElem? (i := 1) rfl)) rfl
theorem wd917 : Cond.fieldLink RX12 57 "BottleLineModel" "rounds" "[I" ∈ lwg := lwg_in (tin_6 (List.mem_of_getElem? (i := 2) rfl)) rfl
theorem wd918 : Cond.fieldLink RX12 349 "BottleLineModel" "ranMinutes" "I" ∈ lwg := lwg_in (tin_6 (List.mem_of_getElem? (i := 3) rfl)) rfl
theorem wd919 : Cond.fieldLink RX12 60 "BottleLineModel" "ranOver" "I" ∈ lwg := lwg_in (tin_6 (List.mem_of_getElem? (i := 4) rfl)) rfl
theorem wd920 : Cond.fieldLink RX12 355 "BottleLineModel" "ranMade" "J" ∈ lwg := lwg_in (tin_6 (List.mem_of_getElem? (i := 5) rfl)) rfl
theorem wd921 : Cond.fieldLink RX12 352 "BottleLineModel" "isCut" "Z" ∈ lwg := lwg_in (tin_6 (List.mem_of_getElem? (i := 6) rfl)) rfl
theorem wd922 : Cond.fieldLink RX12 63 "BottleLineModel" "isWrong" "[Z" ∈ lwg := lwg_in (tin_6 (List.mem_of_getElem? (i := 7) rfl)) rfl
theorem wd923 : Cond.fieldLink RX12 66 "BottleLineModel" "headMachine" "[I" ∈ lwg := lwg_in (tin_6 (List.mem_of_getElem? (i := 8) rfl)) rfl
theorem wd924 : Cond.fieldLink RX12 69 "BottleLineModel" "headNumber" "[I" ∈ lwg := lwg_in (tin_6 (List.mem_of_getElem? (i := 9) rfl)) rfl
theorem wd925 : Cond.fieldLink RX12 72 "BottleLineModel" "headHas" "[I" ∈ lwg := lwg_in (tin_6 (List.mem_of_getElem? (i := 10) rfl)) rfl
theorem wd926 : Cond.fieldLink RX12 75 "BottleLineModel" "wrongAt" "[I" ∈ lwg := lwg_in (tin_6 (List.mem_of_getElem? (i := 11) rfl)) rfl
theorem wd927 : Cond.fieldLink RX12 78 "BottleLineModel" "firstSet" "[I" ∈ lwg := lwg_in (tin_6 (List.mem_of_getElem? (i := 12) rfl)) rfl
theorem wd928 : Cond.fieldLink RX12 371 "BottleLineModel" "headMany" "I" ∈ lwg := lwg_in (tin_6 (List.mem_of_getElem? (i := 13) rfl)) rfl
theorem wd929 : Cond.fieldLink RX12 374 "BottleLineModel" "headSets" "I" ∈ lwg := lwg_in (tin_6 (List.mem_of_getElem? (i := 14) rfl)) rfl
theorem wd930 : Cond.fieldLink RX12 81 "BottleLineModel" "headsTold" "I" ∈ lwg := lwg_in (tin_6 (List.mem_of_getElem? (i := 15) rfl)) rfl
theorem wd931 : Cond.fieldLink RX12 84 "BottleLineModel" "isThrown" "[Z" ∈ lwg := lwg_in (tin_6 (List.mem_of_getElem? (i := 16) rfl)) rfl
theorem wd932 : Cond.fieldLink RX12 87 "BottleLineModel" "least" "[I" ∈ lwg := lwg_in (tin_6 (List.mem_of_getElem? (i := 17) rfl)) rfl
theorem wd933 : Cond.fieldLink RX12 90 "BottleLineModel" "orderOf" "[I" ∈ lwg := lwg_in (tin_6 (List.mem_of_getElem? (i := 18) rfl)) rfl
theorem wd934 : Cond.fieldLink RX12 404 "BottleLineModel" "orderMany" "I" ∈ lwg := lwg_in (tin_6 (List.mem_of_getElem? (i := 19) rfl)) rfl
theorem wd935 : Cond.fieldLink RX12 93 "BottleLineModel" "tryShift" "[I" ∈ lwg := lwg_in (tin_6 (List.mem_of_getElem? (i := 20) rfl)) rfl
theorem wd936 : Cond.fieldLink RX12 96 "BottleLineModel" "bestShift" "[I" ∈ lwg := lwg_in (tin_6 (List.mem_of_getElem? (i := 21) rfl)) rfl
theorem wd937 : Cond.fieldLink RX12 99 "BottleLineModel" "load" "[I" ∈ lwg := lwg_in (tin_6 (List.mem_of_getElem? (i := 22) rfl)) rfl
theorem wd938 : Cond.fieldLink RX12 417 "BottleLineModel" "repairMany" "I" ∈ lwg := lwg_in (tin_6 (List.mem_of_getElem? (i := 23) rfl)) rfl
theorem wd939 : Cond.fieldLink RX12 420 "BottleLineModel" "marks" "I" ∈ lwg := lwg_in (tin_6 (List.mem_of_getElem? (i := 24) rfl)) rfl
theorem wd940 : Cond.arrayClass .boolean ∈ lwg := lwg_in (tin_6 (List.mem_of_getElem? (i := 128) rfl)) rfl
theorem wd941 : Cond.methodLink RL 17 yX12_status ∈ lwg := lwg_in (tin_6 (List.mem_of_getElem? (i := 129) rfl)) rfl
theorem wd942 : Cond.instanceMethod yX12_status ∈ lwg := lwg_in (tin_6 (List.mem_of_getElem? (i := 130) rfl)) rfl
theorem wd943 : Cond.selects RX12 yX12_status yX12_status ∈ lwg := lwg_in (tin_6 (List.mem_of_getElem? (i := 131) rfl)) rfl
theorem wd944 : Cond.code yX12_status cX12_status 1 (some .int) ∈ lwg := lwg_in (tin_6 (List.mem_of_getElem? (i := 132) rfl)) rfl
theorem wd945 : Cond.methodLink RL 22 yX12_top ∈ lwg := lwg_in (tin_6 (List.mem_of_getElem? (i := 133) rfl)) rfl
theorem wd946 : Cond.instanceMethod yX12_top ∈ lwg := lwg_in (tin_6 (List.mem_of_getElem? (i := 134) rfl)) rfl
theorem wd947 : Cond.selects RX12 yX12_top yX12_top ∈ lwg := lwg_in (tin_6 (List.mem_of_getElem? (i := 135) rfl)) rfl
theorem wd948 : Cond.code yX12_top cX12_top 1 (some .long) ∈ lwg := lwg_in (tin_6 (List.mem_of_getElem? (i := 136) rfl)) rfl
theorem wd949 : Cond.methodLink RL 26 yX12_bottom ∈ lwg := lwg_in (tin_6 (List.mem_of_getElem? (i := 137) rfl)) rfl
theorem wd950 : Cond.instanceMethod yX12_bottom ∈ lwg := lwg_in (tin_6 (List.mem_of_getElem? (i := 138) rfl)) rfl
theorem wd951 : Cond.selects RX12 yX12_bottom yX12_bottom ∈ lwg := lwg_in (tin_6 (List.mem_of_getElem? (i := 139) rfl)) rfl
theorem wd952 : Cond.code yX12_bottom cX12_bottom 1 (some .long) ∈ lwg := lwg_in (tin_6 (List.mem_of_getElem? (i := 140) rfl)) rfl
theorem wd953 : Cond.methodLink RL 31 yX12_tray ∈ lwg := lwg_in (tin_6 (List.mem_of_getElem? (i := 141) rfl)) rfl
theorem wd954 : Cond.instanceMethod yX12_tray ∈ lwg := lwg_in (tin_6 (List.mem_of_getElem? (i := 142) rfl)) rfl
theorem wd955 : Cond.selects RX12 yX12_tray yX12_tray ∈ lwg := lwg_in (tin_6 (List.mem_of_getElem? (i := 143) rfl)) rfl
theorem wd956 : Cond.code yX12_tray cX12_tray 5 (some .boolean) ∈ lwg := lwg_in (tin_6 (List.mem_of_getElem? (i := 144) rfl)) rfl
theorem wd957 : Cond.methodLink RX12 108 yX12_isTray ∈ lwg := lwg_in (tin_6 (List.mem_of_getElem? (i := 145) rfl)) rfl
theorem wd958 : Cond.static yX12_isTray ∈ lwg := lwg_in (tin_6 (List.mem_of_getElem? (i := 146) rfl)) rfl
theorem wd959 : Cond.code yX12_isTray cX12_isTray 1 (some .boolean) ∈ lwg := lwg_in (tin_6 (List.mem_of_getElem? (i := 147) rfl)) rfl
theorem wd960 : Cond.methodLink RX12 112 yX12_is ∈ lwg := lwg_in (tin_6 (List.mem_of_getElem? (i := 148) rfl)) rfl
theorem wd961 : Cond.instanceMethod yX12_is ∈ lwg := lwg_in (tin_6 (List.mem_of_getElem? (i := 150) rfl)) rfl
theorem wd962 : Cond.code yX12_is cX12_is 2 (some .boolean) ∈ lwg := lwg_in (tin_6 (List.mem_of_getElem? (i := 151) rfl)) rfl
theorem wd963 : Cond.methodLink RL 38 yX12_write ∈ lwg := lwg_in (tin_6 (List.mem_of_getElem? (i := 152) rfl)) rfl
theorem wd964 : Cond.instanceMethod yX12_write ∈ lwg := lwg_in (tin_6 (List.mem_of_getElem? (i := 153) rfl)) rfl
theorem wd965 : Cond.selects RX12 yX12_write yX12_write ∈ lwg := lwg_in (tin_6 (List.mem_of_getElem? (i := 154) rfl)) rfl
theorem wd966 : Cond.code yX12_write cX12_write 6 (some .boolean) ∈ lwg := lwg_in (tin_6 (List.mem_of_getElem? (i := 155) rfl)) rfl
theorem wd967 : Cond.methodLink RX12 115 yX12_wrongPlace ∈ lwg := lwg_in (tin_6 (List.mem_of_getElem? (i := 156) rfl)) rfl
theorem wd968 : Cond.instanceMethod yX12_wrongPlace ∈ lwg := lwg_in (tin_6 (List.mem_of_getElem? (i := 158) rfl)) rfl
theorem wd969 : Cond.code yX12_wrongPlace cX12_wrongPlace 3 (some .int) ∈ lwg := lwg_in (tin_6 (List.mem_of_getElem? (i := 159) rfl)) rfl
theorem wd970 : Cond.methodLink RX12 119 yX12_cut ∈ lwg := lwg_in (tin_6 (List.mem_of_getElem? (i := 160) rfl)) rfl
theorem wd971 : Cond.static yX12_cut ∈ lwg := lwg_in (tin_6 (List.mem_of_getElem? (i := 161) rfl)) rfl
theorem wd972 : Cond.code yX12_cut cX12_cut 3 (some .long) ∈ lwg := lwg_in (tin_6 (List.mem_of_getElem? (i := 162) rfl)) rfl
theorem wd973 : Cond.methodLink RL 43 yX12_read ∈ lwg := lwg_in (tin_6 (List.mem_of_getElem? (i := 163) rfl)) rfl
theorem wd974 : Cond.instanceMethod yX12_read ∈ lwg := lwg_in (tin_6 (List.mem_of_getElem? (i := 164) rfl)) rfl
theorem wd975 : Cond.selects RX12 yX12_read yX12_read ∈ lwg := lwg_in (tin_6 (List.mem_of_getElem? (i := 165) rfl)) rfl
theorem wd976 : Cond.code yX12_read cX12_read 3 (some .long) ∈ lwg := lwg_in (tin_6 (List.mem_of_getElem? (i := 166) rfl)) rfl
theorem wd977 : Cond.constantLong RX12 123 (-1 : Int64) ∈ lwg := lwg_in (tin_6 (List.mem_of_getElem? (i := 167) rfl)) rfl
theorem wd978 : Cond.methodLink RL 48 yX12_pour ∈ lwg := lwg_in (tin_6 (List.mem_of_getElem? (i := 168) rfl)) rfl
theorem wd979 : Cond.instanceMethod yX12_pour ∈ lwg := lwg_in (tin_6 (List.mem_of_getElem? (i := 169) rfl)) rfl
theorem wd980 : Cond.selects RX12 yX12_pour yX12_pour ∈ lwg := lwg_in (tin_6 (List.mem_of_getElem? (i := 170) rfl)) rfl
theorem wd981 : Cond.code yX12_pour cX12_pour 8 (some .boolean) ∈ lwg := lwg_in (tin_6 (List.mem_of_getElem? (i := 171) rfl)) rfl
theorem wd982 : Cond.methodLink RL 53 yX12_feed ∈ lwg := lwg_in (tin_6 (List.mem_of_getElem? (i := 172) rfl)) rfl
theorem wd983 : Cond.instanceMethod yX12_feed ∈ lwg := lwg_in (tin_6 (List.mem_of_getElem? (i := 173) rfl)) rfl
theorem wd984 : Cond.selects RX12 yX12_feed yX12_feed ∈ lwg := lwg_in (tin_6 (List.mem_of_getElem? (i := 174) rfl)) rfl
theorem wd985 : Cond.code yX12_feed cX12_feed 6 (some .int) ∈ lwg := lwg_in (tin_6 (List.mem_of_getElem? (i := 175) rfl)) rfl
theorem wd986 : Cond.methodLink RX12 132 yX12_four ∈ lwg := lwg_in (tin_6 (List.mem_of_getElem? (i := 176) rfl)) rfl
theorem wd987 : Cond.instanceMethod yX12_four ∈ lwg := lwg_in (tin_6 (List.mem_of_getElem? (i := 178) rfl)) rfl
theorem wd988 : Cond.code yX12_four cX12_four 3 none ∈ lwg := lwg_in (tin_6 (List.mem_of_getElem? (i := 179) rfl)) rfl
theorem wd989 : Cond.methodLink RL 66 yX12_fault ∈ lwg := lwg_in (tin_6 (List.mem_of_getElem? (i := 180) rfl)) rfl
theorem wd990 : Cond.instanceMethod yX12_fault ∈ lwg := lwg_in (tin_6 (List.mem_of_getElem? (i := 181) rfl)) rfl
theorem wd991 : Cond.selects RX12 yX12_fault yX12_fault ∈ lwg := lwg_in (tin_6 (List.mem_of_getElem? (i := 182) rfl)) rfl
theorem wd992 : Cond.code yX12_fault cX12_fault 2 (some .int) ∈ lwg := lwg_in (tin_6 (List.mem_of_getElem? (i := 183) rfl)) rfl
theorem wd993 : Cond.methodLink RL 58 yX12_line ∈ lwg := lwg_in (tin_6 (List.mem_of_getElem? (i := 184) rfl)) rfl
theorem wd994 : Cond.instanceMethod yX12_line ∈ lwg := lwg_in (tin_6 (List.mem_of_getElem? (i := 185) rfl)) rfl
theorem wd995 : Cond.selects RX12 yX12_line yX12_line ∈ lwg := lwg_in (tin_6 (List.mem_of_getElem? (i := 186) rfl)) rfl
theorem wd996 : Cond.code yX12_line cX12_line 4 (some .int) ∈ lwg := lwg_in (tin_6 (List.mem_of_getElem? (i := 187) rfl)) rfl
theorem wd997 : Cond.methodLink RX12 235 yX12_refuse ∈ lwg := lwg_in (tin_6 (List.mem_of_getElem? (i := 188) rfl)) rfl
theorem wd998 : Cond.instanceMethod yX12_refuse ∈ lwg := lwg_in (tin_6 (List.mem_of_getElem? (i := 190) rfl)) rfl
theorem wd999 : Cond.code yX12_refuse cX12_refuse 2 (some .int) ∈ lwg := lwg_in (tin_6 (List.mem_of_getElem? (i := 191) rfl)) rfl
theorem wd1000 : Cond.methodLink RX12 238 yX12_begins ∈ lwg := lwg_in (tin_6 (List.mem_of_getElem? (i := 192) rfl)) rfl
theorem wd1001 : Cond.instanceMethod yX12_begins ∈ lwg := lwg_in (tin_6 (List.mem_of_getElem? (i := 194) rfl)) rfl
theorem wd1002 : Cond.code yX12_begins cX12_begins 3 none ∈ lwg := lwg_in (tin_6 (List.mem_of_getElem? (i := 195) rfl)) rfl
theorem wd1003 : Cond.methodLink RX12 180 yX12_ahead ∈ lwg := lwg_in (tin_6 (List.mem_of_getElem? (i := 196) rfl)) rfl
theorem wd1004 : Cond.instanceMethod yX12_ahead ∈ lwg := lwg_in (tin_6 (List.mem_of_getElem? (i := 198) rfl)) rfl
theorem wd1005 : Cond.code yX12_ahead cX12_ahead 2 none ∈ lwg := lwg_in (tin_6 (List.mem_of_getElem? (i := 199) rfl)) rfl
theorem wd1006 : Cond.methodLink RX12 142 yX12_byteAt ∈ lwg := lwg_in (tin_6 (List.mem_of_getElem? (i := 200) rfl)) rfl
theorem wd1007 : Cond.instanceMethod yX12_byteAt ∈ lwg := lwg_in (tin_6 (List.mem_of_getElem? (i := 202) rfl)) rfl
theorem wd1008 : Cond.code yX12_byteAt cX12_byteAt 2 (some .int) ∈ lwg := lwg_in (tin_6 (List.mem_of_getElem? (i := 203) rfl)) rfl
theorem wd1009 : Cond.methodLink RX12 155 yX12_isSmall ∈ lwg := lwg_in (tin_6 (List.mem_of_getElem? (i := 204) rfl)) rfl
theorem wd1010 : Cond.static yX12_isSmall ∈ lwg := lwg_in (tin_6 (List.mem_of_getElem? (i := 205) rfl)) rfl
theorem wd1011 : Cond.code yX12_isSmall cX12_isSmall 1 (some .boolean) ∈ lwg := lwg_in (tin_6 (List.mem_of_getElem? (i := 206) rfl)) rfl
theorem wd1012 : Cond.methodLink RX12 158 yX12_isDigit ∈ lwg := lwg_in (tin_6 (List.mem_of_getElem? (i := 207) rfl)) rfl
theorem wd1013 : Cond.static yX12_isDigit ∈ lwg := lwg_in (tin_6 (List.mem_of_getElem? (i := 208) rfl)) rfl
theorem wd1014 : Cond.code yX12_isDigit cX12_isDigit 1 (some .boolean) ∈ lwg := lwg_in (tin_6 (List.mem_of_getElem? (i := 209) rfl)) rfl
theorem wd1015 : Cond.constant RX12 161 (100000 : Int32) ∈ lwg := lwg_in (tin_6 (List.mem_of_getElem? (i := 210) rfl)) rfl
theorem wd1016 : Cond.methodLink RX12 162 yJ9_min_7cf53 ∈ lwg := lwg_in (tin_6 (List.mem_of_getElem? (i := 211) rfl)) rfl
theorem wd1017 : Cond.constantLong RX12 241 (10 : Int64) ∈ lwg := lwg_in (tin_6 (List.mem_of_getElem? (i := 212) rfl)) rfl
theorem wd1018 : Cond.methodLink RX12 243 yX12_part ∈ lwg := lwg_in (tin_6 (List.mem_of_getElem? (i := 213) rfl)) rfl
theorem wd1019 : Cond.instanceMethod yX12_part ∈ lwg := lwg_in (tin_6 (List.mem_of_getElem? (i := 215) rfl)) rfl
theorem wd1020 : Cond.code yX12_part cX12_part 3 (some .boolean) ∈ lwg := lwg_in (tin_6 (List.mem_of_getElem? (i := 216) rfl)) rfl
theorem wd1021 : Cond.methodLink RX12 188 yX12_inWords ∈ lwg := lwg_in (tin_6 (List.mem_of_getElem? (i := 218) rfl)) rfl
theorem wd1022 : Cond.instanceMethod yX12_inWords ∈ lwg := lwg_in (tin_6 (List.mem_of_getElem? (i := 220) rfl)) rfl
theorem wd1023 : Cond.code yX12_inWords cX12_inWords 7 (some .int) ∈ lwg := lwg_in (tin_6 (List.mem_of_getElem? (i := 221) rfl)) rfl
theorem wd1024 : Cond.methodLink RX12 167 yJ0_length_8abf5 ∈ lwg := lwg_in (tin_6 (List.mem_of_getElem? (i := 222) rfl)) rfl
theorem wd1025 : Cond.methodLink RX12 173 yJ0_charAt_5068e ∈ lwg := lwg_in (tin_6 (List.mem_of_getElem? (i := 223) rfl)) rfl
theorem wd1026 : Cond.methodLink RX12 219 yX12_aMachine ∈ lwg := lwg_in (tin_6 (List.mem_of_getElem? (i := 224) rfl)) rfl
theorem wd1027 : Cond.instanceMethod yX12_aMachine ∈ lwg := lwg_in (tin_6 (List.mem_of_getElem? (i := 226) rfl)) rfl
theorem wd1028 : Cond.code yX12_aMachine cX12_aMachine 6 (some .boolean) ∈ lwg := lwg_in (tin_6 (List.mem_of_getElem? (i := 227) rfl)) rfl
theorem wd1029 : Cond.methodLink RX12 183 yX12_fails ∈ lwg := lwg_in (tin_6 (List.mem_of_getElem? (i := 228) rfl)) rfl
theorem wd1030 : Cond.instanceMethod yX12_fails ∈ lwg := lwg_in (tin_6 (List.mem_of_getElem? (i := 230) rfl)) rfl
theorem wd1031 : Cond.code yX12_fails cX12_fails 2 (some .boolean) ∈ lwg := lwg_in (tin_6 (List.mem_of_getElem? (i := 231) rfl)) rfl
theorem wd1032 : Cond.methodLink RX12 199 yX12_isName ∈ lwg := lwg_in (tin_6 (List.mem_of_getElem? (i := 232) rfl)) rfl
theorem wd1033 : Cond.instanceMethod yX12_isName ∈ lwg := lwg_in (tin_6 (List.mem_of_getElem? (i := 234) rfl)) rfl
theorem wd1034 : Cond.code yX12_isName cX12_isName 2 (some .boolean) ∈ lwg := lwg_in (tin_6 (List.mem_of_getElem? (i := 235) rfl)) rfl
theorem wd1035 : Cond.methodLink RX12 195 yX12_nameHere ∈ lwg := lwg_in (tin_6 (List.mem_of_getElem? (i := 236) rfl)) rfl
theorem wd1036 : Cond.instanceMethod yX12_nameHere ∈ lwg := lwg_in (tin_6 (List.mem_of_getElem? (i := 238) rfl)) rfl
theorem wd1037 : Cond.code yX12_nameHere cX12_nameHere 4 (some .long) ∈ lwg := lwg_in (tin_6 (List.mem_of_getElem? (i := 239) rfl)) rfl
theorem wd1038 : Cond.methodLink RX12 203 yX12_machineNamed ∈ lwg := lwg_in (tin_7 (List.mem_of_getElem? (i := 0) rfl)) rfl
theorem wd1039 : Cond.instanceMethod yX12_machineNamed ∈ lwg := lwg_in (tin_7 (List.mem_of_getElem? (i := 2) rfl)) rfl
theorem wd1040 : Cond.code yX12_machineNamed cX12_machineNamed 5 (some .int) ∈ lwg := lwg_in (tin_7 (List.mem_of_getElem? (i := 3) rfl)) rfl
theorem wd1041 : Cond.methodLink RX12 192 yX12_machineAt ∈ lwg := lwg_in (tin_7 (List.mem_of_getElem? (i := 4) rfl)) rfl
theorem wd1042 : Cond.static yX12_machineAt ∈ lwg := lwg_in (tin_7 (List.mem_of_getElem? (i := 5) rfl)) rfl
theorem wd1043 : Cond.code yX12_machineAt cX12_machineAt 2 (some .int) ∈ lwg := lwg_in (tin_7 (List.mem_of_getElem? (i := 6) rfl)) rfl
theorem wd1044 : Cond.constantLong RX12 207 (20 : Int64) ∈ lwg := lwg_in (tin_7 (List.mem_of_getElem? (i := 7) rfl)) rfl
theorem wd1045 : Cond.methodLink RX12 209 yX12_wantWord ∈ lwg := lwg_in (tin_7 (List.mem_of_getElem? (i := 8) rfl)) rfl
theorem wd1046 : Cond.instanceMethod yX12_wantWord ∈ lwg := lwg_in (tin_7 (List.mem_of_getElem? (i := 10) rfl)) rfl
theorem wd1047 : Cond.code yX12_wantWord cX12_wantWord 2 (some .boolean) ∈ lwg := lwg_in (tin_7 (List.mem_of_getElem? (i := 11) rfl)) rfl
theorem wd1048 : Cond.methodLink RX12 212 yX12_number ∈ lwg := lwg_in (tin_7 (List.mem_of_getElem? (i := 12) rfl)) rfl
theorem wd1049 : Cond.instanceMethod yX12_number ∈ lwg := lwg_in (tin_7 (List.mem_of_getElem? (i := 14) rfl)) rfl
theorem wd1050 : Cond.code yX12_number cX12_number 4 (some .boolean) ∈ lwg := lwg_in (tin_7 (List.mem_of_getElem? (i := 15) rfl)) rfl
theorem wd1051 : Cond.methodLink RX12 223 yX12_aTable ∈ lwg := lwg_in (tin_7 (List.mem_of_getElem? (i := 16) rfl)) rfl
theorem wd1052 : Cond.instanceMethod yX12_aTable ∈ lwg := lwg_in (tin_7 (List.mem_of_getElem? (i := 18) rfl)) rfl
theorem wd1053 : Cond.code yX12_aTable cX12_aTable 2 (some .boolean) ∈ lwg := lwg_in (tin_7 (List.mem_of_getElem? (i := 19) rfl)) rfl
theorem wd1054 : Cond.methodLink RX12 226 yX12_aSort ∈ lwg := lwg_in (tin_7 (List.mem_of_getElem? (i := 20) rfl)) rfl
theorem wd1055 : Cond.instanceMethod yX12_aSort ∈ lwg := lwg_in (tin_7 (List.mem_of_getElem? (i := 22) rfl)) rfl
theorem wd1056 : Cond.code yX12_aSort cX12_aSort 2 (some .boolean) ∈ lwg := lwg_in (tin_7 (List.mem_of_getElem? (i := 23) rfl)) rfl
theorem wd1057 : Cond.methodLink RX12 216 yX12_sortHere ∈ lwg := lwg_in (tin_7 (List.mem_of_getElem? (i := 24) rfl)) rfl
theorem wd1058 : Cond.instanceMethod yX12_sortHere ∈ lwg := lwg_in (tin_7 (List.mem_of_getElem? (i := 26) rfl)) rfl
theorem wd1059 : Cond.code yX12_sortHere cX12_sortHere 2 (some .int) ∈ lwg := lwg_in (tin_7 (List.mem_of_getElem? (i := 27) rfl)) rfl
theorem wd1060 : Cond.methodLink RX12 229 yX12_aWash ∈ lwg := lwg_in (tin_7 (List.mem_of_getElem? (i := 28) rfl)) rfl
theorem wd1061 : Cond.instanceMethod yX12_aWash ∈ lwg := lwg_in (tin_7 (List.mem_of_getElem? (i := 30) rfl)) rfl
theorem wd1062 : Cond.code yX12_aWash cX12_aWash 5 (some .boolean) ∈ lwg := lwg_in (tin_7 (List.mem_of_getElem? (i := 31) rfl)) rfl
theorem wd1063 : Cond.methodLink RX12 232 yX12_ends ∈ lwg := lwg_in (tin_7 (List.mem_of_getElem? (i := 32) rfl)) rfl
theorem wd1064 : Cond.instanceMethod yX12_ends ∈ lwg := lwg_in (tin_7 (List.mem_of_getElem? (i := 34) rfl)) rfl
theorem wd1065 : Cond.code yX12_ends cX12_ends 1 (some .boolean) ∈ lwg := lwg_in (tin_7 (List.mem_of_getElem? (i := 35) rfl)) rfl
theorem wd1066 : Cond.methodLink RX12 246 yX12_fresh ∈ lwg := lwg_in (tin_7 (List.mem_of_getElem? (i := 36) rfl)) rfl
theorem wd1067 : Cond.instanceMethod yX12_fresh ∈ lwg := lwg_in (tin_7 (List.mem_of_getElem? (i := 38) rfl)) rfl
theorem wd1068 : Cond.code yX12_fresh cX12_fresh 6 none ∈ lwg := lwg_in (tin_7 (List.mem_of_getElem? (i := 39) rfl)) rfl
theorem wd1069 : Cond.methodLink RX12 250 yX12_gives ∈ lwg := lwg_in (tin_7 (List.mem_of_getElem? (i := 40) rfl)) rfl
theorem wd1070 : Cond.instanceMethod yX12_gives ∈ lwg := lwg_in (tin_7 (List.mem_of_getElem? (i := 42) rfl)) rfl
theorem wd1071 : Cond.code yX12_gives cX12_gives 3 (some .int) ∈ lwg := lwg_in (tin_7 (List.mem_of_getElem? (i := 43) rfl)) rfl
theorem wd1072 : Cond.methodLink RL 62 yX12_shift ∈ lwg := lwg_in (tin_7 (List.mem_of_getElem? (i := 44) rfl)) rfl
theorem wd1073 : Cond.instanceMethod yX12_shift ∈ lwg := lwg_in (tin_7 (List.mem_of_getElem? (i := 45) rfl)) rfl
theorem wd1074 : Cond.selects RX12 yX12_shift yX12_shift ∈ lwg := lwg_in (tin_7 (List.mem_of_getElem? (i := 46) rfl)) rfl
theorem wd1075 : Cond.code yX12_shift cX12_shift 4 (some .int) ∈ lwg := lwg_in (tin_7 (List.mem_of_getElem? (i := 47) rfl)) rfl
theorem wd1076 : Cond.methodLink RX12 262 yX12_step ∈ lwg := lwg_in (tin_7 (List.mem_of_getElem? (i := 48) rfl)) rfl
theorem wd1077 : Cond.instanceMethod yX12_step ∈ lwg := lwg_in (tin_7 (List.mem_of_getElem? (i := 50) rfl)) rfl
theorem wd1078 : Cond.code yX12_step cX12_step 6 (some .boolean) ∈ lwg := lwg_in (tin_7 (List.mem_of_getElem? (i := 51) rfl)) rfl
theorem wd1079 : Cond.methodLink RL 70 yX12_many ∈ lwg := lwg_in (tin_7 (List.mem_of_getElem? (i := 53) rfl)) rfl
theorem wd1080 : Cond.instanceMethod yX12_many ∈ lwg := lwg_in (tin_7 (List.mem_of_getElem? (i := 54) rfl)) rfl
theorem wd1081 : Cond.selects RX12 yX12_many yX12_many ∈ lwg := lwg_in (tin_7 (List.mem_of_getElem? (i := 55) rfl)) rfl
theorem wd1082 : Cond.code yX12_many cX12_many 2 (some .int) ∈ lwg := lwg_in (tin_7 (List.mem_of_getElem? (i := 56) rfl)) rfl
theorem wd1083 : Cond.methodLink RX12 273 yX12_made ∈ lwg := lwg_in (tin_7 (List.mem_of_getElem? (i := 57) rfl)) rfl
theorem wd1084 : Cond.instanceMethod yX12_made ∈ lwg := lwg_in (tin_7 (List.mem_of_getElem? (i := 59) rfl)) rfl
theorem wd1085 : Cond.code yX12_made cX12_made 1 (some .long) ∈ lwg := lwg_in (tin_7 (List.mem_of_getElem? (i := 60) rfl)) rfl
theorem wd1086 : Cond.methodLink RX12 269 yX12_ofMachine ∈ lwg := lwg_in (tin_7 (List.mem_of_getElem? (i := 61) rfl)) rfl
theorem wd1087 : Cond.instanceMethod yX12_ofMachine ∈ lwg := lwg_in (tin_7 (List.mem_of_getElem? (i := 63) rfl)) rfl
theorem wd1088 : Cond.code yX12_ofMachine cX12_ofMachine 3 (some .long) ∈ lwg := lwg_in (tin_7 (List.mem_of_getElem? (i := 64) rfl)) rfl
theorem wd1089 : Cond.methodLink RL 75 yX12_machine ∈ lwg := lwg_in (tin_7 (List.mem_of_getElem? (i := 65) rfl)) rfl
theorem wd1090 : Cond.instanceMethod yX12_machine ∈ lwg := lwg_in (tin_7 (List.mem_of_getElem? (i := 66) rfl)) rfl
theorem wd1091 : Cond.selects RX12 yX12_machine yX12_machine ∈ lwg := lwg_in (tin_7 (List.mem_of_getElem? (i := 67) rfl)) rfl
theorem wd1092 : Cond.code yX12_machine cX12_machine 3 (some .int) ∈ lwg := lwg_in (tin_7 (List.mem_of_getElem? (i := 68) rfl)) rfl
theorem wd1093 : Cond.methodLink RX12 276 yX12_isMachine ∈ lwg := lwg_in (tin_7 (List.mem_of_getElem? (i := 69) rfl)) rfl
theorem wd1094 : Cond.instanceMethod yX12_isMachine ∈ lwg := lwg_in (tin_7 (List.mem_of_getElem? (i := 71) rfl)) rfl
theorem wd1095 : Cond.code yX12_isMachine cX12_isMachine 3 (some .boolean) ∈ lwg := lwg_in (tin_7 (List.mem_of_getElem? (i := 72) rfl)) rfl
theorem wd1096 : Cond.methodLink RL 79 yX12_table ∈ lwg := lwg_in (tin_7 (List.mem_of_getElem? (i := 73) rfl)) rfl
theorem wd1097 : Cond.instanceMethod yX12_table ∈ lwg := lwg_in (tin_7 (List.mem_of_getElem? (i := 74) rfl)) rfl
theorem wd1098 : Cond.selects RX12 yX12_table yX12_table ∈ lwg := lwg_in (tin_7 (List.mem_of_getElem? (i := 75) rfl)) rfl
theorem wd1099 : Cond.code yX12_table cX12_table 3 (some .int) ∈ lwg := lwg_in (tin_7 (List.mem_of_getElem? (i := 76) rfl)) rfl
theorem wd1100 : Cond.methodLink RX12 280 yX12_tables ∈ lwg := lwg_in (tin_7 (List.mem_of_getElem? (i := 77) rfl)) rfl
theorem wd1101 : Cond.instanceMethod yX12_tables ∈ lwg := lwg_in (tin_7 (List.mem_of_getElem? (i := 79) rfl)) rfl
theorem wd1102 : Cond.code yX12_tables cX12_tables 1 (some .int) ∈ lwg := lwg_in (tin_7 (List.mem_of_getElem? (i := 80) rfl)) rfl
theorem wd1103 : Cond.methodLink RX12 265 yJ9_max_f86c9 ∈ lwg := lwg_in (tin_7 (List.mem_of_getElem? (i := 81) rfl)) rfl
theorem wd1104 : Cond.methodLink RL 83 yX12_wash ∈ lwg := lwg_in (tin_7 (List.mem_of_getElem? (i := 82) rfl)) rfl
theorem wd1105 : Cond.instanceMethod yX12_wash ∈ lwg := lwg_in (tin_7 (List.mem_of_getElem? (i := 83) rfl)) rfl
theorem wd1106 : Cond.selects RX12 yX12_wash yX12_wash ∈ lwg := lwg_in (tin_7 (List.mem_of_getElem? (i := 84) rfl)) rfl
theorem wd1107 : Cond.code yX12_wash cX12_wash 3 (some .int) ∈ lwg := lwg_in (tin_7 (List.mem_of_getElem? (i := 85) rfl)) rfl
theorem wd1108 : Cond.methodLink RX12 283 yX12_isSort ∈ lwg := lwg_in (tin_7 (List.mem_of_getElem? (i := 86) rfl)) rfl
theorem wd1109 : Cond.instanceMethod yX12_isSort ∈ lwg := lwg_in (tin_7 (List.mem_of_getElem? (i := 88) rfl)) rfl
theorem wd1110 : Cond.code yX12_isSort cX12_isSort 2 (some .boolean) ∈ lwg := lwg_in (tin_7 (List.mem_of_getElem? (i := 89) rfl)) rfl
theorem wd1111 : Cond.methodLink RL 88 yX12_begin ∈ lwg := lwg_in (tin_7 (List.mem_of_getElem? (i := 90) rfl)) rfl
theorem wd1112 : Cond.instanceMethod yX12_begin ∈ lwg := lwg_in (tin_7 (List.mem_of_getElem? (i := 91) rfl)) rfl
theorem wd1113 : Cond.selects RX12 yX12_begin yX12_begin ∈ lwg := lwg_in (tin_7 (List.mem_of_getElem? (i := 92) rfl)) rfl
theorem wd1114 : Cond.code yX12_begin cX12_begin 2 (some .boolean) ∈ lwg := lwg_in (tin_7 (List.mem_of_getElem? (i := 93) rfl)) rfl
theorem wd1115 : Cond.constantLong RX12 286 (9999 : Int64) ∈ lwg := lwg_in (tin_7 (List.mem_of_getElem? (i := 94) rfl)) rfl
theorem wd1116 : Cond.methodLink RX12 125 yX12_isFrom ∈ lwg := lwg_in (tin_7 (List.mem_of_getElem? (i := 95) rfl)) rfl
theorem wd1117 : Cond.static yX12_isFrom ∈ lwg := lwg_in (tin_7 (List.mem_of_getElem? (i := 96) rfl)) rfl
theorem wd1118 : Cond.code yX12_isFrom cX12_isFrom 6 (some .boolean) ∈ lwg := lwg_in (tin_7 (List.mem_of_getElem? (i := 97) rfl)) rfl
theorem wd1119 : Cond.methodLink RL 92 yX12_run ∈ lwg := lwg_in (tin_7 (List.mem_of_getElem? (i := 98) rfl)) rfl
theorem wd1120 : Cond.instanceMethod yX12_run ∈ lwg := lwg_in (tin_7 (List.mem_of_getElem? (i := 99) rfl)) rfl
theorem wd1121 : Cond.selects RX12 yX12_run yX12_run ∈ lwg := lwg_in (tin_7 (List.mem_of_getElem? (i := 100) rfl)) rfl
theorem wd1122 : Cond.code yX12_run cX12_run 2 (some .int) ∈ lwg := lwg_in (tin_7 (List.mem_of_getElem? (i := 101) rfl)) rfl
theorem wd1123 : Cond.constantLong RX12 315 (600 : Int64) ∈ lwg := lwg_in (tin_7 (List.mem_of_getElem? (i := 102) rfl)) rfl
theorem wd1124 : Cond.methodLink RX12 317 yX12_runs ∈ lwg := lwg_in (tin_7 (List.mem_of_getElem? (i := 103) rfl)) rfl
theorem wd1125 : Cond.instanceMethod yX12_runs ∈ lwg := lwg_in (tin_7 (List.mem_of_getElem? (i := 105) rfl)) rfl
theorem wd1126 : Cond.code yX12_runs cX12_runs 5 (some .long) ∈ lwg := lwg_in (tin_7 (List.mem_of_getElem? (i := 106) rfl)) rfl
theorem wd1127 : Cond.methodLink RX12 312 yX12_minute ∈ lwg := lwg_in (tin_7 (List.mem_of_getElem? (i := 107) rfl)) rfl
theorem wd1128 : Cond.instanceMethod yX12_minute ∈ lwg := lwg_in (tin_7 (List.mem_of_getElem? (i := 109) rfl)) rfl
theorem wd1129 : Cond.code yX12_minute cX12_minute 5 none ∈ lwg := lwg_in (tin_7 (List.mem_of_getElem? (i := 110) rfl)) rfl
theorem wd1130 : Cond.methodLink RX12 306 yX12_stops ∈ lwg := lwg_in (tin_7 (List.mem_of_getElem? (i := 111) rfl)) rfl
theorem wd1131 : Cond.instanceMethod yX12_stops ∈ lwg := lwg_in (tin_7 (List.mem_of_getElem? (i := 113) rfl)) rfl
theorem wd1132 : Cond.code yX12_stops cX12_stops 4 none ∈ lwg := lwg_in (tin_7 (List.mem_of_getElem? (i := 114) rfl)) rfl
theorem wd1133 : Cond.methodLink RX12 296 yX12_draw ∈ lwg := lwg_in (tin_7 (List.mem_of_getElem? (i := 115) rfl)) rfl
theorem wd1134 : Cond.instanceMethod yX12_draw ∈ lwg := lwg_in (tin_7 (List.mem_of_getElem? (i := 117) rfl)) rfl
theorem wd1135 : Cond.code yX12_draw cX12_draw 2 (some .long) ∈ lwg := lwg_in (tin_7 (List.mem_of_getElem? (i := 118) rfl)) rfl
theorem wd1136 : Cond.constantLong RX12 288 (3373 : Int64) ∈ lwg := lwg_in (tin_7 (List.mem_of_getElem? (i := 119) rfl)) rfl
theorem wd1137 : Cond.constantLong RX12 290 (12289 : Int64) ∈ lwg := lwg_in (tin_7 (List.mem_of_getElem? (i := 120) rfl)) rfl
theorem wd1138 : Cond.constantLong RX12 292 (65536 : Int64) ∈ lwg := lwg_in (tin_7 (List.mem_of_getElem? (i := 121) rfl)) rfl
theorem wd1139 : Cond.constantLong RX12 294 (8 : Int64) ∈ lwg := lwg_in (tin_7 (List.mem_of_getElem? (i := 122) rfl)) rfl
theorem wd1140 : Cond.constantLong RX12 300 (3 : Int64) ∈ lwg := lwg_in (tin_7 (List.mem_of_getElem? (i := 123) rfl)) rfl
theorem wd1141 : Cond.methodLink RX12 309 yX12_moves ∈ lwg := lwg_in (tin_7 (List.mem_of_getElem? (i := 124) rfl)) rfl
theorem wd1142 : Cond.instanceMethod yX12_moves ∈ lwg := lwg_in (tin_7 (List.mem_of_getElem? (i := 126) rfl)) rfl
theorem wd1143 : Cond.code yX12_moves cX12_moves 12 none ∈ lwg := lwg_in (tin_7 (List.mem_of_getElem? (i := 127) rfl)) rfl
theorem wd1144 : Cond.methodLink RX12 302 yJ9_min_f86c9 ∈ lwg := lwg_in (tin_7 (List.mem_of_getElem? (i := 128) rfl)) rfl
theorem wd1145 : Cond.static yJ9_min_f86c9 ∈ lwg := lwg_in (tin_7 (List.mem_of_getElem? (i := 129) rfl)) rfl
theorem wd1146 : Cond.code yJ9_min_f86c9 cJ9_min_f86c9 4 (some .long) ∈ lwg := lwg_in (tin_7 (List.mem_of_getElem? (i := 130) rfl)) rfl
theorem wd1147 : Cond.constantLong RX12 304 (2 : Int64) ∈ lwg := lwg_in (tin_7 (List.mem_of_getElem? (i := 131) rfl)) rfl
theorem wd1148 : Cond.methodLink RL 96 yX12_minutes ∈ lwg := lwg_in (tin_7 (List.mem_of_getElem? (i := 132) rfl)) rfl
theorem wd1149 : Cond.instanceMethod yX12_minutes ∈ lwg := lwg_in (tin_7 (List.mem_of_getElem? (i := 133) rfl)) rfl
theorem wd1150 : Cond.selects RX12 yX12_minutes yX12_minutes ∈ lwg := lwg_in (tin_7 (List.mem_of_getElem? (i := 134) rfl)) rfl
theorem wd1151 : Cond.code yX12_minutes cX12_minutes 3 (some .int) ∈ lwg := lwg_in (tin_7 (List.mem_of_getElem? (i := 135) rfl)) rfl
theorem wd1152 : Cond.methodLink RL 100 yX12_blame ∈ lwg := lwg_in (tin_7 (List.mem_of_getElem? (i := 136) rfl)) rfl
theorem wd1153 : Cond.instanceMethod yX12_blame ∈ lwg := lwg_in (tin_7 (List.mem_of_getElem? (i := 137) rfl)) rfl
theorem wd1154 : Cond.selects RX12 yX12_blame yX12_blame ∈ lwg := lwg_in (tin_7 (List.mem_of_getElem? (i := 138) rfl)) rfl
theorem wd1155 : Cond.code yX12_blame cX12_blame 3 (some .int) ∈ lwg := lwg_in (tin_7 (List.mem_of_getElem? (i := 139) rfl)) rfl
theorem wd1156 : Cond.methodLink RL 104 yX12_share ∈ lwg := lwg_in (tin_7 (List.mem_of_getElem? (i := 140) rfl)) rfl
theorem wd1157 : Cond.instanceMethod yX12_share ∈ lwg := lwg_in (tin_7 (List.mem_of_getElem? (i := 141) rfl)) rfl
theorem wd1158 : Cond.selects RX12 yX12_share yX12_share ∈ lwg := lwg_in (tin_7 (List.mem_of_getElem? (i := 142) rfl)) rfl
theorem wd1159 : Cond.code yX12_share cX12_share 6 (some .boolean) ∈ lwg := lwg_in (tin_7 (List.mem_of_getElem? (i := 143) rfl)) rfl
theorem wd1160 : Cond.methodLink RX12 320 yX12_tells ∈ lwg := lwg_in (tin_7 (List.mem_of_getElem? (i := 144) rfl)) rfl
theorem wd1161 : Cond.instanceMethod yX12_tells ∈ lwg := lwg_in (tin_7 (List.mem_of_getElem? (i := 146) rfl)) rfl
theorem wd1162 : Cond.code yX12_tells cX12_tells 11 (some .boolean) ∈ lwg := lwg_in (tin_7 (List.mem_of_getElem? (i := 147) rfl)) rfl
theorem wd1163 : Cond.methodLink RL 109 yX12_tried ∈ lwg := lwg_in (tin_7 (List.mem_of_getElem? (i := 148) rfl)) rfl
theorem wd1164 : Cond.instanceMethod yX12_tried ∈ lwg := lwg_in (tin_7 (List.mem_of_getElem? (i := 149) rfl)) rfl
theorem wd1165 : Cond.selects RX12 yX12_tried yX12_tried ∈ lwg := lwg_in (tin_7 (List.mem_of_getElem? (i := 150) rfl)) rfl
theorem wd1166 : Cond.code yX12_tried cX12_tried 4 (some .int) ∈ lwg := lwg_in (tin_7 (List.mem_of_getElem? (i := 151) rfl)) rfl
theorem wd1167 : Cond.constantLong RX12 327 (99 : Int64) ∈ lwg := lwg_in (tin_7 (List.mem_of_getElem? (i := 152) rfl)) rfl
theorem wd1168 : Cond.methodLink RX12 329 yX12_tries ∈ lwg := lwg_in (tin_7 (List.mem_of_getElem? (i := 153) rfl)) rfl
theorem wd1169 : Cond.instanceMethod yX12_tries ∈ lwg := lwg_in (tin_7 (List.mem_of_getElem? (i := 155) rfl)) rfl
theorem wd1170 : Cond.code yX12_tries cX12_tries 7 (some .long) ∈ lwg := lwg_in (tin_7 (List.mem_of_getElem? (i := 156) rfl)) rfl
theorem wd1171 : Cond.methodLink RX12 324 yX12_copies ∈ lwg := lwg_in (tin_7 (List.mem_of_getElem? (i := 157) rfl)) rfl
theorem wd1172 : Cond.instanceMethod yX12_copies ∈ lwg := lwg_in (tin_7 (List.mem_of_getElem? (i := 159) rfl)) rfl
theorem wd1173 : Cond.code yX12_copies cX12_copies 4 none ∈ lwg := lwg_in (tin_7 (List.mem_of_getElem? (i := 160) rfl)) rfl
theorem wd1174 : Cond.methodLink RL 113 yX12_holder ∈ lwg := lwg_in (tin_7 (List.mem_of_getElem? (i := 161) rfl)) rfl
theorem wd1175 : Cond.instanceMethod yX12_holder ∈ lwg := lwg_in (tin_7 (List.mem_of_getElem? (i := 162) rfl)) rfl
theorem wd1176 : Cond.selects RX12 yX12_holder yX12_holder ∈ lwg := lwg_in (tin_7 (List.mem_of_getElem? (i := 163) rfl)) rfl
theorem wd1177 : Cond.code yX12_holder cX12_holder 9 (some .int) ∈ lwg := lwg_in (tin_7 (List.mem_of_getElem? (i := 164) rfl)) rfl
theorem wd1178 : Cond.methodLink RL 117 yX12_gained ∈ lwg := lwg_in (tin_7 (List.mem_of_getElem? (i := 165) rfl)) rfl
theorem wd1179 : Cond.instanceMethod yX12_gained ∈ lwg := lwg_in (tin_7 (List.mem_of_getElem? (i := 166) rfl)) rfl
theorem wd1180 : Cond.selects RX12 yX12_gained yX12_gained ∈ lwg := lwg_in (tin_7 (List.mem_of_getElem? (i := 167) rfl)) rfl
theorem wd1181 : Cond.code yX12_gained cX12_gained 1 (some .int) ∈ lwg := lwg_in (tin_7 (List.mem_of_getElem? (i := 168) rfl)) rfl
theorem wd1182 : Cond.methodLink RL 129 yX12_waits ∈ lwg := lwg_in (tin_7 (List.mem_of_getElem? (i := 169) rfl)) rfl
theorem wd1183 : Cond.instanceMethod yX12_waits ∈ lwg := lwg_in (tin_7 (List.mem_of_getElem? (i := 170) rfl)) rfl
theorem wd1184 : Cond.selects RX12 yX12_waits yX12_waits ∈ lwg := lwg_in (tin_7 (List.mem_of_getElem? (i := 171) rfl)) rfl
theorem wd1185 : Cond.code yX12_waits cX12_waits 4 (some .int) ∈ lwg := lwg_in (tin_7 (List.mem_of_getElem? (i := 172) rfl)) rfl
theorem wd1186 : Cond.methodLink RX12 340 yX12_waitsFor ∈ lwg := lwg_in (tin_7 (List.mem_of_getElem? (i := 173) rfl)) rfl
theorem wd1187 : Cond.instanceMethod yX12_waitsFor ∈ lwg := lwg_in (tin_7 (List.mem_of_getElem? (i := 175) rfl)) rfl
theorem wd1188 : Cond.code yX12_waitsFor cX12_waitsFor 8 (some .long) ∈ lwg := lwg_in (tin_7 (List.mem_of_getElem? (i := 176) rfl)) rfl
theorem wd1189 : Cond.methodLink RL 133 yX12_unwaited ∈ lwg := lwg_in (tin_7 (List.mem_of_getElem? (i := 177) rfl)) rfl
theorem wd1190 : Cond.instanceMethod yX12_unwaited ∈ lwg := lwg_in (tin_7 (List.mem_of_getElem? (i := 178) rfl)) rfl
theorem wd1191 : Cond.selects RX12 yX12_unwaited yX12_unwaited ∈ lwg := lwg_in (tin_7 (List.mem_of_getElem? (i := 179) rfl)) rfl
theorem wd1192 : Cond.code yX12_unwaited cX12_unwaited 4 (some .int) ∈ lwg := lwg_in (tin_7 (List.mem_of_getElem? (i := 180) rfl)) rfl
theorem wd1193 : Cond.constantLong RX12 344 (200 : Int64) ∈ lwg := lwg_in (tin_7 (List.mem_of_getElem? (i := 181) rfl)) rfl
theorem wd1194 : Cond.methodLink RL 121 yX12_shared ∈ lwg := lwg_in (tin_7 (List.mem_of_getElem? (i := 182) rfl)) rfl
theorem wd1195 : Cond.instanceMethod yX12_shared ∈ lwg := lwg_in (tin_7 (List.mem_of_getElem? (i := 183) rfl)) rfl
theorem wd1196 : Cond.selects RX12 yX12_shared yX12_shared ∈ lwg := lwg_in (tin_7 (List.mem_of_getElem? (i := 184) rfl)) rfl
theorem wd1197 : Cond.code yX12_shared cX12_shared 14 (some .int) ∈ lwg := lwg_in (tin_7 (List.mem_of_getElem? (i := 185) rfl)) rfl
theorem wd1198 : Cond.methodLink RL 125 yX12_unit ∈ lwg := lwg_in (tin_7 (List.mem_of_getElem? (i := 186) rfl)) rfl
theorem wd1199 : Cond.instanceMethod yX12_unit ∈ lwg := lwg_in (tin_7 (List.mem_of_getElem? (i := 187) rfl)) rfl
theorem wd1200 : Cond.selects RX12 yX12_unit yX12_unit ∈ lwg := lwg_in (tin_7 (List.mem_of_getElem? (i := 188) rfl)) rfl
theorem wd1201 : Cond.code yX12_unit cX12_unit 2 (some .int) ∈ lwg := lwg_in (tin_7 (List.mem_of_getElem? (i := 189) rfl)) rfl
theorem wd1202 : Cond.methodLink RL 137 yX12_work ∈ lwg := lwg_in (tin_7 (List.mem_of_getElem? (i := 190) rfl)) rfl
theorem wd1203 : Cond.instanceMethod yX12_work ∈ lwg := lwg_in (tin_7 (List.mem_of_getElem? (i := 191) rfl)) rfl
theorem wd1204 : Cond.selects RX12 yX12_work yX12_work ∈ lwg := lwg_in (tin_7 (List.mem_of_getElem? (i := 192) rfl)) rfl
theorem wd1205 : Cond.code yX12_work cX12_work 3 (some .int) ∈ lwg := lwg_in (tin_7 (List.mem_of_getElem? (i := 193) rfl)) rfl
theorem wd1206 : Cond.methodLink RX12 365 yX12_does ∈ lwg := lwg_in (tin_7 (List.mem_of_getElem? (i := 194) rfl)) rfl
theorem wd1207 : Cond.instanceMethod yX12_does ∈ lwg := lwg_in (tin_7 (List.mem_of_getElem? (i := 196) rfl)) rfl
theorem wd1208 : Cond.code yX12_does cX12_does 6 (some .int) ∈ lwg := lwg_in (tin_7 (List.mem_of_getElem? (i := 197) rfl)) rfl
theorem wd1209 : Cond.methodLink RX12 358 yX12_goes ∈ lwg := lwg_in (tin_7 (List.mem_of_getElem? (i := 198) rfl)) rfl
theorem wd1210 : Cond.instanceMethod yX12_goes ∈ lwg := lwg_in (tin_7 (List.mem_of_getElem? (i := 200) rfl)) rfl
theorem wd1211 : Cond.code yX12_goes cX12_goes 3 none ∈ lwg := lwg_in (tin_7 (List.mem_of_getElem? (i := 201) rfl)) rfl
theorem wd1212 : Cond.methodLink RX12 368 yX12_behindEnds ∈ lwg := lwg_in (tin_7 (List.mem_of_getElem? (i := 202) rfl)) rfl
theorem wd1213 : Cond.instanceMethod yX12_behindEnds ∈ lwg := lwg_in (tin_7 (List.mem_of_getElem? (i := 204) rfl)) rfl
theorem wd1214 : Cond.code yX12_behindEnds cX12_behindEnds 5 (some .int) ∈ lwg := lwg_in (tin_7 (List.mem_of_getElem? (i := 205) rfl)) rfl
theorem wd1215 : Cond.constantLong RX12 361 (6 : Int64) ∈ lwg := lwg_in (tin_7 (List.mem_of_getElem? (i := 206) rfl)) rfl
theorem wd1216 : Cond.constantLong RX12 363 (4 : Int64) ∈ lwg := lwg_in (tin_7 (List.mem_of_getElem? (i := 207) rfl)) rfl
theorem wd1217 : Cond.methodLink RL 141 yX12_worked ∈ lwg := lwg_in (tin_7 (List.mem_of_getElem? (i := 208) rfl)) rfl
theorem wd1218 : Cond.instanceMethod yX12_worked ∈ lwg := lwg_in (tin_7 (List.mem_of_getElem? (i := 209) rfl)) rfl
theorem wd1219 : Cond.selects RX12 yX12_worked yX12_worked ∈ lwg := lwg_in (tin_7 (List.mem_of_getElem? (i := 210) rfl)) rfl
theorem wd1220 : Cond.code yX12_worked cX12_worked 2 (some .int) ∈ lwg := lwg_in (tin_7 (List.mem_of_getElem? (i := 211) rfl)) rfl
theorem wd1221 : Cond.methodLink RL 145 yX12_heads ∈ lwg := lwg_in (tin_7 (List.mem_of_getElem? (i := 212) rfl)) rfl
theorem wd1222 : Cond.instanceMethod yX12_heads ∈ lwg := lwg_in (tin_7 (List.mem_of_getElem? (i := 213) rfl)) rfl
theorem wd1223 : Cond.selects RX12 yX12_heads yX12_heads ∈ lwg := lwg_in (tin_7 (List.mem_of_getElem? (i := 214) rfl)) rfl
theorem wd1224 : Cond.code yX12_heads cX12_heads 10 (some .int) ∈ lwg := lwg_in (tin_7 (List.mem_of_getElem? (i := 215) rfl)) rfl
theorem wd1225 : Cond.constantLong RX12 377 (60 : Int64) ∈ lwg := lwg_in (tin_7 (List.mem_of_getElem? (i := 216) rfl)) rfl
theorem wd1226 : Cond.methodLink RX12 379 yX12_wrongRow ∈ lwg := lwg_in (tin_7 (List.mem_of_getElem? (i := 217) rfl)) rfl
theorem wd1227 : Cond.instanceMethod yX12_wrongRow ∈ lwg := lwg_in (tin_7 (List.mem_of_getElem? (i := 219) rfl)) rfl
theorem wd1228 : Cond.code yX12_wrongRow cX12_wrongRow 10 (some .int) ∈ lwg := lwg_in (tin_7 (List.mem_of_getElem? (i := 220) rfl)) rfl
theorem wd1229 : Cond.methodLink RX12 383 yX12_takesHeads ∈ lwg := lwg_in (tin_7 (List.mem_of_getElem? (i := 221) rfl)) rfl
theorem wd1230 : Cond.instanceMethod yX12_takesHeads ∈ lwg := lwg_in (tin_7 (List.mem_of_getElem? (i := 223) rfl)) rfl
theorem wd1231 : Cond.code yX12_takesHeads cX12_takesHeads 8 none ∈ lwg := lwg_in (tin_7 (List.mem_of_getElem? (i := 224) rfl)) rfl
theorem wd1232 : Cond.methodLink RX12 386 yX12_found ∈ lwg := lwg_in (tin_7 (List.mem_of_getElem? (i := 225) rfl)) rfl
theorem wd1233 : Cond.instanceMethod yX12_found ∈ lwg := lwg_in (tin_7 (List.mem_of_getElem? (i := 227) rfl)) rfl
theorem wd1234 : Cond.code yX12_found cX12_found 3 none ∈ lwg := lwg_in (tin_7 (List.mem_of_getElem? (i := 228) rfl)) rfl
theorem wd1235 : Cond.methodLink RX12 389 yX12_bothHave ∈ lwg := lwg_in (tin_7 (List.mem_of_getElem? (i := 229) rfl)) rfl
theorem wd1236 : Cond.instanceMethod yX12_bothHave ∈ lwg := lwg_in (tin_7 (List.mem_of_getElem? (i := 231) rfl)) rfl
theorem wd1237 : Cond.code yX12_bothHave cX12_bothHave 7 (some .int) ∈ lwg := lwg_in (tin_7 (List.mem_of_getElem? (i := 232) rfl)) rfl
theorem wd1238 : Cond.methodLink RL 149 yX12_head ∈ lwg := lwg_in (tin_7 (List.mem_of_getElem? (i := 233) rfl)) rfl
theorem wd1239 : Cond.instanceMethod yX12_head ∈ lwg := lwg_in (tin_7 (List.mem_of_getElem? (i := 234) rfl)) rfl
theorem wd1240 : Cond.selects RX12 yX12_head yX12_head ∈ lwg := lwg_in (tin_7 (List.mem_of_getElem? (i := 235) rfl)) rfl
theorem wd1241 : Cond.code yX12_head cX12_head 2 (some .int) ∈ lwg := lwg_in (tin_7 (List.mem_of_getElem? (i := 236) rfl)) rfl
theorem wd1242 : Cond.methodLink RL 153 yX12_brief ∈ lwg := lwg_in (tin_7 (List.mem_of_getElem? (i := 237) rfl)) rfl
theorem wd1243 : Cond.instanceMethod yX12_brief ∈ lwg := lwg_in (tin_7 (List.mem_of_getElem? (i := 238) rfl)) rfl
theorem wd1244 : Cond.selects RX12 yX12_brief yX12_brief ∈ lwg := lwg_in (tin_7 (List.mem_of_getElem? (i := 239) rfl)) rfl
theorem wd1245 : Cond.code yX12_brief cX12_brief 14 (some .int) ∈ lwg := lwg_in (tin_8 (List.mem_of_getElem? (i := 0) rfl)) rfl
theorem wd1246 : Cond.constantLong RX12 393 (-999 : Int64) ∈ lwg := lwg_in (tin_8 (List.mem_of_getElem? (i := 1) rfl)) rfl
theorem wd1247 : Cond.methodLink RX12 395 yX12_thrownMany ∈ lwg := lwg_in (tin_8 (List.mem_of_getElem? (i := 2) rfl)) rfl
theorem wd1248 : Cond.instanceMethod yX12_thrownMany ∈ lwg := lwg_in (tin_8 (List.mem_of_getElem? (i := 4) rfl)) rfl
theorem wd1249 : Cond.code yX12_thrownMany cX12_thrownMany 4 (some .int) ∈ lwg := lwg_in (tin_8 (List.mem_of_getElem? (i := 5) rfl)) rfl
theorem wd1250 : Cond.methodLink RL 157 yX12_glass ∈ lwg := lwg_in (tin_8 (List.mem_of_getElem? (i := 6) rfl)) rfl
theorem wd1251 : Cond.instanceMethod yX12_glass ∈ lwg := lwg_in (tin_8 (List.mem_of_getElem? (i := 7) rfl)) rfl
theorem wd1252 : Cond.selects RX12 yX12_glass yX12_glass ∈ lwg := lwg_in (tin_8 (List.mem_of_getElem? (i := 8) rfl)) rfl
theorem wd1253 : Cond.code yX12_glass cX12_glass 9 (some .int) ∈ lwg := lwg_in (tin_8 (List.mem_of_getElem? (i := 9) rfl)) rfl
theorem wd1254 : Cond.methodLink RX12 398 yJ9_max_7cf53 ∈ lwg := lwg_in (tin_8 (List.mem_of_getElem? (i := 10) rfl)) rfl
theorem wd1255 : Cond.methodLink RL 161 yX12_order ∈ lwg := lwg_in (tin_8 (List.mem_of_getElem? (i := 11) rfl)) rfl
theorem wd1256 : Cond.instanceMethod yX12_order ∈ lwg := lwg_in (tin_8 (List.mem_of_getElem? (i := 12) rfl)) rfl
theorem wd1257 : Cond.selects RX12 yX12_order yX12_order ∈ lwg := lwg_in (tin_8 (List.mem_of_getElem? (i := 13) rfl)) rfl
theorem wd1258 : Cond.code yX12_order cX12_order 8 (some .int) ∈ lwg := lwg_in (tin_8 (List.mem_of_getElem? (i := 14) rfl)) rfl
theorem wd1259 : Cond.constant RX12 400 (1000000 : Int32) ∈ lwg := lwg_in (tin_8 (List.mem_of_getElem? (i := 15) rfl)) rfl
theorem wd1260 : Cond.methodLink RX12 401 yX12_bits ∈ lwg := lwg_in (tin_8 (List.mem_of_getElem? (i := 16) rfl)) rfl
theorem wd1261 : Cond.static yX12_bits ∈ lwg := lwg_in (tin_8 (List.mem_of_getElem? (i := 17) rfl)) rfl
theorem wd1262 : Cond.code yX12_bits cX12_bits 3 (some .int) ∈ lwg := lwg_in (tin_8 (List.mem_of_getElem? (i := 18) rfl)) rfl
theorem wd1263 : Cond.methodLink RL 165 yX12_ordered ∈ lwg := lwg_in (tin_8 (List.mem_of_getElem? (i := 19) rfl)) rfl
theorem wd1264 : Cond.instanceMethod yX12_ordered ∈ lwg := lwg_in (tin_8 (List.mem_of_getElem? (i := 20) rfl)) rfl
theorem wd1265 : Cond.selects RX12 yX12_ordered yX12_ordered ∈ lwg := lwg_in (tin_8 (List.mem_of_getElem? (i := 21) rfl)) rfl
theorem wd1266 : Cond.code yX12_ordered cX12_ordered 2 (some .int) ∈ lwg := lwg_in (tin_8 (List.mem_of_getElem? (i := 22) rfl)) rfl
theorem wd1267 : Cond.methodLink RL 169 yX12_closes ∈ lwg := lwg_in (tin_8 (List.mem_of_getElem? (i := 23) rfl)) rfl
theorem wd1268 : Cond.instanceMethod yX12_closes ∈ lwg := lwg_in (tin_8 (List.mem_of_getElem? (i := 24) rfl)) rfl
theorem wd1269 : Cond.selects RX12 yX12_closes yX12_closes ∈ lwg := lwg_in (tin_8 (List.mem_of_getElem? (i := 25) rfl)) rfl
theorem wd1270 : Cond.code yX12_closes cX12_closes 6 (some .int) ∈ lwg := lwg_in (tin_8 (List.mem_of_getElem? (i := 26) rfl)) rfl
theorem wd1271 : Cond.constantLong RX12 407 (1000000 : Int64) ∈ lwg := lwg_in (tin_8 (List.mem_of_getElem? (i := 27) rfl)) rfl
theorem wd1272 : Cond.methodLink RL 174 yX12_recall ∈ lwg := lwg_in (tin_8 (List.mem_of_getElem? (i := 28) rfl)) rfl
theorem wd1273 : Cond.instanceMethod yX12_recall ∈ lwg := lwg_in (tin_8 (List.mem_of_getElem? (i := 29) rfl)) rfl
theorem wd1274 : Cond.selects RX12 yX12_recall yX12_recall ∈ lwg := lwg_in (tin_8 (List.mem_of_getElem? (i := 30) rfl)) rfl
theorem wd1275 : Cond.code yX12_recall cX12_recall 12 (some .int) ∈ lwg := lwg_in (tin_8 (List.mem_of_getElem? (i := 31) rfl)) rfl
theorem wd1276 : Cond.methodLink RL 186 yX12_lot ∈ lwg := lwg_in (tin_8 (List.mem_of_getElem? (i := 32) rfl)) rfl
theorem wd1277 : Cond.instanceMethod yX12_lot ∈ lwg := lwg_in (tin_8 (List.mem_of_getElem? (i := 33) rfl)) rfl
theorem wd1278 : Cond.selects RX12 yX12_lot yX12_lot ∈ lwg := lwg_in (tin_8 (List.mem_of_getElem? (i := 34) rfl)) rfl
theorem wd1279 : Cond.code yX12_lot cX12_lot 8 (some .int) ∈ lwg := lwg_in (tin_8 (List.mem_of_getElem? (i := 35) rfl)) rfl
theorem wd1280 : Cond.constantLong RX12 409 (30 : Int64) ∈ lwg := lwg_in (tin_8 (List.mem_of_getElem? (i := 36) rfl)) rfl
theorem wd1281 : Cond.methodLink RL 190 yX12_torn ∈ lwg := lwg_in (tin_8 (List.mem_of_getElem? (i := 37) rfl)) rfl
theorem wd1282 : Cond.instanceMethod yX12_torn ∈ lwg := lwg_in (tin_8 (List.mem_of_getElem? (i := 38) rfl)) rfl
theorem wd1283 : Cond.selects RX12 yX12_torn yX12_torn ∈ lwg := lwg_in (tin_8 (List.mem_of_getElem? (i := 39) rfl)) rfl
theorem wd1284 : Cond.code yX12_torn cX12_torn 12 (some .boolean) ∈ lwg := lwg_in (tin_8 (List.mem_of_getElem? (i := 40) rfl)) rfl
theorem wd1285 : Cond.methodLink RL 178 yX12_shifts ∈ lwg := lwg_in (tin_8 (List.mem_of_getElem? (i := 41) rfl)) rfl
theorem wd1286 : Cond.instanceMethod yX12_shifts ∈ lwg := lwg_in (tin_8 (List.mem_of_getElem? (i := 42) rfl)) rfl
theorem wd1287 : Cond.selects RX12 yX12_shifts yX12_shifts ∈ lwg := lwg_in (tin_8 (List.mem_of_getElem? (i := 43) rfl)) rfl
theorem wd1288 : Cond.code yX12_shifts cX12_shifts 7 (some .int) ∈ lwg := lwg_in (tin_8 (List.mem_of_getElem? (i := 44) rfl)) rfl
theorem wd1289 : Cond.constantLong RX12 411 (999 : Int64) ∈ lwg := lwg_in (tin_8 (List.mem_of_getElem? (i := 45) rfl)) rfl
theorem wd1290 : Cond.methodLink RX12 413 yX12_holds ∈ lwg := lwg_in (tin_8 (List.mem_of_getElem? (i := 46) rfl)) rfl
theorem wd1291 : Cond.instanceMethod yX12_holds ∈ lwg := lwg_in (tin_8 (List.mem_of_getElem? (i := 48) rfl)) rfl
theorem wd1292 : Cond.code yX12_holds cX12_holds 9 (some .boolean) ∈ lwg := lwg_in (tin_8 (List.mem_of_getElem? (i := 49) rfl)) rfl
theorem wd1293 : Cond.methodLink RL 182 yX12_shiftOf ∈ lwg := lwg_in (tin_8 (List.mem_of_getElem? (i := 50) rfl)) rfl
theorem wd1294 : Cond.instanceMethod yX12_shiftOf ∈ lwg := lwg_in (tin_8 (List.mem_of_getElem? (i := 51) rfl)) rfl
theorem wd1295 : Cond.selects RX12 yX12_shiftOf yX12_shiftOf ∈ lwg := lwg_in (tin_8 (List.mem_of_getElem? (i := 52) rfl)) rfl
theorem wd1296 : Cond.code yX12_shiftOf cX12_shiftOf 2 (some .int) ∈ lwg := lwg_in (tin_8 (List.mem_of_getElem? (i := 53) rfl)) rfl
theorem wd1297 : Cond.methodLink RL 194 yX12_mark ∈ lwg := lwg_in (tin_8 (List.mem_of_getElem? (i := 54) rfl)) rfl
theorem wd1298 : Cond.instanceMethod yX12_mark ∈ lwg := lwg_in (tin_8 (List.mem_of_getElem? (i := 55) rfl)) rfl
theorem wd1299 : Cond.selects RX12 yX12_mark yX12_mark ∈ lwg := lwg_in (tin_8 (List.mem_of_getElem? (i := 56) rfl)) rfl
theorem wd1300 : Cond.code yX12_mark cX12_mark 1 (some .int) ∈ lwg := lwg_in (tin_8 (List.mem_of_getElem? (i := 57) rfl)) rfl
theorem wd1301 : Cond.methodLink RL 198 yX12_back ∈ lwg := lwg_in (tin_8 (List.mem_of_getElem? (i := 58) rfl)) rfl
theorem wd1302 : Cond.instanceMethod yX12_back ∈ lwg := lwg_in (tin_8 (List.mem_of_getElem? (i := 59) rfl)) rfl
theorem wd1303 : Cond.selects RX12 yX12_back yX12_back ∈ lwg := lwg_in (tin_8 (List.mem_of_getElem? (i := 60) rfl)) rfl
theorem wd1304 : Cond.code yX12_back cX12_back 1 (some .int) ∈ lwg := lwg_in (tin_8 (List.mem_of_getElem? (i := 61) rfl)) rfl
theorem wd1305 : Cond.constantLong RL 32 (4294967295 : Int64) ∈ lwg := lwg_in (tin_8 (List.mem_of_getElem? (i := 62) rfl)) rfl
theorem wd1306 : Cond.fieldLink RJ0 9 "java/lang/String" "value" "[B" ∈ lwg := lwg_in (tin_8 (List.mem_of_getElem? (i := 63) rfl)) rfl
theorem wd1307 : Cond.fieldLink RJ0 15 "java/lang/String" "coder" "B" ∈ lwg := lwg_in (tin_8 (List.mem_of_getElem? (i := 64) rfl)) rfl
theorem sels_in {q : MethodName × Nat} (h : q ∈ lw_privs) : Cond.selects q.1.cls q.1 q.1 ∈ lw_tbl := List.mem_append_left _ (List.mem_map.mpr ⟨q, h, rfl⟩)
theorem pin_1 {q : MethodName × Nat} (h : q ∈ lw_privs_1) : q ∈ lw_privs := List.mem_append_left _ h
theorem pin_2 {q : MethodName × Nat} (h : q ∈ lw_privs_2) : q ∈ lw_privs := List.mem_append_right _ (List.mem_append_left _ h)
theorem pin_3 {q : MethodName × Nat} (h : q ∈ lw_privs_3) : q ∈ lw_privs := List.mem_append_right _ (List.mem_append_right _ (List.mem_append_left _ h))
theorem pin_4 {q : MethodName × Nat} (h : q ∈ lw_privs_4) : q ∈ lw_privs := List.mem_append_right _ (List.mem_append_right _ (List.mem_append_right _ (List.mem_append_left _ h)))
theorem pin_5 {q : MethodName × Nat} (h : q ∈ lw_privs_5) : q ∈ lw_privs := List.mem_append_right _ (List.mem_append_right _ (List.mem_append_right _ (List.mem_append_right _ (List.mem_append_left _ h))))
theorem pin_6 {q : MethodName × Nat} (h : q ∈ lw_privs_6) : q ∈ lw_privs := List.mem_append_right _ (List.mem_append_right _ (List.mem_append_right _ (List.mem_append_right _ (List.mem_append_right _ (h)))))
theorem wd1308 : Cond.selects RX11 yX11_refused yX11_refused ∈ lwg := lwg_in (sels_in (pin_1 (List.mem_of_getElem? (i := 0) rfl))) rfl
theorem wd1309 : Cond.selects RX11 yX11_granted yX11_granted ∈ lwg := lwg_in (sels_in (pin_1 (List.mem_of_getElem? (i := 1) rfl))) rfl
theorem wd1310 : Cond.selects RX11 yX11_placeLack yX11_placeLack ∈ lwg := lwg_in (sels_in (pin_1 (List.mem_of_getElem? (i := 2) rfl))) rfl
theorem wd1311 : Cond.selects RX11 yX11_none yX11_none ∈ lwg := lwg_in (sels_in (pin_1 (List.mem_of_getElem? (i := 3) rfl))) rfl
theorem wd1312 : Cond.selects RX8 yX8_readWord yX8_readWord ∈ lwg := lwg_in (sels_in (pin_1 (List.mem_of_getElem? (i := 4) rfl))) rfl
theorem wd1313 : Cond.selects RX8 yX8_readNumber yX8_readNumber ∈ lwg := lwg_in (sels_in (pin_1 (List.mem_of_getElem? (i := 5) rfl))) rfl
theorem wd1314 : Cond.selects RX3 yX3_takePart yX3_takePart ∈ lwg := lwg_in (sels_in (pin_1 (List.mem_of_getElem? (i := 6) rfl))) rfl
theorem wd1315 : Cond.selects RX3 yX3_takeMachine yX3_takeMachine ∈ lwg := lwg_in (sels_in (pin_1 (List.mem_of_getElem? (i := 7) rfl))) rfl
theorem wd1316 : Cond.selects RX3 yX3_isName yX3_isName ∈ lwg := lwg_in (sels_in (pin_1 (List.mem_of_getElem? (i := 8) rfl))) rfl
theorem wd1317 : Cond.selects RX3 yX3_addMachine yX3_addMachine ∈ lwg := lwg_in (sels_in (pin_1 (List.mem_of_getElem? (i := 9) rfl))) rfl
theorem wd1318 : Cond.selects RX3 yX3_takeHeads yX3_takeHeads ∈ lwg := lwg_in (sels_in (pin_1 (List.mem_of_getElem? (i := 10) rfl))) rfl
theorem wd1319 : Cond.selects RX3 yX3_takeStops yX3_takeStops ∈ lwg := lwg_in (sels_in (pin_1 (List.mem_of_getElem? (i := 11) rfl))) rfl
theorem wd1320 : Cond.selects RX3 yX3_takeTable yX3_takeTable ∈ lwg := lwg_in (sels_in (pin_1 (List.mem_of_getElem? (i := 12) rfl))) rfl
theorem wd1321 : Cond.selects RX3 yX3_takeSort yX3_takeSort ∈ lwg := lwg_in (sels_in (pin_1 (List.mem_of_getElem? (i := 13) rfl))) rfl
theorem wd1322 : Cond.selects RX3 yX3_sortNamed yX3_sortNamed ∈ lwg := lwg_in (sels_in (pin_1 (List.mem_of_getElem? (i := 14) rfl))) rfl
theorem wd1323 : Cond.selects RX3 yX3_takeWash yX3_takeWash ∈ lwg := lwg_in (sels_in (pin_1 (List.mem_of_getElem? (i := 15) rfl))) rfl
theorem wd1324 : Cond.selects RX3 yX3_sortHere yX3_sortHere ∈ lwg := lwg_in (sels_in (pin_2 (List.mem_of_getElem? (i := 0) rfl))) rfl
theorem wd1325 : Cond.selects RX11 yX11_answer yX11_answer ∈ lwg := lwg_in (sels_in (pin_2 (List.mem_of_getElem? (i := 1) rfl))) rfl
theorem wd1326 : Cond.selects RX7 yX7_takeEnd yX7_takeEnd ∈ lwg := lwg_in (sels_in (pin_2 (List.mem_of_getElem? (i := 2) rfl))) rfl
theorem wd1327 : Cond.selects RX7 yX7_takeStep yX7_takeStep ∈ lwg := lwg_in (sels_in (pin_2 (List.mem_of_getElem? (i := 3) rfl))) rfl
theorem wd1328 : Cond.selects RX7 yX7_kindHere yX7_kindHere ∈ lwg := lwg_in (sels_in (pin_2 (List.mem_of_getElem? (i := 4) rfl))) rfl
theorem wd1329 : Cond.selects RX7 yX7_takeDetails yX7_takeDetails ∈ lwg := lwg_in (sels_in (pin_2 (List.mem_of_getElem? (i := 5) rfl))) rfl
theorem wd1330 : Cond.selects RX7 yX7_takeAmount yX7_takeAmount ∈ lwg := lwg_in (sels_in (pin_2 (List.mem_of_getElem? (i := 6) rfl))) rfl
theorem wd1331 : Cond.selects RX7 yX7_takeName yX7_takeName ∈ lwg := lwg_in (sels_in (pin_2 (List.mem_of_getElem? (i := 7) rfl))) rfl
theorem wd1332 : Cond.selects RX7 yX7_stateHere yX7_stateHere ∈ lwg := lwg_in (sels_in (pin_2 (List.mem_of_getElem? (i := 8) rfl))) rfl
theorem wd1333 : Cond.selects RX7 yX7_takeState yX7_takeState ∈ lwg := lwg_in (sels_in (pin_2 (List.mem_of_getElem? (i := 9) rfl))) rfl
theorem wd1334 : Cond.selects RX11 yX11_isMachine yX11_isMachine ∈ lwg := lwg_in (sels_in (pin_2 (List.mem_of_getElem? (i := 10) rfl))) rfl
theorem wd1335 : Cond.selects RX11 yX11_isSort yX11_isSort ∈ lwg := lwg_in (sels_in (pin_2 (List.mem_of_getElem? (i := 11) rfl))) rfl
theorem wd1336 : Cond.selects RX1 yX1_standsStill yX1_standsStill ∈ lwg := lwg_in (sels_in (pin_2 (List.mem_of_getElem? (i := 12) rfl))) rfl
theorem wd1337 : Cond.selects RX1 yX1_draw yX1_draw ∈ lwg := lwg_in (sels_in (pin_2 (List.mem_of_getElem? (i := 13) rfl))) rfl
theorem wd1338 : Cond.selects RX1 yX1_moveBottles yX1_moveBottles ∈ lwg := lwg_in (sels_in (pin_2 (List.mem_of_getElem? (i := 14) rfl))) rfl
theorem wd1339 : Cond.selects RX1 yX1_countStates yX1_countStates ∈ lwg := lwg_in (sels_in (pin_2 (List.mem_of_getElem? (i := 15) rfl))) rfl
theorem wd1340 : Cond.selects RX1 yX1_starverOf yX1_starverOf ∈ lwg := lwg_in (sels_in (pin_3 (List.mem_of_getElem? (i := 0) rfl))) rfl
theorem wd1341 : Cond.selects RX1 yX1_blockerOf yX1_blockerOf ∈ lwg := lwg_in (sels_in (pin_3 (List.mem_of_getElem? (i := 1) rfl))) rfl
theorem wd1342 : Cond.selects RX11 yX11_tell yX11_tell ∈ lwg := lwg_in (sels_in (pin_3 (List.mem_of_getElem? (i := 2) rfl))) rfl
theorem wd1343 : Cond.selects RX9 yX9_shareFrom yX9_shareFrom ∈ lwg := lwg_in (sels_in (pin_3 (List.mem_of_getElem? (i := 3) rfl))) rfl
theorem wd1344 : Cond.selects RX9 yX9_trySharing yX9_trySharing ∈ lwg := lwg_in (sels_in (pin_3 (List.mem_of_getElem? (i := 4) rfl))) rfl
theorem wd1345 : Cond.selects RX0 yX0_leaveBlocks yX0_leaveBlocks ∈ lwg := lwg_in (sels_in (pin_3 (List.mem_of_getElem? (i := 5) rfl))) rfl
theorem wd1346 : Cond.selects RX0 yX0_doStep yX0_doStep ∈ lwg := lwg_in (sels_in (pin_3 (List.mem_of_getElem? (i := 6) rfl))) rfl
theorem wd1347 : Cond.selects RX0 yX0_doRun yX0_doRun ∈ lwg := lwg_in (sels_in (pin_3 (List.mem_of_getElem? (i := 7) rfl))) rfl
theorem wd1348 : Cond.selects RX0 yX0_enterBlock yX0_enterBlock ∈ lwg := lwg_in (sels_in (pin_3 (List.mem_of_getElem? (i := 8) rfl))) rfl
theorem wd1349 : Cond.selects RX11 yX11_rowLack yX11_rowLack ∈ lwg := lwg_in (sels_in (pin_3 (List.mem_of_getElem? (i := 9) rfl))) rfl
theorem wd1350 : Cond.selects RX2 yX2_findsOne yX2_findsOne ∈ lwg := lwg_in (sels_in (pin_3 (List.mem_of_getElem? (i := 10) rfl))) rfl
theorem wd1351 : Cond.selects RX2 yX2_keeps yX2_keeps ∈ lwg := lwg_in (sels_in (pin_3 (List.mem_of_getElem? (i := 11) rfl))) rfl
theorem wd1352 : Cond.selects RX2 yX2_findsTwo yX2_findsTwo ∈ lwg := lwg_in (sels_in (pin_3 (List.mem_of_getElem? (i := 12) rfl))) rfl
theorem wd1353 : Cond.selects RX11 yX11_thrownForGlass yX11_thrownForGlass ∈ lwg := lwg_in (sels_in (pin_3 (List.mem_of_getElem? (i := 13) rfl))) rfl
theorem wd1354 : Cond.selects RX11 yX11_thrownAlready yX11_thrownAlready ∈ lwg := lwg_in (sels_in (pin_3 (List.mem_of_getElem? (i := 14) rfl))) rfl
theorem wd1355 : Cond.selects RX10 yX10_goOnFrom yX10_goOnFrom ∈ lwg := lwg_in (sels_in (pin_3 (List.mem_of_getElem? (i := 15) rfl))) rfl
theorem wd1356 : Cond.selects RX4 yX4_fits yX4_fits ∈ lwg := lwg_in (sels_in (pin_4 (List.mem_of_getElem? (i := 0) rfl))) rfl
theorem wd1357 : Cond.selects RX12 yX12_is yX12_is ∈ lwg := lwg_in (sels_in (pin_4 (List.mem_of_getElem? (i := 1) rfl))) rfl
theorem wd1358 : Cond.selects RX12 yX12_wrongPlace yX12_wrongPlace ∈ lwg := lwg_in (sels_in (pin_4 (List.mem_of_getElem? (i := 2) rfl))) rfl
theorem wd1359 : Cond.selects RX12 yX12_four yX12_four ∈ lwg := lwg_in (sels_in (pin_4 (List.mem_of_getElem? (i := 3) rfl))) rfl
theorem wd1360 : Cond.selects RX12 yX12_refuse yX12_refuse ∈ lwg := lwg_in (sels_in (pin_4 (List.mem_of_getElem? (i := 4) rfl))) rfl
theorem wd1361 : Cond.selects RX12 yX12_begins yX12_begins ∈ lwg := lwg_in (sels_in (pin_4 (List.mem_of_getElem? (i := 5) rfl))) rfl
theorem wd1362 : Cond.selects RX12 yX12_ahead yX12_ahead ∈ lwg := lwg_in (sels_in (pin_4 (List.mem_of_getElem? (i := 6) rfl))) rfl
theorem wd1363 : Cond.selects RX12 yX12_byteAt yX12_byteAt ∈ lwg := lwg_in (sels_in (pin_4 (List.mem_of_getElem? (i := 7) rfl))) rfl
theorem wd1364 : Cond.selects RX12 yX12_part yX12_part ∈ lwg := lwg_in (sels_in (pin_4 (List.mem_of_getElem? (i := 8) rfl))) rfl
theorem wd1365 : Cond.selects RX12 yX12_inWords yX12_inWords ∈ lwg := lwg_in (sels_in (pin_4 (List.mem_of_getElem? (i := 9) rfl))) rfl
theorem wd1366 : Cond.selects RX12 yX12_aMachine yX12_aMachine ∈ lwg := lwg_in (sels_in (pin_4 (List.mem_of_getElem? (i := 10) rfl))) rfl
theorem wd1367 : Cond.selects RX12 yX12_fails yX12_fails ∈ lwg := lwg_in (sels_in (pin_4 (List.mem_of_getElem? (i := 11) rfl))) rfl
theorem wd1368 : Cond.selects RX12 yX12_isName yX12_isName ∈ lwg := lwg_in (sels_in (pin_4 (List.mem_of_getElem? (i := 12) rfl))) rfl
theorem wd1369 : Cond.selects RX12 yX12_nameHere yX12_nameHere ∈ lwg := lwg_in (sels_in (pin_4 (List.mem_of_getElem? (i := 13) rfl))) rfl
theorem wd1370 : Cond.selects RX12 yX12_machineNamed yX12_machineNamed ∈ lwg := lwg_in (sels_in (pin_4 (List.mem_of_getElem? (i := 14) rfl))) rfl
theorem wd1371 : Cond.selects RX12 yX12_wantWord yX12_wantWord ∈ lwg := lwg_in (sels_in (pin_4 (List.mem_of_getElem? (i := 15) rfl))) rfl
theorem wd1372 : Cond.selects RX12 yX12_number yX12_number ∈ lwg := lwg_in (sels_in (pin_5 (List.mem_of_getElem? (i := 0) rfl))) rfl
theorem wd1373 : Cond.selects RX12 yX12_aTable yX12_aTable ∈ lwg := lwg_in (sels_in (pin_5 (List.mem_of_getElem? (i := 1) rfl))) rfl
theorem wd1374 : Cond.selects RX12 yX12_aSort yX12_aSort ∈ lwg := lwg_in (sels_in (pin_5 (List.mem_of_getElem? (i := 2) rfl))) rfl
theorem wd1375 : Cond.selects RX12 yX12_sortHere yX12_sortHere ∈ lwg := lwg_in (sels_in (pin_5 (List.mem_of_getElem? (i := 3) rfl))) rfl
theorem wd1376 : Cond.selects RX12 yX12_aWash yX12_aWash ∈ lwg := lwg_in (sels_in (pin_5 (List.mem_of_getElem? (i := 4) rfl))) rfl
theorem wd1377 : Cond.selects RX12 yX12_ends yX12_ends ∈ lwg := lwg_in (sels_in (pin_5 (List.mem_of_getElem? (i := 5) rfl))) rfl
theorem wd1378 : Cond.selects RX12 yX12_fresh yX12_fresh ∈ lwg := lwg_in (sels_in (pin_5 (List.mem_of_getElem? (i := 6) rfl))) rfl
theorem wd1379 : Cond.selects RX12 yX12_gives yX12_gives ∈ lwg := lwg_in (sels_in (pin_5 (List.mem_of_getElem? (i := 7) rfl))) rfl
theorem wd1380 : Cond.selects RX12 yX12_step yX12_step ∈ lwg := lwg_in (sels_in (pin_5 (List.mem_of_getElem? (i := 8) rfl))) rfl
theorem wd1381 : Cond.selects RX12 yX12_made yX12_made ∈ lwg := lwg_in (sels_in (pin_5 (List.mem_of_getElem? (i := 9) rfl))) rfl
theorem wd1382 : Cond.selects RX12 yX12_ofMachine yX12_ofMachine ∈ lwg := lwg_in (sels_in (pin_5 (List.mem_of_getElem? (i := 10) rfl))) rfl
theorem wd1383 : Cond.selects RX12 yX12_isMachine yX12_isMachine ∈ lwg := lwg_in (sels_in (pin_5 (List.mem_of_getElem? (i := 11) rfl))) rfl
theorem wd1384 : Cond.selects RX12 yX12_tables yX12_tables ∈ lwg := lwg_in (sels_in (pin_5 (List.mem_of_getElem? (i := 12) rfl))) rfl
theorem wd1385 : Cond.selects RX12 yX12_isSort yX12_isSort ∈ lwg := lwg_in (sels_in (pin_5 (List.mem_of_getElem? (i := 13) rfl))) rfl
theorem wd1386 : Cond.selects RX12 yX12_runs yX12_runs ∈ lwg := lwg_in (sels_in (pin_5 (List.mem_of_getElem? (i := 14) rfl))) rfl
theorem wd1387 : Cond.selects RX12 yX12_minute yX12_minute ∈ lwg := lwg_in (sels_in (pin_5 (List.mem_of_getElem? (i := 15) rfl))) rfl
theorem wd1388 : Cond.selects RX12 yX12_stops yX12_stops ∈ lwg := lwg_in (sels_in (pin_6 (List.mem_of_getElem? (i := 0) rfl))) rfl
theorem wd1389 : Cond.selects RX12 yX12_draw yX12_draw ∈ lwg := lwg_in (sels_in (pin_6 (List.mem_of_getElem? (i := 1) rfl))) rfl
theorem wd1390 : Cond.selects RX12 yX12_moves yX12_moves ∈ lwg := lwg_in (sels_in (pin_6 (List.mem_of_getElem? (i := 2) rfl))) rfl
theorem wd1391 : Cond.selects RX12 yX12_tells yX12_tells ∈ lwg := lwg_in (sels_in (pin_6 (List.mem_of_getElem? (i := 3) rfl))) rfl
theorem wd1392 : Cond.selects RX12 yX12_tries yX12_tries ∈ lwg := lwg_in (sels_in (pin_6 (List.mem_of_getElem? (i := 4) rfl))) rfl
theorem wd1393 : Cond.selects RX12 yX12_copies yX12_copies ∈ lwg := lwg_in (sels_in (pin_6 (List.mem_of_getElem? (i := 5) rfl))) rfl
theorem wd1394 : Cond.selects RX12 yX12_waitsFor yX12_waitsFor ∈ lwg := lwg_in (sels_in (pin_6 (List.mem_of_getElem? (i := 6) rfl))) rfl
theorem wd1395 : Cond.selects RX12 yX12_does yX12_does ∈ lwg := lwg_in (sels_in (pin_6 (List.mem_of_getElem? (i := 7) rfl))) rfl
theorem wd1396 : Cond.selects RX12 yX12_goes yX12_goes ∈ lwg := lwg_in (sels_in (pin_6 (List.mem_of_getElem? (i := 8) rfl))) rfl
theorem wd1397 : Cond.selects RX12 yX12_behindEnds yX12_behindEnds ∈ lwg := lwg_in (sels_in (pin_6 (List.mem_of_getElem? (i := 9) rfl))) rfl
theorem wd1398 : Cond.selects RX12 yX12_wrongRow yX12_wrongRow ∈ lwg := lwg_in (sels_in (pin_6 (List.mem_of_getElem? (i := 10) rfl))) rfl
theorem wd1399 : Cond.selects RX12 yX12_takesHeads yX12_takesHeads ∈ lwg := lwg_in (sels_in (pin_6 (List.mem_of_getElem? (i := 11) rfl))) rfl
theorem wd1400 : Cond.selects RX12 yX12_found yX12_found ∈ lwg := lwg_in (sels_in (pin_6 (List.mem_of_getElem? (i := 12) rfl))) rfl
theorem wd1401 : Cond.selects RX12 yX12_bothHave yX12_bothHave ∈ lwg := lwg_in (sels_in (pin_6 (List.mem_of_getElem? (i := 13) rfl))) rfl
theorem wd1402 : Cond.selects RX12 yX12_thrownMany yX12_thrownMany ∈ lwg := lwg_in (sels_in (pin_6 (List.mem_of_getElem? (i := 14) rfl))) rfl
theorem wd1403 : Cond.selects RX12 yX12_holds yX12_holds ∈ lwg := lwg_in (sels_in (pin_6 (List.mem_of_getElem? (i := 15) rfl))) rfl
theorem inX0 : ∀ w ∈ u_ws RX0 TX0 9, w ∈ lwg := by
  intro w hw
  obtain ⟨k, hk, rfl⟩ := List.mem_map.mp hw
  have hk := List.mem_range.mp hk
  match k, hk with
  | 0, _ => exact lwg_in (tin_2 (List.mem_of_getElem? (i := 94) rfl)) rfl
  | 1, _ => exact lwg_in (tin_2 (List.mem_of_getElem? (i := 96) rfl)) rfl
  | 2, _ => exact lwg_in (tin_2 (List.mem_of_getElem? (i := 98) rfl)) rfl
  | 3, _ => exact lwg_in (tin_2 (List.mem_of_getElem? (i := 100) rfl)) rfl
  | 4, _ => exact lwg_in (tin_2 (List.mem_of_getElem? (i := 102) rfl)) rfl
  | 5, _ => exact lwg_in (tin_2 (List.mem_of_getElem? (i := 104) rfl)) rfl
  | 6, _ => exact lwg_in (tin_2 (List.mem_of_getElem? (i := 106) rfl)) rfl
  | 7, _ => exact lwg_in (tin_2 (List.mem_of_getElem? (i := 108) rfl)) rfl
  | 8, _ => exact lwg_in (tin_2 (List.mem_of_getElem? (i := 110) rfl)) rfl
  | q + 9, hk => exact absurd hk (by omega)
theorem inX1 : ∀ w ∈ u_ws RX1 TX1 14, w ∈ lwg := by
  intro w hw
  obtain ⟨k, hk, rfl⟩ := List.mem_map.mp hw
  have hk := List.mem_range.mp hk
  match k, hk with
  | 0, _ => exact lwg_in (tin_1 (List.mem_of_getElem? (i := 144) rfl)) rfl
  | 1, _ => exact lwg_in (tin_1 (List.mem_of_getElem? (i := 146) rfl)) rfl
  | 2, _ => exact lwg_in (tin_1 (List.mem_of_getElem? (i := 148) rfl)) rfl
  | 3, _ => exact lwg_in (tin_1 (List.mem_of_getElem? (i := 150) rfl)) rfl
  | 4, _ => exact lwg_in (tin_1 (List.mem_of_getElem? (i := 152) rfl)) rfl
  | 5, _ => exact lwg_in (tin_1 (List.mem_of_getElem? (i := 154) rfl)) rfl
  | 6, _ => exact lwg_in (tin_1 (List.mem_of_getElem? (i := 156) rfl)) rfl
  | 7, _ => exact lwg_in (tin_1 (List.mem_of_getElem? (i := 158) rfl)) rfl
  | 8, _ => exact lwg_in (tin_1 (List.mem_of_getElem? (i := 160) rfl)) rfl
  | 9, _ => exact lwg_in (tin_1 (List.mem_of_getElem? (i := 162) rfl)) rfl
  | 10, _ => exact lwg_in (tin_1 (List.mem_of_getElem? (i := 164) rfl)) rfl
  | 11, _ => exact lwg_in (tin_1 (List.mem_of_getElem? (i := 166) rfl)) rfl
  | 12, _ => exact lwg_in (tin_1 (List.mem_of_getElem? (i := 168) rfl)) rfl
  | 13, _ => exact lwg_in (tin_1 (List.mem_of_getElem? (i := 170) rfl)) rfl
  | q + 14, hk => exact absurd hk (by omega)
theorem inX2 : ∀ w ∈ u_ws RX2 TX2 5, w ∈ lwg := by
  intro w hw
  obtain ⟨k, hk, rfl⟩ := List.mem_map.mp hw
  have hk := List.mem_range.mp hk
  match k, hk with
  | 0, _ => exact lwg_in (tin_2 (List.mem_of_getElem? (i := 128) rfl)) rfl
  | 1, _ => exact lwg_in (tin_2 (List.mem_of_getElem? (i := 130) rfl)) rfl
  | 2, _ => exact lwg_in (tin_2 (List.mem_of_getElem? (i := 132) rfl)) rfl
  | 3, _ => exact lwg_in (tin_2 (List.mem_of_getElem? (i := 134) rfl)) rfl
  | 4, _ => exact lwg_in (tin_2 (List.mem_of_getElem? (i := 136) rfl)) rfl
  | q + 5, hk => exact absurd hk (by omega)
theorem inX3 : ∀ w ∈ u_ws RX3 TX3 6, w ∈ lwg := by
  intro w hw
  obtain ⟨k, hk, rfl⟩ := List.mem_map.mp hw
  have hk := List.mem_range.mp hk
  match k, hk with
  | 0, _ => exact lwg_in (tin_1 (List.mem_of_getElem? (i := 208) rfl)) rfl
  | 1, _ => exact lwg_in (tin_1 (List.mem_of_getElem? (i := 210) rfl)) rfl
  | 2, _ => exact lwg_in (tin_1 (List.mem_of_getElem? (i := 212) rfl)) rfl
  | 3, _ => exact lwg_in (tin_1 (List.mem_of_getElem? (i := 214) rfl)) rfl
  | 4, _ => exact lwg_in (tin_1 (List.mem_of_getElem? (i := 216) rfl)) rfl
  | 5, _ => exact lwg_in (tin_1 (List.mem_of_getElem? (i := 218) rfl)) rfl
  | q + 6, hk => exact absurd hk (by omega)
theorem inX4 : ∀ w ∈ u_ws RX4 TX4 3, w ∈ lwg := by
  intro w hw
  obtain ⟨k, hk, rfl⟩ := List.mem_map.mp hw
  have hk := List.mem_range.mp hk
  match k, hk with
  | 0, _ => exact lwg_in (tin_2 (List.mem_of_getElem? (i := 171) rfl)) rfl
  | 1, _ => exact lwg_in (tin_2 (List.mem_of_getElem? (i := 173) rfl)) rfl
  | 2, _ => exact lwg_in (tin_2 (List.mem_of_getElem? (i := 175) rfl)) rfl
  | q + 3, hk => exact absurd hk (by omega)
theorem inX5 : ∀ w ∈ u_ws RX5 TX5 5, w ∈ lwg := by
  intro w hw
  obtain ⟨k, hk, rfl⟩ := List.mem_map.mp hw
  have hk := List.mem_range.mp hk
  match k, hk with
  | 0, _ => exact lwg_in (tin_1 (List.mem_of_getElem? (i := 190) rfl)) rfl
  | 1, _ => exact lwg_in (tin_1 (List.mem_of_getElem? (i := 192) rfl)) rfl
  | 2, _ => exact lwg_in (tin_1 (List.mem_of_getElem? (i := 194) rfl)) rfl
  | 3, _ => exact lwg_in (tin_1 (List.mem_of_getElem? (i := 196) rfl)) rfl
  | 4, _ => exact lwg_in (tin_1 (List.mem_of_getElem? (i := 198) rfl)) rfl
  | q + 5, hk => exact absurd hk (by omega)
theorem inX6 : ∀ w ∈ u_ws RX6 TX6 5, w ∈ lwg := by
  intro w hw
  obtain ⟨k, hk, rfl⟩ := List.mem_map.mp hw
  have hk := List.mem_range.mp hk
  match k, hk with
  | 0, _ => exact lwg_in (tin_2 (List.mem_of_getElem? (i := 9) rfl)) rfl
  | 1, _ => exact lwg_in (tin_2 (List.mem_of_getElem? (i := 11) rfl)) rfl
  | 2, _ => exact lwg_in (tin_2 (List.mem_of_getElem? (i := 13) rfl)) rfl
  | 3, _ => exact lwg_in (tin_2 (List.mem_of_getElem? (i := 15) rfl)) rfl
  | 4, _ => exact lwg_in (tin_2 (List.mem_of_getElem? (i := 17) rfl)) rfl
  | q + 5, hk => exact absurd hk (by omega)
theorem inX7 : ∀ w ∈ u_ws RX7 TX7 4, w ∈ lwg := by
  intro w hw
  obtain ⟨k, hk, rfl⟩ := List.mem_map.mp hw
  have hk := List.mem_range.mp hk
  match k, hk with
  | 0, _ => exact lwg_in (tin_2 (List.mem_of_getElem? (i := 25) rfl)) rfl
  | 1, _ => exact lwg_in (tin_2 (List.mem_of_getElem? (i := 27) rfl)) rfl
  | 2, _ => exact lwg_in (tin_2 (List.mem_of_getElem? (i := 29) rfl)) rfl
  | 3, _ => exact lwg_in (tin_2 (List.mem_of_getElem? (i := 31) rfl)) rfl
  | q + 4, hk => exact absurd hk (by omega)
theorem inX8 : ∀ w ∈ u_ws RX8 TX8 11, w ∈ lwg := by
  intro w hw
  obtain ⟨k, hk, rfl⟩ := List.mem_map.mp hw
  have hk := List.mem_range.mp hk
  match k, hk with
  | 0, _ => exact lwg_in (tin_1 (List.mem_of_getElem? (i := 59) rfl)) rfl
  | 1, _ => exact lwg_in (tin_1 (List.mem_of_getElem? (i := 61) rfl)) rfl
  | 2, _ => exact lwg_in (tin_1 (List.mem_of_getElem? (i := 63) rfl)) rfl
  | 3, _ => exact lwg_in (tin_1 (List.mem_of_getElem? (i := 65) rfl)) rfl
  | 4, _ => exact lwg_in (tin_1 (List.mem_of_getElem? (i := 67) rfl)) rfl
  | 5, _ => exact lwg_in (tin_1 (List.mem_of_getElem? (i := 69) rfl)) rfl
  | 6, _ => exact lwg_in (tin_1 (List.mem_of_getElem? (i := 71) rfl)) rfl
  | 7, _ => exact lwg_in (tin_1 (List.mem_of_getElem? (i := 73) rfl)) rfl
  | 8, _ => exact lwg_in (tin_1 (List.mem_of_getElem? (i := 75) rfl)) rfl
  | 9, _ => exact lwg_in (tin_1 (List.mem_of_getElem? (i := 77) rfl)) rfl
  | 10, _ => exact lwg_in (tin_1 (List.mem_of_getElem? (i := 79) rfl)) rfl
  | q + 11, hk => exact absurd hk (by omega)
theorem inX9 : ∀ w ∈ u_ws RX9 TX9 7, w ∈ lwg := by
  intro w hw
  obtain ⟨k, hk, rfl⟩ := List.mem_map.mp hw
  have hk := List.mem_range.mp hk
  match k, hk with
  | 0, _ => exact lwg_in (tin_2 (List.mem_of_getElem? (i := 59) rfl)) rfl
  | 1, _ => exact lwg_in (tin_2 (List.mem_of_getElem? (i := 61) rfl)) rfl
  | 2, _ => exact lwg_in (tin_2 (List.mem_of_getElem? (i := 63) rfl)) rfl
  | 3, _ => exact lwg_in (tin_2 (List.mem_of_getElem? (i := 65) rfl)) rfl
  | 4, _ => exact lwg_in (tin_2 (List.mem_of_getElem? (i := 67) rfl)) rfl
  | 5, _ => exact lwg_in (tin_2 (List.mem_of_getElem? (i := 69) rfl)) rfl
  | 6, _ => exact lwg_in (tin_2 (List.mem_of_getElem? (i := 71) rfl)) rfl
  | q + 7, hk => exact absurd hk (by omega)
theorem inX10 : ∀ w ∈ u_ws RX10 TX10 4, w ∈ lwg := by
  intro w hw
  obtain ⟨k, hk, rfl⟩ := List.mem_map.mp hw
  have hk := List.mem_range.mp hk
  match k, hk with
  | 0, _ => exact lwg_in (tin_2 (List.mem_of_getElem? (i := 151) rfl)) rfl
  | 1, _ => exact lwg_in (tin_2 (List.mem_of_getElem? (i := 153) rfl)) rfl
  | 2, _ => exact lwg_in (tin_2 (List.mem_of_getElem? (i := 155) rfl)) rfl
  | 3, _ => exact lwg_in (tin_2 (List.mem_of_getElem? (i := 157) rfl)) rfl
  | q + 4, hk => exact absurd hk (by omega)
theorem inX11 : ∀ w ∈ u_ws RX11 TX11 19, w ∈ lwg := by
  intro w hw
  obtain ⟨k, hk, rfl⟩ := List.mem_map.mp hw
  have hk := List.mem_range.mp hk
  match k, hk with
  | 0, _ => exact lwg_in (tin_2 (List.mem_of_getElem? (i := 200) rfl)) rfl
  | 1, _ => exact lwg_in (tin_2 (List.mem_of_getElem? (i := 202) rfl)) rfl
  | 2, _ => exact lwg_in (tin_2 (List.mem_of_getElem? (i := 204) rfl)) rfl
  | 3, _ => exact lwg_in (tin_2 (List.mem_of_getElem? (i := 206) rfl)) rfl
  | 4, _ => exact lwg_in (tin_2 (List.mem_of_getElem? (i := 208) rfl)) rfl
  | 5, _ => exact lwg_in (tin_2 (List.mem_of_getElem? (i := 210) rfl)) rfl
  | 6, _ => exact lwg_in (tin_2 (List.mem_of_getElem? (i := 212) rfl)) rfl
  | 7, _ => exact lwg_in (tin_2 (List.mem_of_getElem? (i := 214) rfl)) rfl
  | 8, _ => exact lwg_in (tin_2 (List.mem_of_getElem? (i := 216) rfl)) rfl
  | 9, _ => exact lwg_in (tin_2 (List.mem_of_getElem? (i := 218) rfl)) rfl
  | 10, _ => exact lwg_in (tin_2 (List.mem_of_getElem? (i := 220) rfl)) rfl
  | 11, _ => exact lwg_in (tin_2 (List.mem_of_getElem? (i := 222) rfl)) rfl
  | 12, _ => exact lwg_in (tin_2 (List.mem_of_getElem? (i := 224) rfl)) rfl
  | 13, _ => exact lwg_in (tin_2 (List.mem_of_getElem? (i := 226) rfl)) rfl
  | 14, _ => exact lwg_in (tin_2 (List.mem_of_getElem? (i := 228) rfl)) rfl
  | 15, _ => exact lwg_in (tin_2 (List.mem_of_getElem? (i := 230) rfl)) rfl
  | 16, _ => exact lwg_in (tin_2 (List.mem_of_getElem? (i := 232) rfl)) rfl
  | 17, _ => exact lwg_in (tin_2 (List.mem_of_getElem? (i := 234) rfl)) rfl
  | 18, _ => exact lwg_in (tin_2 (List.mem_of_getElem? (i := 236) rfl)) rfl
  | q + 19, hk => exact absurd hk (by omega)
theorem inX12 : ∀ w ∈ u_ws RX12 TX12 51, w ∈ lwg := by
  intro w hw
  obtain ⟨k, hk, rfl⟩ := List.mem_map.mp hw
  have hk := List.mem_range.mp hk
  match k, hk with
  | 0, _ => exact lwg_in (tin_6 (List.mem_of_getElem? (i := 25) rfl)) rfl
  | 1, _ => exact lwg_in (tin_6 (List.mem_of_getElem? (i := 27) rfl)) rfl
  | 2, _ => exact lwg_in (tin_6 (List.mem_of_getElem? (i := 29) rfl)) rfl
  | 3, _ => exact lwg_in (tin_6 (List.mem_of_getElem? (i := 31) rfl)) rfl
  | 4, _ => exact lwg_in (tin_6 (List.mem_of_getElem? (i := 33) rfl)) rfl
  | 5, _ => exact lwg_in (tin_6 (List.mem_of_getElem? (i := 35) rfl)) rfl
  | 6, _ => exact lwg_in (tin_6 (List.mem_of_getElem? (i := 37) rfl)) rfl
  | 7, _ => exact lwg_in (tin_6 (List.mem_of_getElem? (i := 39) rfl)) rfl
  | 8, _ => exact lwg_in (tin_6 (List.mem_of_getElem? (i := 41) rfl)) rfl
  | 9, _ => exact lwg_in (tin_6 (List.mem_of_getElem? (i := 43) rfl)) rfl
  | 10, _ => exact lwg_in (tin_6 (List.mem_of_getElem? (i := 45) rfl)) rfl
  | 11, _ => exact lwg_in (tin_6 (List.mem_of_getElem? (i := 47) rfl)) rfl
  | 12, _ => exact lwg_in (tin_6 (List.mem_of_getElem? (i := 49) rfl)) rfl
  | 13, _ => exact lwg_in (tin_6 (List.mem_of_getElem? (i := 51) rfl)) rfl
  | 14, _ => exact lwg_in (tin_6 (List.mem_of_getElem? (i := 53) rfl)) rfl
  | 15, _ => exact lwg_in (tin_6 (List.mem_of_getElem? (i := 55) rfl)) rfl
  | 16, _ => exact lwg_in (tin_6 (List.mem_of_getElem? (i := 57) rfl)) rfl
  | 17, _ => exact lwg_in (tin_6 (List.mem_of_getElem? (i := 59) rfl)) rfl
  | 18, _ => exact lwg_in (tin_6 (List.mem_of_getElem? (i := 61) rfl)) rfl
  | 19, _ => exact lwg_in (tin_6 (List.mem_of_getElem? (i := 63) rfl)) rfl
  | 20, _ => exact lwg_in (tin_6 (List.mem_of_getElem? (i := 65) rfl)) rfl
  | 21, _ => exact lwg_in (tin_6 (List.mem_of_getElem? (i := 67) rfl)) rfl
  | 22, _ => exact lwg_in (tin_6 (List.mem_of_getElem? (i := 69) rfl)) rfl
  | 23, _ => exact lwg_in (tin_6 (List.mem_of_getElem? (i := 71) rfl)) rfl
  | 24, _ => exact lwg_in (tin_6 (List.mem_of_getElem? (i := 73) rfl)) rfl
  | 25, _ => exact lwg_in (tin_6 (List.mem_of_getElem? (i := 75) rfl)) rfl
  | 26, _ => exact lwg_in (tin_6 (List.mem_of_getElem? (i := 77) rfl)) rfl
  | 27, _ => exact lwg_in (tin_6 (List.mem_of_getElem? (i := 79) rfl)) rfl
  | 28, _ => exact lwg_in (tin_6 (List.mem_of_getElem? (i := 81) rfl)) rfl
  | 29, _ => exact lwg_in (tin_6 (List.mem_of_getElem? (i := 83) rfl)) rfl
  | 30, _ => exact lwg_in (tin_6 (List.mem_of_getElem? (i := 85) rfl)) rfl
  | 31, _ => exact lwg_in (tin_6 (List.mem_of_getElem? (i := 87) rfl)) rfl
  | 32, _ => exact lwg_in (tin_6 (List.mem_of_getElem? (i := 89) rfl)) rfl
  | 33, _ => exact lwg_in (tin_6 (List.mem_of_getElem? (i := 91) rfl)) rfl
  | 34, _ => exact lwg_in (tin_6 (List.mem_of_getElem? (i := 93) rfl)) rfl
  | 35, _ => exact lwg_in (tin_6 (List.mem_of_getElem? (i := 95) rfl)) rfl
  | 36, _ => exact lwg_in (tin_6 (List.mem_of_getElem? (i := 97) rfl)) rfl
  | 37, _ => exact lwg_in (tin_6 (List.mem_of_getElem? (i := 99) rfl)) rfl
  | 38, _ => exact lwg_in (tin_6 (List.mem_of_getElem? (i := 101) rfl)) rfl
  | 39, _ => exact lwg_in (tin_6 (List.mem_of_getElem? (i := 103) rfl)) rfl
  | 40, _ => exact lwg_in (tin_6 (List.mem_of_getElem? (i := 105) rfl)) rfl
  | 41, _ => exact lwg_in (tin_6 (List.mem_of_getElem? (i := 107) rfl)) rfl
  | 42, _ => exact lwg_in (tin_6 (List.mem_of_getElem? (i := 109) rfl)) rfl
  | 43, _ => exact lwg_in (tin_6 (List.mem_of_getElem? (i := 111) rfl)) rfl
  | 44, _ => exact lwg_in (tin_6 (List.mem_of_getElem? (i := 113) rfl)) rfl
  | 45, _ => exact lwg_in (tin_6 (List.mem_of_getElem? (i := 115) rfl)) rfl
  | 46, _ => exact lwg_in (tin_6 (List.mem_of_getElem? (i := 117) rfl)) rfl
  | 47, _ => exact lwg_in (tin_6 (List.mem_of_getElem? (i := 119) rfl)) rfl
  | 48, _ => exact lwg_in (tin_6 (List.mem_of_getElem? (i := 121) rfl)) rfl
  | 49, _ => exact lwg_in (tin_6 (List.mem_of_getElem? (i := 123) rfl)) rfl
  | 50, _ => exact lwg_in (tin_6 (List.mem_of_getElem? (i := 125) rfl)) rfl
  | q + 51, hk => exact absurd hk (by omega)
