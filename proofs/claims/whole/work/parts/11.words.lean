theorem wq0 : Cond.initialized RL ∈ mm_B := List.mem_filter.mpr ⟨List.mem_of_getElem? (i := 64) (by decide +kernel), rfl⟩
theorem wq1 : Cond.initialized RX7 ∈ mm_B := List.mem_filter.mpr ⟨List.mem_of_getElem? (i := 65) (by decide +kernel), rfl⟩
theorem wq2 : Cond.initialized RX5 ∈ mm_B := List.mem_filter.mpr ⟨List.mem_of_getElem? (i := 66) (by decide +kernel), rfl⟩
theorem wq3 : Cond.initialized RX3 ∈ mm_B := List.mem_filter.mpr ⟨List.mem_of_getElem? (i := 67) (by decide +kernel), rfl⟩
theorem wq4 : Cond.initialized RX6 ∈ mm_B := List.mem_filter.mpr ⟨List.mem_of_getElem? (i := 68) (by decide +kernel), rfl⟩
theorem wq5 : Cond.initialized RX1 ∈ mm_B := List.mem_filter.mpr ⟨List.mem_of_getElem? (i := 69) (by decide +kernel), rfl⟩
theorem wq6 : Cond.initialized RX2 ∈ mm_B := List.mem_filter.mpr ⟨List.mem_of_getElem? (i := 70) (by decide +kernel), rfl⟩
theorem wq7 : Cond.initialized RX4 ∈ mm_B := List.mem_filter.mpr ⟨List.mem_of_getElem? (i := 71) (by decide +kernel), rfl⟩
theorem wq8 : Cond.initialized RX8 ∈ mm_B := List.mem_filter.mpr ⟨List.mem_of_getElem? (i := 72) (by decide +kernel), rfl⟩
theorem wq9 : Cond.initialized "java/lang/Throwable" ∈ mm_B := List.mem_filter.mpr ⟨List.mem_of_getElem? (i := 73) (by decide +kernel), rfl⟩
theorem wq10 : Cond.initialized "java/lang/Exception" ∈ mm_B := List.mem_filter.mpr ⟨List.mem_of_getElem? (i := 74) (by decide +kernel), rfl⟩
theorem wq11 : Cond.initialized "java/lang/RuntimeException" ∈ mm_B := List.mem_filter.mpr ⟨List.mem_of_getElem? (i := 75) (by decide +kernel), rfl⟩
theorem wq12 : Cond.initialized "java/lang/IllegalStateException" ∈ mm_B := List.mem_filter.mpr ⟨List.mem_of_getElem? (i := 76) (by decide +kernel), rfl⟩
theorem wq13 : Cond.initialized "java/lang/IndexOutOfBoundsException" ∈ mm_B := List.mem_filter.mpr ⟨List.mem_of_getElem? (i := 77) (by decide +kernel), rfl⟩
theorem wq14 : Cond.initialized RX0 ∈ mm_B := List.mem_filter.mpr ⟨List.mem_of_getElem? (i := 78) (by decide +kernel), rfl⟩
theorem wq15 : Cond.initialized "java/lang/IllegalArgumentException" ∈ mm_B := List.mem_filter.mpr ⟨List.mem_of_getElem? (i := 79) (by decide +kernel), rfl⟩
theorem wq16 : Cond.classLink RL 8 RX7 ∈ mm_B := List.mem_filter.mpr ⟨List.mem_of_getElem? (i := 80) (by decide +kernel), rfl⟩
theorem wq17 : Cond.instantiable RX7 4 ∈ mm_B := List.mem_filter.mpr ⟨List.mem_of_getElem? (i := 81) (by decide +kernel), rfl⟩
theorem wq18 : Cond.methodLink RL 103 yX7_init ∈ mm_B := List.mem_filter.mpr ⟨List.mem_of_getElem? (i := 82) (by decide +kernel), rfl⟩
theorem wq19 : Cond.instanceMethod yX7_init ∈ mm_B := List.mem_filter.mpr ⟨List.mem_of_getElem? (i := 83) (by decide +kernel), rfl⟩
theorem wq20 : Cond.code yX7_init cX7_init 1 none ∈ mm_B := List.mem_filter.mpr ⟨List.mem_of_getElem? (i := 84) (by decide +kernel), rfl⟩
theorem wq21 : Cond.methodLink RX7 1 objectInit ∈ mm_B := List.mem_filter.mpr ⟨List.mem_of_getElem? (i := 85) (by decide +kernel), rfl⟩
theorem wq22 : Cond.instanceMethod objectInit ∈ mm_B := List.mem_filter.mpr ⟨List.mem_of_getElem? (i := 86) (by decide +kernel), rfl⟩
theorem wq23 : Cond.code objectInit ⟨#[0xb1]⟩ 1 none ∈ mm_B := List.mem_filter.mpr ⟨List.mem_of_getElem? (i := 87) (by decide +kernel), rfl⟩
theorem wq24 : Cond.classLink RX7 7 RX5 ∈ mm_B := List.mem_filter.mpr ⟨List.mem_of_getElem? (i := 88) (by decide +kernel), rfl⟩
theorem wq25 : Cond.instantiable RX5 6 ∈ mm_B := List.mem_filter.mpr ⟨List.mem_of_getElem? (i := 89) (by decide +kernel), rfl⟩
theorem wq26 : Cond.methodLink RX7 9 yX5_init ∈ mm_B := List.mem_filter.mpr ⟨List.mem_of_getElem? (i := 90) (by decide +kernel), rfl⟩
theorem wq27 : Cond.instanceMethod yX5_init ∈ mm_B := List.mem_filter.mpr ⟨List.mem_of_getElem? (i := 91) (by decide +kernel), rfl⟩
theorem wq28 : Cond.code yX5_init cX5_init 3 none ∈ mm_B := List.mem_filter.mpr ⟨List.mem_of_getElem? (i := 92) (by decide +kernel), rfl⟩
theorem wq29 : Cond.methodLink RX5 3 objectInit ∈ mm_B := List.mem_filter.mpr ⟨List.mem_of_getElem? (i := 93) (by decide +kernel), rfl⟩
theorem wq30 : Cond.classLink RX5 9 RX3 ∈ mm_B := List.mem_filter.mpr ⟨List.mem_of_getElem? (i := 94) (by decide +kernel), rfl⟩
theorem wq32 : Cond.classLink RX5 17 RX6 ∈ mm_B := List.mem_filter.mpr ⟨List.mem_of_getElem? (i := 96) (by decide +kernel), rfl⟩
theorem wq34 : Cond.instantiable RX3 10 ∈ mm_B := List.mem_filter.mpr ⟨List.mem_of_getElem? (i := 98) (by decide +kernel), rfl⟩
theorem wq35 : Cond.methodLink RX5 37 yX3_init ∈ mm_B := List.mem_filter.mpr ⟨List.mem_of_getElem? (i := 99) (by decide +kernel), rfl⟩
theorem wq36 : Cond.instanceMethod yX3_init ∈ mm_B := List.mem_filter.mpr ⟨List.mem_of_getElem? (i := 100) (by decide +kernel), rfl⟩
theorem wq37 : Cond.code yX3_init cX3_init 2 none ∈ mm_B := List.mem_filter.mpr ⟨List.mem_of_getElem? (i := 101) (by decide +kernel), rfl⟩
theorem wq38 : Cond.methodLink RX3 3 objectInit ∈ mm_B := List.mem_filter.mpr ⟨List.mem_of_getElem? (i := 102) (by decide +kernel), rfl⟩
theorem wq39 : Cond.fieldLink RX3 15 RX3 "number" "I" ∈ mm_B := List.mem_filter.mpr ⟨List.mem_of_getElem? (i := 103) (by decide +kernel), rfl⟩
theorem wq40 : Cond.fieldLink RX5 51 RX3 "number" "I" ∈ mm_B := List.mem_filter.mpr ⟨List.mem_of_getElem? (i := 104) (by decide +kernel), rfl⟩
theorem wq41 : Cond.fieldLink RX1 124 RX3 "number" "I" ∈ mm_B := List.mem_filter.mpr ⟨List.mem_of_getElem? (i := 105) (by decide +kernel), rfl⟩
theorem wq42 : Cond.fieldLink RX1 37 RX3 "phase" "I" ∈ mm_B := List.mem_filter.mpr ⟨List.mem_of_getElem? (i := 106) (by decide +kernel), rfl⟩
theorem wq43 : Cond.fieldLink RX3 26 RX3 "phase" "I" ∈ mm_B := List.mem_filter.mpr ⟨List.mem_of_getElem? (i := 107) (by decide +kernel), rfl⟩
theorem wq44 : Cond.fieldLink RX5 68 RX3 "phase" "I" ∈ mm_B := List.mem_filter.mpr ⟨List.mem_of_getElem? (i := 108) (by decide +kernel), rfl⟩
theorem wq45 : Cond.fieldLink RX7 150 RX3 "phase" "I" ∈ mm_B := List.mem_filter.mpr ⟨List.mem_of_getElem? (i := 109) (by decide +kernel), rfl⟩
theorem wq46 : Cond.fieldLink RX3 29 RX3 "timer" "I" ∈ mm_B := List.mem_filter.mpr ⟨List.mem_of_getElem? (i := 110) (by decide +kernel), rfl⟩
theorem wq47 : Cond.fieldLink RX1 125 RX3 "timer" "I" ∈ mm_B := List.mem_filter.mpr ⟨List.mem_of_getElem? (i := 111) (by decide +kernel), rfl⟩
theorem wq48 : Cond.fieldLink RX7 313 RX3 "timer" "I" ∈ mm_B := List.mem_filter.mpr ⟨List.mem_of_getElem? (i := 112) (by decide +kernel), rfl⟩
theorem wq49 : Cond.fieldLink RX1 54 RX3 "first" "I" ∈ mm_B := List.mem_filter.mpr ⟨List.mem_of_getElem? (i := 113) (by decide +kernel), rfl⟩
theorem wq50 : Cond.fieldLink RX3 36 RX3 "first" "I" ∈ mm_B := List.mem_filter.mpr ⟨List.mem_of_getElem? (i := 114) (by decide +kernel), rfl⟩
theorem wq51 : Cond.fieldLink RX7 155 RX3 "first" "I" ∈ mm_B := List.mem_filter.mpr ⟨List.mem_of_getElem? (i := 115) (by decide +kernel), rfl⟩
theorem wq52 : Cond.fieldLink RX5 89 RX3 "first" "I" ∈ mm_B := List.mem_filter.mpr ⟨List.mem_of_getElem? (i := 116) (by decide +kernel), rfl⟩
theorem wq53 : Cond.fieldLink RX3 39 RX3 "second" "I" ∈ mm_B := List.mem_filter.mpr ⟨List.mem_of_getElem? (i := 117) (by decide +kernel), rfl⟩
theorem wq54 : Cond.fieldLink RX1 74 RX3 "second" "I" ∈ mm_B := List.mem_filter.mpr ⟨List.mem_of_getElem? (i := 118) (by decide +kernel), rfl⟩
theorem wq55 : Cond.fieldLink RX5 92 RX3 "second" "I" ∈ mm_B := List.mem_filter.mpr ⟨List.mem_of_getElem? (i := 119) (by decide +kernel), rfl⟩
theorem wq56 : Cond.fieldLink RX7 316 RX3 "second" "I" ∈ mm_B := List.mem_filter.mpr ⟨List.mem_of_getElem? (i := 120) (by decide +kernel), rfl⟩
theorem wq57 : Cond.fieldLink RX1 60 RX3 "otherEnd" "I" ∈ mm_B := List.mem_filter.mpr ⟨List.mem_of_getElem? (i := 121) (by decide +kernel), rfl⟩
theorem wq58 : Cond.fieldLink RX3 42 RX3 "otherEnd" "I" ∈ mm_B := List.mem_filter.mpr ⟨List.mem_of_getElem? (i := 122) (by decide +kernel), rfl⟩
theorem wq59 : Cond.fieldLink RX7 319 RX3 "otherEnd" "I" ∈ mm_B := List.mem_filter.mpr ⟨List.mem_of_getElem? (i := 123) (by decide +kernel), rfl⟩
theorem wq60 : Cond.fieldLink RX3 32 RX3 "isCaller" "Z" ∈ mm_B := List.mem_filter.mpr ⟨List.mem_of_getElem? (i := 124) (by decide +kernel), rfl⟩
theorem wq61 : Cond.fieldLink RX1 67 RX3 "isCaller" "Z" ∈ mm_B := List.mem_filter.mpr ⟨List.mem_of_getElem? (i := 125) (by decide +kernel), rfl⟩
theorem wq62 : Cond.fieldLink RX7 322 RX3 "isCaller" "Z" ∈ mm_B := List.mem_filter.mpr ⟨List.mem_of_getElem? (i := 126) (by decide +kernel), rfl⟩
theorem wq63 : Cond.fieldLink RX3 45 RX3 "faultSpan" "I" ∈ mm_B := List.mem_filter.mpr ⟨List.mem_of_getElem? (i := 127) (by decide +kernel), rfl⟩
theorem wq64 : Cond.fieldLink RX1 156 RX3 "faultSpan" "I" ∈ mm_B := List.mem_filter.mpr ⟨List.mem_of_getElem? (i := 128) (by decide +kernel), rfl⟩
theorem wq65 : Cond.fieldLink RX7 237 RX3 "faultSpan" "I" ∈ mm_B := List.mem_filter.mpr ⟨List.mem_of_getElem? (i := 129) (by decide +kernel), rfl⟩
theorem wq66 : Cond.fieldLink RX3 48 RX3 "isShort" "Z" ∈ mm_B := List.mem_filter.mpr ⟨List.mem_of_getElem? (i := 130) (by decide +kernel), rfl⟩
theorem wq67 : Cond.fieldLink RX1 159 RX3 "isShort" "Z" ∈ mm_B := List.mem_filter.mpr ⟨List.mem_of_getElem? (i := 131) (by decide +kernel), rfl⟩
theorem wq68 : Cond.fieldLink RX7 325 RX3 "isShort" "Z" ∈ mm_B := List.mem_filter.mpr ⟨List.mem_of_getElem? (i := 132) (by decide +kernel), rfl⟩
theorem wq69 : Cond.fieldLink RX3 9 RX3 "risks" "[I" ∈ mm_B := List.mem_filter.mpr ⟨List.mem_of_getElem? (i := 133) (by decide +kernel), rfl⟩
theorem wq70 : Cond.fieldLink RX7 250 RX3 "risks" "[I" ∈ mm_B := List.mem_filter.mpr ⟨List.mem_of_getElem? (i := 134) (by decide +kernel), rfl⟩
theorem wq92 : Cond.arrayClass .int ∈ mm_B := List.mem_filter.mpr ⟨List.mem_of_getElem? (i := 156) (by decide +kernel), rfl⟩
theorem wq93 : Cond.methodLink RX5 40 yX3_begin ∈ mm_B := List.mem_filter.mpr ⟨List.mem_of_getElem? (i := 157) (by decide +kernel), rfl⟩
theorem wq94 : Cond.instanceMethod yX3_begin ∈ mm_B := List.mem_filter.mpr ⟨List.mem_of_getElem? (i := 158) (by decide +kernel), rfl⟩
theorem wq95 : Cond.selects RX3 yX3_begin yX3_begin ∈ mm_B := List.mem_filter.mpr ⟨List.mem_of_getElem? (i := 159) (by decide +kernel), rfl⟩
theorem wq96 : Cond.code yX3_begin cX3_begin 2 none ∈ mm_B := List.mem_filter.mpr ⟨List.mem_of_getElem? (i := 160) (by decide +kernel), rfl⟩
theorem wq97 : Cond.methodLink RX3 19 yX3_comeTo ∈ mm_B := List.mem_filter.mpr ⟨List.mem_of_getElem? (i := 161) (by decide +kernel), rfl⟩
theorem wq98 : Cond.instanceMethod yX3_comeTo ∈ mm_B := List.mem_filter.mpr ⟨List.mem_of_getElem? (i := 162) (by decide +kernel), rfl⟩
theorem wq99 : Cond.selects RX3 yX3_comeTo yX3_comeTo ∈ mm_B := List.mem_filter.mpr ⟨List.mem_of_getElem? (i := 163) (by decide +kernel), rfl⟩
theorem wq100 : Cond.code yX3_comeTo cX3_comeTo 2 none ∈ mm_B := List.mem_filter.mpr ⟨List.mem_of_getElem? (i := 164) (by decide +kernel), rfl⟩
theorem wq101 : Cond.methodLink RX3 23 yX3_clearFault ∈ mm_B := List.mem_filter.mpr ⟨List.mem_of_getElem? (i := 165) (by decide +kernel), rfl⟩
theorem wq102 : Cond.instanceMethod yX3_clearFault ∈ mm_B := List.mem_filter.mpr ⟨List.mem_of_getElem? (i := 166) (by decide +kernel), rfl⟩
theorem wq103 : Cond.selects RX3 yX3_clearFault yX3_clearFault ∈ mm_B := List.mem_filter.mpr ⟨List.mem_of_getElem? (i := 167) (by decide +kernel), rfl⟩
theorem wq104 : Cond.code yX3_clearFault cX3_clearFault 1 none ∈ mm_B := List.mem_filter.mpr ⟨List.mem_of_getElem? (i := 168) (by decide +kernel), rfl⟩
theorem wq105 : Cond.instantiable RX6 9 ∈ mm_B := List.mem_filter.mpr ⟨List.mem_of_getElem? (i := 169) (by decide +kernel), rfl⟩
theorem wq106 : Cond.methodLink RX5 43 yX6_init ∈ mm_B := List.mem_filter.mpr ⟨List.mem_of_getElem? (i := 170) (by decide +kernel), rfl⟩
theorem wq107 : Cond.instanceMethod yX6_init ∈ mm_B := List.mem_filter.mpr ⟨List.mem_of_getElem? (i := 171) (by decide +kernel), rfl⟩
theorem wq108 : Cond.code yX6_init cX6_init 2 none ∈ mm_B := List.mem_filter.mpr ⟨List.mem_of_getElem? (i := 172) (by decide +kernel), rfl⟩
theorem wq109 : Cond.methodLink RX6 1 objectInit ∈ mm_B := List.mem_filter.mpr ⟨List.mem_of_getElem? (i := 173) (by decide +kernel), rfl⟩
theorem wq110 : Cond.fieldLink RX6 7 RX6 "number" "I" ∈ mm_B := List.mem_filter.mpr ⟨List.mem_of_getElem? (i := 174) (by decide +kernel), rfl⟩
theorem wq111 : Cond.fieldLink RX1 40 RX6 "number" "I" ∈ mm_B := List.mem_filter.mpr ⟨List.mem_of_getElem? (i := 175) (by decide +kernel), rfl⟩
theorem wq112 : Cond.fieldLink RX7 158 RX6 "number" "I" ∈ mm_B := List.mem_filter.mpr ⟨List.mem_of_getElem? (i := 176) (by decide +kernel), rfl⟩
theorem wq113 : Cond.fieldLink RX5 88 RX6 "number" "I" ∈ mm_B := List.mem_filter.mpr ⟨List.mem_of_getElem? (i := 177) (by decide +kernel), rfl⟩
theorem wq114 : Cond.fieldLink RX6 13 RX6 "home" "I" ∈ mm_B := List.mem_filter.mpr ⟨List.mem_of_getElem? (i := 178) (by decide +kernel), rfl⟩
theorem wq115 : Cond.fieldLink RX1 21 RX6 "home" "I" ∈ mm_B := List.mem_filter.mpr ⟨List.mem_of_getElem? (i := 179) (by decide +kernel), rfl⟩
theorem wq116 : Cond.fieldLink RX5 48 RX6 "home" "I" ∈ mm_B := List.mem_filter.mpr ⟨List.mem_of_getElem? (i := 180) (by decide +kernel), rfl⟩
theorem wq117 : Cond.fieldLink RX7 144 RX6 "home" "I" ∈ mm_B := List.mem_filter.mpr ⟨List.mem_of_getElem? (i := 181) (by decide +kernel), rfl⟩
theorem wq118 : Cond.fieldLink RX6 16 RX6 "position" "I" ∈ mm_B := List.mem_filter.mpr ⟨List.mem_of_getElem? (i := 182) (by decide +kernel), rfl⟩
theorem wq119 : Cond.fieldLink RX3 55 RX6 "position" "I" ∈ mm_B := List.mem_filter.mpr ⟨List.mem_of_getElem? (i := 183) (by decide +kernel), rfl⟩
theorem wq120 : Cond.fieldLink RX7 304 RX6 "position" "I" ∈ mm_B := List.mem_filter.mpr ⟨List.mem_of_getElem? (i := 184) (by decide +kernel), rfl⟩
theorem wq121 : Cond.fieldLink RX6 19 RX6 "code" "I" ∈ mm_B := List.mem_filter.mpr ⟨List.mem_of_getElem? (i := 185) (by decide +kernel), rfl⟩
theorem wq122 : Cond.fieldLink RX7 108 RX6 "code" "I" ∈ mm_B := List.mem_filter.mpr ⟨List.mem_of_getElem? (i := 186) (by decide +kernel), rfl⟩
theorem wq123 : Cond.fieldLink RX5 65 RX6 "code" "I" ∈ mm_B := List.mem_filter.mpr ⟨List.mem_of_getElem? (i := 187) (by decide +kernel), rfl⟩
theorem wq124 : Cond.fieldLink RX1 172 RX6 "code" "I" ∈ mm_B := List.mem_filter.mpr ⟨List.mem_of_getElem? (i := 188) (by decide +kernel), rfl⟩
theorem wq125 : Cond.fieldLink RX6 22 RX6 "isPrivate" "Z" ∈ mm_B := List.mem_filter.mpr ⟨List.mem_of_getElem? (i := 189) (by decide +kernel), rfl⟩
theorem wq126 : Cond.fieldLink RX7 113 RX6 "isPrivate" "Z" ∈ mm_B := List.mem_filter.mpr ⟨List.mem_of_getElem? (i := 190) (by decide +kernel), rfl⟩
theorem wq127 : Cond.fieldLink RX1 92 RX6 "isPrivate" "Z" ∈ mm_B := List.mem_filter.mpr ⟨List.mem_of_getElem? (i := 191) (by decide +kernel), rfl⟩
theorem wq128 : Cond.fieldLink RX6 26 RX6 "weight" "I" ∈ mm_B := List.mem_filter.mpr ⟨List.mem_of_getElem? (i := 192) (by decide +kernel), rfl⟩
theorem wq129 : Cond.fieldLink RX7 117 RX6 "weight" "I" ∈ mm_B := List.mem_filter.mpr ⟨List.mem_of_getElem? (i := 193) (by decide +kernel), rfl⟩
theorem wq130 : Cond.fieldLink RX5 95 RX6 "weight" "I" ∈ mm_B := List.mem_filter.mpr ⟨List.mem_of_getElem? (i := 194) (by decide +kernel), rfl⟩
theorem wq131 : Cond.fieldLink RX1 15 RX6 "isOffHook" "Z" ∈ mm_B := List.mem_filter.mpr ⟨List.mem_of_getElem? (i := 195) (by decide +kernel), rfl⟩
theorem wq132 : Cond.fieldLink RX6 29 RX6 "isOffHook" "Z" ∈ mm_B := List.mem_filter.mpr ⟨List.mem_of_getElem? (i := 196) (by decide +kernel), rfl⟩
theorem wq133 : Cond.fieldLink RX7 126 RX6 "isOffHook" "Z" ∈ mm_B := List.mem_filter.mpr ⟨List.mem_of_getElem? (i := 197) (by decide +kernel), rfl⟩
theorem wq134 : Cond.fieldLink RX5 75 RX6 "isOffHook" "Z" ∈ mm_B := List.mem_filter.mpr ⟨List.mem_of_getElem? (i := 198) (by decide +kernel), rfl⟩
theorem wq135 : Cond.fieldLink RX6 32 RX6 "isLockedOut" "Z" ∈ mm_B := List.mem_filter.mpr ⟨List.mem_of_getElem? (i := 199) (by decide +kernel), rfl⟩
theorem wq136 : Cond.fieldLink RX1 81 RX6 "isLockedOut" "Z" ∈ mm_B := List.mem_filter.mpr ⟨List.mem_of_getElem? (i := 200) (by decide +kernel), rfl⟩
theorem wq137 : Cond.fieldLink RX5 85 RX6 "isLockedOut" "Z" ∈ mm_B := List.mem_filter.mpr ⟨List.mem_of_getElem? (i := 201) (by decide +kernel), rfl⟩
theorem wq138 : Cond.fieldLink RX6 35 RX6 "meter" "I" ∈ mm_B := List.mem_filter.mpr ⟨List.mem_of_getElem? (i := 202) (by decide +kernel), rfl⟩
theorem wq139 : Cond.fieldLink RX1 147 RX6 "meter" "I" ∈ mm_B := List.mem_filter.mpr ⟨List.mem_of_getElem? (i := 203) (by decide +kernel), rfl⟩
theorem wq140 : Cond.fieldLink RX7 310 RX6 "meter" "I" ∈ mm_B := List.mem_filter.mpr ⟨List.mem_of_getElem? (i := 204) (by decide +kernel), rfl⟩
theorem wq160 : Cond.fieldLink RX5 11 RX5 "loopRow" "[LPartyLines$Loop;" ∈ mm_B := List.mem_filter.mpr ⟨List.mem_of_getElem? (i := 224) (by decide +kernel), rfl⟩
theorem wq161 : Cond.fieldLink RX5 19 RX5 "subscriberRow" "[LPartyLines$Subscriber;" ∈ mm_B := List.mem_filter.mpr ⟨List.mem_of_getElem? (i := 225) (by decide +kernel), rfl⟩
theorem wq162 : Cond.fieldLink RX5 23 RX5 "counts" "[I" ∈ mm_B := List.mem_filter.mpr ⟨List.mem_of_getElem? (i := 226) (by decide +kernel), rfl⟩
theorem wq163 : Cond.fieldLink RX1 70 RX5 "counts" "[I" ∈ mm_B := List.mem_filter.mpr ⟨List.mem_of_getElem? (i := 227) (by decide +kernel), rfl⟩
theorem wq164 : Cond.fieldLink RX7 187 RX5 "counts" "[I" ∈ mm_B := List.mem_filter.mpr ⟨List.mem_of_getElem? (i := 228) (by decide +kernel), rfl⟩
theorem wq165 : Cond.fieldLink RX5 27 RX5 "loopCount" "I" ∈ mm_B := List.mem_filter.mpr ⟨List.mem_of_getElem? (i := 229) (by decide +kernel), rfl⟩
theorem wq166 : Cond.fieldLink RX7 39 RX5 "loopCount" "I" ∈ mm_B := List.mem_filter.mpr ⟨List.mem_of_getElem? (i := 230) (by decide +kernel), rfl⟩
theorem wq167 : Cond.fieldLink RX5 31 RX5 "subscriberCount" "I" ∈ mm_B := List.mem_filter.mpr ⟨List.mem_of_getElem? (i := 231) (by decide +kernel), rfl⟩
theorem wq168 : Cond.fieldLink RX7 75 RX5 "subscriberCount" "I" ∈ mm_B := List.mem_filter.mpr ⟨List.mem_of_getElem? (i := 232) (by decide +kernel), rfl⟩
theorem wq169 : Cond.fieldLink RX5 34 RX5 "limit" "I" ∈ mm_B := List.mem_filter.mpr ⟨List.mem_of_getElem? (i := 233) (by decide +kernel), rfl⟩
theorem wq170 : Cond.fieldLink RX7 177 RX5 "limit" "I" ∈ mm_B := List.mem_filter.mpr ⟨List.mem_of_getElem? (i := 234) (by decide +kernel), rfl⟩
theorem wq171 : Cond.fieldLink RX1 150 RX5 "limit" "I" ∈ mm_B := List.mem_filter.mpr ⟨List.mem_of_getElem? (i := 235) (by decide +kernel), rfl⟩
theorem wq185 : Cond.classLink RX7 16 RX1 ∈ mm_B := List.mem_filter.mpr ⟨List.mem_of_getElem? (i := 249) (by decide +kernel), rfl⟩
theorem wq186 : Cond.instantiable RX1 1 ∈ mm_B := List.mem_filter.mpr ⟨List.mem_of_getElem? (i := 250) (by decide +kernel), rfl⟩
theorem wq187 : Cond.methodLink RX7 18 yX1_init ∈ mm_B := List.mem_filter.mpr ⟨List.mem_of_getElem? (i := 251) (by decide +kernel), rfl⟩
theorem wq188 : Cond.instanceMethod yX1_init ∈ mm_B := List.mem_filter.mpr ⟨List.mem_of_getElem? (i := 252) (by decide +kernel), rfl⟩
theorem wq189 : Cond.code yX1_init cX1_init 2 none ∈ mm_B := List.mem_filter.mpr ⟨List.mem_of_getElem? (i := 253) (by decide +kernel), rfl⟩
theorem wq190 : Cond.methodLink RX1 3 objectInit ∈ mm_B := List.mem_filter.mpr ⟨List.mem_of_getElem? (i := 254) (by decide +kernel), rfl⟩
theorem wq191 : Cond.fieldLink RX1 9 RX1 "state" "LPartyLines$State;" ∈ mm_B := List.mem_filter.mpr ⟨List.mem_of_getElem? (i := 255) (by decide +kernel), rfl⟩
theorem wq195 : Cond.classLink RX7 25 RX2 ∈ mm_B := List.mem_filter.mpr ⟨List.mem_of_getElem? (i := 259) (by decide +kernel), rfl⟩
theorem wq196 : Cond.instantiable RX2 2 ∈ mm_B := List.mem_filter.mpr ⟨List.mem_of_getElem? (i := 260) (by decide +kernel), rfl⟩
theorem wq197 : Cond.methodLink RX7 27 yX2_init ∈ mm_B := List.mem_filter.mpr ⟨List.mem_of_getElem? (i := 261) (by decide +kernel), rfl⟩
theorem wq198 : Cond.instanceMethod yX2_init ∈ mm_B := List.mem_filter.mpr ⟨List.mem_of_getElem? (i := 262) (by decide +kernel), rfl⟩
theorem wq199 : Cond.code yX2_init cX2_init 2 none ∈ mm_B := List.mem_filter.mpr ⟨List.mem_of_getElem? (i := 263) (by decide +kernel), rfl⟩
theorem wq200 : Cond.methodLink RX2 3 objectInit ∈ mm_B := List.mem_filter.mpr ⟨List.mem_of_getElem? (i := 264) (by decide +kernel), rfl⟩
theorem wq201 : Cond.classLink RX2 9 RX5 ∈ mm_B := List.mem_filter.mpr ⟨List.mem_of_getElem? (i := 265) (by decide +kernel), rfl⟩
theorem wq203 : Cond.methodLink RX2 21 yX5_init ∈ mm_B := List.mem_filter.mpr ⟨List.mem_of_getElem? (i := 267) (by decide +kernel), rfl⟩
theorem wq204 : Cond.fieldLink RX2 11 RX2 "saved" "[LPartyLines$State;" ∈ mm_B := List.mem_filter.mpr ⟨List.mem_of_getElem? (i := 268) (by decide +kernel), rfl⟩
theorem wq205 : Cond.fieldLink RX2 17 RX2 "count" "I" ∈ mm_B := List.mem_filter.mpr ⟨List.mem_of_getElem? (i := 269) (by decide +kernel), rfl⟩
theorem wq206 : Cond.fieldLink RX7 273 RX2 "count" "I" ∈ mm_B := List.mem_filter.mpr ⟨List.mem_of_getElem? (i := 270) (by decide +kernel), rfl⟩
theorem wq212 : Cond.classLink RX7 32 RX4 ∈ mm_B := List.mem_filter.mpr ⟨List.mem_of_getElem? (i := 276) (by decide +kernel), rfl⟩
theorem wq213 : Cond.instantiable RX4 2 ∈ mm_B := List.mem_filter.mpr ⟨List.mem_of_getElem? (i := 277) (by decide +kernel), rfl⟩
theorem wq214 : Cond.methodLinkNest RX7 34 yX4_init RX7 ∈ mm_nw := List.mem_filter.mpr ⟨List.mem_of_getElem? (i := 278) (by decide +kernel), rfl⟩
theorem wq215 : Cond.instanceMethod yX4_init ∈ mm_B := List.mem_filter.mpr ⟨List.mem_of_getElem? (i := 279) (by decide +kernel), rfl⟩
theorem wq216 : Cond.code yX4_init cX4_init 1 none ∈ mm_B := List.mem_filter.mpr ⟨List.mem_of_getElem? (i := 280) (by decide +kernel), rfl⟩
theorem wq217 : Cond.methodLink RX4 3 objectInit ∈ mm_B := List.mem_filter.mpr ⟨List.mem_of_getElem? (i := 281) (by decide +kernel), rfl⟩
theorem wq218 : Cond.classLink RX4 9 "[[I" ∈ mm_B := List.mem_filter.mpr ⟨List.mem_of_getElem? (i := 282) (by decide +kernel), rfl⟩
theorem wq220 : Cond.fieldLink RX4 11 RX4 "cost" "[[I" ∈ mm_B := List.mem_filter.mpr ⟨List.mem_of_getElem? (i := 284) (by decide +kernel), rfl⟩
theorem wq221 : Cond.fieldLink RX7 259 RX4 "cost" "[[I" ∈ mm_B := List.mem_filter.mpr ⟨List.mem_of_getElem? (i := 285) (by decide +kernel), rfl⟩
theorem wq222 : Cond.fieldLink RX4 16 RX4 "best" "[[I" ∈ mm_B := List.mem_filter.mpr ⟨List.mem_of_getElem? (i := 286) (by decide +kernel), rfl⟩
theorem wq223 : Cond.fieldLink RX7 263 RX4 "best" "[[I" ∈ mm_B := List.mem_filter.mpr ⟨List.mem_of_getElem? (i := 287) (by decide +kernel), rfl⟩
theorem wq229 : Cond.fieldLink RX7 10 RX7 "state" "LPartyLines$State;" ∈ mm_B := List.mem_filter.mpr ⟨List.mem_of_getElem? (i := 293) (by decide +kernel), rfl⟩
theorem wq230 : Cond.fieldLink RX7 21 RX7 "exchange" "LPartyLines$Exchange;" ∈ mm_B := List.mem_filter.mpr ⟨List.mem_of_getElem? (i := 294) (by decide +kernel), rfl⟩
theorem wq231 : Cond.fieldLink RX7 28 RX7 "history" "LPartyLines$History;" ∈ mm_B := List.mem_filter.mpr ⟨List.mem_of_getElem? (i := 295) (by decide +kernel), rfl⟩
theorem wq232 : Cond.fieldLink RX7 35 RX7 "spanTests" "LPartyLines$SpanTests;" ∈ mm_B := List.mem_filter.mpr ⟨List.mem_of_getElem? (i := 296) (by decide +kernel), rfl⟩
theorem wq242 : Cond.methodLink RL 123 yX7_loops ∈ mm_B := List.mem_filter.mpr ⟨List.mem_of_getElem? (i := 306) (by decide +kernel), rfl⟩
theorem wq243 : Cond.instanceMethod yX7_loops ∈ mm_B := List.mem_filter.mpr ⟨List.mem_of_getElem? (i := 307) (by decide +kernel), rfl⟩
theorem wq244 : Cond.selects RX7 yX7_loops yX7_loops ∈ mm_B := List.mem_filter.mpr ⟨List.mem_of_getElem? (i := 308) (by decide +kernel), rfl⟩
theorem wq245 : Cond.code yX7_loops cX7_loops 1 (some .int) ∈ mm_B := List.mem_filter.mpr ⟨List.mem_of_getElem? (i := 309) (by decide +kernel), rfl⟩
theorem wq246 : Cond.methodLink RL 127 yX7_subscribers ∈ mm_B := List.mem_filter.mpr ⟨List.mem_of_getElem? (i := 310) (by decide +kernel), rfl⟩
theorem wq247 : Cond.instanceMethod yX7_subscribers ∈ mm_B := List.mem_filter.mpr ⟨List.mem_of_getElem? (i := 311) (by decide +kernel), rfl⟩
theorem wq248 : Cond.selects RX7 yX7_subscribers yX7_subscribers ∈ mm_B := List.mem_filter.mpr ⟨List.mem_of_getElem? (i := 312) (by decide +kernel), rfl⟩
theorem wq249 : Cond.code yX7_subscribers cX7_subscribers 1 (some .int) ∈ mm_B := List.mem_filter.mpr ⟨List.mem_of_getElem? (i := 313) (by decide +kernel), rfl⟩
theorem wq250 : Cond.methodLink RL 206 yX7_digest ∈ mm_B := List.mem_filter.mpr ⟨List.mem_of_getElem? (i := 314) (by decide +kernel), rfl⟩
theorem wq251 : Cond.instanceMethod yX7_digest ∈ mm_B := List.mem_filter.mpr ⟨List.mem_of_getElem? (i := 315) (by decide +kernel), rfl⟩
theorem wq252 : Cond.selects RX7 yX7_digest yX7_digest ∈ mm_B := List.mem_filter.mpr ⟨List.mem_of_getElem? (i := 316) (by decide +kernel), rfl⟩
theorem wq253 : Cond.code yX7_digest cX7_digest 5 (some .long) ∈ mm_B := List.mem_filter.mpr ⟨List.mem_of_getElem? (i := 317) (by decide +kernel), rfl⟩
theorem wq254 : Cond.constantLong RX7 281 1857 ∈ mm_B := List.mem_filter.mpr ⟨List.mem_of_getElem? (i := 318) (by decide +kernel), rfl⟩
theorem wq255 : Cond.methodLink RX7 283 yX7_mix ∈ mm_B := List.mem_filter.mpr ⟨List.mem_of_getElem? (i := 319) (by decide +kernel), rfl⟩
theorem wq256 : Cond.static yX7_mix ∈ mm_B := List.mem_filter.mpr ⟨List.mem_of_getElem? (i := 320) (by decide +kernel), rfl⟩
theorem wq257 : Cond.code yX7_mix cX7_mix 4 (some .long) ∈ mm_B := List.mem_filter.mpr ⟨List.mem_of_getElem? (i := 321) (by decide +kernel), rfl⟩
theorem wq258 : Cond.constantLong RX7 331 31 ∈ mm_B := List.mem_filter.mpr ⟨List.mem_of_getElem? (i := 322) (by decide +kernel), rfl⟩
theorem wq259 : Cond.methodLink RX7 147 yX5_loopAt ∈ mm_B := List.mem_filter.mpr ⟨List.mem_of_getElem? (i := 323) (by decide +kernel), rfl⟩
theorem wq260 : Cond.instanceMethod yX5_loopAt ∈ mm_B := List.mem_filter.mpr ⟨List.mem_of_getElem? (i := 324) (by decide +kernel), rfl⟩
theorem wq261 : Cond.selects RX5 yX5_loopAt yX5_loopAt ∈ mm_B := List.mem_filter.mpr ⟨List.mem_of_getElem? (i := 325) (by decide +kernel), rfl⟩
theorem wq262 : Cond.code yX5_loopAt cX5_loopAt 2 (some (.object "PartyLines$Loop")) ∈ mm_B := List.mem_filter.mpr ⟨List.mem_of_getElem? (i := 326) (by decide +kernel), rfl⟩
theorem wq263 : Cond.methodLink RX7 287 yX7_mixLoop ∈ mm_B := List.mem_filter.mpr ⟨List.mem_of_getElem? (i := 327) (by decide +kernel), rfl⟩
theorem wq265 : Cond.instanceMethod yX7_mixLoop ∈ mm_B := List.mem_filter.mpr ⟨List.mem_of_getElem? (i := 329) (by decide +kernel), rfl⟩
theorem wq266 : Cond.code yX7_mixLoop cX7_mixLoop 7 (some .long) ∈ mm_B := List.mem_filter.mpr ⟨List.mem_of_getElem? (i := 330) (by decide +kernel), rfl⟩
theorem wq267 : Cond.methodLink RX7 122 yX7_loopValue ∈ mm_B := List.mem_filter.mpr ⟨List.mem_of_getElem? (i := 331) (by decide +kernel), rfl⟩
theorem wq269 : Cond.instanceMethod yX7_loopValue ∈ mm_B := List.mem_filter.mpr ⟨List.mem_of_getElem? (i := 333) (by decide +kernel), rfl⟩
theorem wq270 : Cond.code yX7_loopValue cX7_loopValue 3 (some .int) ∈ mm_B := List.mem_filter.mpr ⟨List.mem_of_getElem? (i := 334) (by decide +kernel), rfl⟩
theorem wq271 : Cond.methodLink RX7 328 yX5_countMembers ∈ mm_B := List.mem_filter.mpr ⟨List.mem_of_getElem? (i := 335) (by decide +kernel), rfl⟩
theorem wq272 : Cond.instanceMethod yX5_countMembers ∈ mm_B := List.mem_filter.mpr ⟨List.mem_of_getElem? (i := 336) (by decide +kernel), rfl⟩
theorem wq273 : Cond.selects RX5 yX5_countMembers yX5_countMembers ∈ mm_B := List.mem_filter.mpr ⟨List.mem_of_getElem? (i := 337) (by decide +kernel), rfl⟩
theorem wq274 : Cond.code yX5_countMembers cX5_countMembers 4 (some .int) ∈ mm_B := List.mem_filter.mpr ⟨List.mem_of_getElem? (i := 338) (by decide +kernel), rfl⟩
theorem wq275 : Cond.methodLink RX5 61 yX5_memberAt ∈ mm_B := List.mem_filter.mpr ⟨List.mem_of_getElem? (i := 339) (by decide +kernel), rfl⟩
theorem wq276 : Cond.instanceMethod yX5_memberAt ∈ mm_B := List.mem_filter.mpr ⟨List.mem_of_getElem? (i := 340) (by decide +kernel), rfl⟩
theorem wq277 : Cond.selects RX5 yX5_memberAt yX5_memberAt ∈ mm_B := List.mem_filter.mpr ⟨List.mem_of_getElem? (i := 341) (by decide +kernel), rfl⟩
theorem wq278 : Cond.code yX5_memberAt cX5_memberAt 4 (some (.object "PartyLines$Subscriber")) ∈ mm_B := List.mem_filter.mpr ⟨List.mem_of_getElem? (i := 342) (by decide +kernel), rfl⟩
theorem wq279 : Cond.methodLink RX5 44 yX5_subscriberAt ∈ mm_B := List.mem_filter.mpr ⟨List.mem_of_getElem? (i := 343) (by decide +kernel), rfl⟩
theorem wq280 : Cond.instanceMethod yX5_subscriberAt ∈ mm_B := List.mem_filter.mpr ⟨List.mem_of_getElem? (i := 344) (by decide +kernel), rfl⟩
theorem wq281 : Cond.selects RX5 yX5_subscriberAt yX5_subscriberAt ∈ mm_B := List.mem_filter.mpr ⟨List.mem_of_getElem? (i := 345) (by decide +kernel), rfl⟩
theorem wq282 : Cond.code yX5_subscriberAt cX5_subscriberAt 2 (some (.object "PartyLines$Subscriber")) ∈ mm_B := List.mem_filter.mpr ⟨List.mem_of_getElem? (i := 346) (by decide +kernel), rfl⟩
theorem wq283 : Cond.methodLink RX7 180 yX1_soundOf ∈ mm_B := List.mem_filter.mpr ⟨List.mem_of_getElem? (i := 347) (by decide +kernel), rfl⟩
theorem wq284 : Cond.instanceMethod yX1_soundOf ∈ mm_B := List.mem_filter.mpr ⟨List.mem_of_getElem? (i := 348) (by decide +kernel), rfl⟩
theorem wq285 : Cond.selects RX1 yX1_soundOf yX1_soundOf ∈ mm_B := List.mem_filter.mpr ⟨List.mem_of_getElem? (i := 349) (by decide +kernel), rfl⟩
theorem wq286 : Cond.code yX1_soundOf cX1_soundOf 6 (some .int) ∈ mm_B := List.mem_filter.mpr ⟨List.mem_of_getElem? (i := 350) (by decide +kernel), rfl⟩
theorem wq287 : Cond.methodLink RX1 131 yX3_isRung ∈ mm_B := List.mem_filter.mpr ⟨List.mem_of_getElem? (i := 351) (by decide +kernel), rfl⟩
theorem wq288 : Cond.instanceMethod yX3_isRung ∈ mm_B := List.mem_filter.mpr ⟨List.mem_of_getElem? (i := 352) (by decide +kernel), rfl⟩
theorem wq289 : Cond.selects RX3 yX3_isRung yX3_isRung ∈ mm_B := List.mem_filter.mpr ⟨List.mem_of_getElem? (i := 353) (by decide +kernel), rfl⟩
theorem wq290 : Cond.code yX3_isRung cX3_isRung 1 (some .boolean) ∈ mm_B := List.mem_filter.mpr ⟨List.mem_of_getElem? (i := 354) (by decide +kernel), rfl⟩
theorem wq291 : Cond.methodLink RX1 144 yX1_ticksOfRound ∈ mm_B := List.mem_filter.mpr ⟨List.mem_of_getElem? (i := 355) (by decide +kernel), rfl⟩
theorem wq293 : Cond.instanceMethod yX1_ticksOfRound ∈ mm_B := List.mem_filter.mpr ⟨List.mem_of_getElem? (i := 357) (by decide +kernel), rfl⟩
theorem wq294 : Cond.code yX1_ticksOfRound cX1_ticksOfRound 2 (some .int) ∈ mm_B := List.mem_filter.mpr ⟨List.mem_of_getElem? (i := 358) (by decide +kernel), rfl⟩
theorem wq295 : Cond.methodLink RX1 168 yX1_ticksOfCode ∈ mm_B := List.mem_filter.mpr ⟨List.mem_of_getElem? (i := 359) (by decide +kernel), rfl⟩
theorem wq297 : Cond.instanceMethod yX1_ticksOfCode ∈ mm_B := List.mem_filter.mpr ⟨List.mem_of_getElem? (i := 361) (by decide +kernel), rfl⟩
theorem wq298 : Cond.code yX1_ticksOfCode cX1_ticksOfCode 3 (some .int) ∈ mm_B := List.mem_filter.mpr ⟨List.mem_of_getElem? (i := 362) (by decide +kernel), rfl⟩
theorem wq299 : Cond.methodLink RX1 88 yX5_subscriberAt ∈ mm_B := List.mem_filter.mpr ⟨List.mem_of_getElem? (i := 363) (by decide +kernel), rfl⟩
theorem wq300 : Cond.methodLink RX1 175 yX0_lengthOf ∈ mm_B := List.mem_filter.mpr ⟨List.mem_of_getElem? (i := 364) (by decide +kernel), rfl⟩
theorem wq301 : Cond.static yX0_lengthOf ∈ mm_B := List.mem_filter.mpr ⟨List.mem_of_getElem? (i := 365) (by decide +kernel), rfl⟩
theorem wq302 : Cond.code yX0_lengthOf cX0_lengthOf 4 (some .int) ∈ mm_B := List.mem_filter.mpr ⟨List.mem_of_getElem? (i := 366) (by decide +kernel), rfl⟩
theorem wq303 : Cond.methodLink RX0 9 yX0_ringCount ∈ mm_B := List.mem_filter.mpr ⟨List.mem_of_getElem? (i := 367) (by decide +kernel), rfl⟩
theorem wq304 : Cond.static yX0_ringCount ∈ mm_B := List.mem_filter.mpr ⟨List.mem_of_getElem? (i := 368) (by decide +kernel), rfl⟩
theorem wq305 : Cond.code yX0_ringCount cX0_ringCount 2 (some .int) ∈ mm_B := List.mem_filter.mpr ⟨List.mem_of_getElem? (i := 369) (by decide +kernel), rfl⟩
theorem wq306 : Cond.methodLink RX1 180 yX0_soundAt ∈ mm_B := List.mem_filter.mpr ⟨List.mem_of_getElem? (i := 370) (by decide +kernel), rfl⟩
theorem wq307 : Cond.static yX0_soundAt ∈ mm_B := List.mem_filter.mpr ⟨List.mem_of_getElem? (i := 371) (by decide +kernel), rfl⟩
theorem wq308 : Cond.code yX0_soundAt cX0_soundAt 7 (some .int) ∈ mm_B := List.mem_filter.mpr ⟨List.mem_of_getElem? (i := 372) (by decide +kernel), rfl⟩
theorem wq309 : Cond.methodLink RX0 13 yX0_isLong ∈ mm_B := List.mem_filter.mpr ⟨List.mem_of_getElem? (i := 373) (by decide +kernel), rfl⟩
theorem wq310 : Cond.static yX0_isLong ∈ mm_B := List.mem_filter.mpr ⟨List.mem_of_getElem? (i := 374) (by decide +kernel), rfl⟩
theorem wq311 : Cond.code yX0_isLong cX0_isLong 3 (some .boolean) ∈ mm_B := List.mem_filter.mpr ⟨List.mem_of_getElem? (i := 375) (by decide +kernel), rfl⟩
theorem wq312 : Cond.methodLink RX7 203 yX5_costOfCodes ∈ mm_B := List.mem_filter.mpr ⟨List.mem_of_getElem? (i := 376) (by decide +kernel), rfl⟩
theorem wq313 : Cond.instanceMethod yX5_costOfCodes ∈ mm_B := List.mem_filter.mpr ⟨List.mem_of_getElem? (i := 377) (by decide +kernel), rfl⟩
theorem wq314 : Cond.selects RX5 yX5_costOfCodes yX5_costOfCodes ∈ mm_B := List.mem_filter.mpr ⟨List.mem_of_getElem? (i := 378) (by decide +kernel), rfl⟩
theorem wq315 : Cond.code yX5_costOfCodes cX5_costOfCodes 5 (some .int) ∈ mm_B := List.mem_filter.mpr ⟨List.mem_of_getElem? (i := 379) (by decide +kernel), rfl⟩
theorem wq316 : Cond.methodLink RX5 98 yX0_lengthOf ∈ mm_B := List.mem_filter.mpr ⟨List.mem_of_getElem? (i := 380) (by decide +kernel), rfl⟩
theorem wq317 : Cond.methodLink RX7 291 yX5_subscriberAt ∈ mm_B := List.mem_filter.mpr ⟨List.mem_of_getElem? (i := 381) (by decide +kernel), rfl⟩
theorem wq318 : Cond.methodLink RX7 294 yX7_mixSubscriber ∈ mm_B := List.mem_filter.mpr ⟨List.mem_of_getElem? (i := 382) (by decide +kernel), rfl⟩
theorem wq320 : Cond.instanceMethod yX7_mixSubscriber ∈ mm_B := List.mem_filter.mpr ⟨List.mem_of_getElem? (i := 384) (by decide +kernel), rfl⟩
theorem wq321 : Cond.code yX7_mixSubscriber cX7_mixSubscriber 7 (some .long) ∈ mm_B := List.mem_filter.mpr ⟨List.mem_of_getElem? (i := 385) (by decide +kernel), rfl⟩
theorem wq322 : Cond.methodLink RX7 104 yX7_subscriberValue ∈ mm_B := List.mem_filter.mpr ⟨List.mem_of_getElem? (i := 386) (by decide +kernel), rfl⟩
theorem wq324 : Cond.instanceMethod yX7_subscriberValue ∈ mm_B := List.mem_filter.mpr ⟨List.mem_of_getElem? (i := 388) (by decide +kernel), rfl⟩
theorem wq325 : Cond.code yX7_subscriberValue cX7_subscriberValue 3 (some .int) ∈ mm_B := List.mem_filter.mpr ⟨List.mem_of_getElem? (i := 389) (by decide +kernel), rfl⟩
theorem wq326 : Cond.methodLink RX7 307 yX5_standingOf ∈ mm_B := List.mem_filter.mpr ⟨List.mem_of_getElem? (i := 390) (by decide +kernel), rfl⟩
theorem wq327 : Cond.instanceMethod yX5_standingOf ∈ mm_B := List.mem_filter.mpr ⟨List.mem_of_getElem? (i := 391) (by decide +kernel), rfl⟩
theorem wq328 : Cond.selects RX5 yX5_standingOf yX5_standingOf ∈ mm_B := List.mem_filter.mpr ⟨List.mem_of_getElem? (i := 392) (by decide +kernel), rfl⟩
theorem wq329 : Cond.code yX5_standingOf cX5_standingOf 2 (some .int) ∈ mm_B := List.mem_filter.mpr ⟨List.mem_of_getElem? (i := 393) (by decide +kernel), rfl⟩
theorem wq330 : Cond.methodLink RX5 79 yX5_isCutOff ∈ mm_B := List.mem_filter.mpr ⟨List.mem_of_getElem? (i := 394) (by decide +kernel), rfl⟩
theorem wq331 : Cond.instanceMethod yX5_isCutOff ∈ mm_B := List.mem_filter.mpr ⟨List.mem_of_getElem? (i := 395) (by decide +kernel), rfl⟩
theorem wq332 : Cond.selects RX5 yX5_isCutOff yX5_isCutOff ∈ mm_B := List.mem_filter.mpr ⟨List.mem_of_getElem? (i := 396) (by decide +kernel), rfl⟩
theorem wq333 : Cond.code yX5_isCutOff cX5_isCutOff 3 (some .boolean) ∈ mm_B := List.mem_filter.mpr ⟨List.mem_of_getElem? (i := 397) (by decide +kernel), rfl⟩
theorem wq334 : Cond.methodLink RX5 54 yX5_loopAt ∈ mm_B := List.mem_filter.mpr ⟨List.mem_of_getElem? (i := 398) (by decide +kernel), rfl⟩
theorem wq335 : Cond.methodLink RX5 71 yX3_cutsOff ∈ mm_B := List.mem_filter.mpr ⟨List.mem_of_getElem? (i := 399) (by decide +kernel), rfl⟩
theorem wq336 : Cond.instanceMethod yX3_cutsOff ∈ mm_B := List.mem_filter.mpr ⟨List.mem_of_getElem? (i := 400) (by decide +kernel), rfl⟩
theorem wq337 : Cond.selects RX3 yX3_cutsOff yX3_cutsOff ∈ mm_B := List.mem_filter.mpr ⟨List.mem_of_getElem? (i := 401) (by decide +kernel), rfl⟩
theorem wq338 : Cond.code yX3_cutsOff cX3_cutsOff 2 (some .boolean) ∈ mm_B := List.mem_filter.mpr ⟨List.mem_of_getElem? (i := 402) (by decide +kernel), rfl⟩
theorem wq339 : Cond.methodLink RX3 51 yX3_hasFault ∈ mm_B := List.mem_filter.mpr ⟨List.mem_of_getElem? (i := 403) (by decide +kernel), rfl⟩
theorem wq340 : Cond.instanceMethod yX3_hasFault ∈ mm_B := List.mem_filter.mpr ⟨List.mem_of_getElem? (i := 404) (by decide +kernel), rfl⟩
theorem wq341 : Cond.selects RX3 yX3_hasFault yX3_hasFault ∈ mm_B := List.mem_filter.mpr ⟨List.mem_of_getElem? (i := 405) (by decide +kernel), rfl⟩
theorem wq342 : Cond.code yX3_hasFault cX3_hasFault 1 (some .boolean) ∈ mm_B := List.mem_filter.mpr ⟨List.mem_of_getElem? (i := 406) (by decide +kernel), rfl⟩
theorem wq343 : Cond.methodLink RX5 82 yX5_isParty ∈ mm_B := List.mem_filter.mpr ⟨List.mem_of_getElem? (i := 407) (by decide +kernel), rfl⟩
theorem wq344 : Cond.instanceMethod yX5_isParty ∈ mm_B := List.mem_filter.mpr ⟨List.mem_of_getElem? (i := 408) (by decide +kernel), rfl⟩
theorem wq345 : Cond.selects RX5 yX5_isParty yX5_isParty ∈ mm_B := List.mem_filter.mpr ⟨List.mem_of_getElem? (i := 409) (by decide +kernel), rfl⟩
theorem wq346 : Cond.code yX5_isParty cX5_isParty 3 (some .boolean) ∈ mm_B := List.mem_filter.mpr ⟨List.mem_of_getElem? (i := 410) (by decide +kernel), rfl⟩
theorem wq347 : Cond.methodLink RL 107 yL_addLoop ∈ mm_B := List.mem_filter.mpr ⟨List.mem_of_getElem? (i := 411) (by decide +kernel), rfl⟩
theorem wq348 : Cond.static yL_addLoop ∈ mm_B := List.mem_filter.mpr ⟨List.mem_of_getElem? (i := 412) (by decide +kernel), rfl⟩
theorem wq349 : Cond.codeWith yL_addLoop cL_addLoop 3 (some .int) [(0, 8, 11, 13)] ∈ mm_B := List.mem_filter.mpr ⟨List.mem_of_getElem? (i := 413) (by decide +kernel), rfl⟩
theorem wq350 : Cond.classLink RL 13 "java/lang/IllegalStateException" ∈ mm_B := List.mem_filter.mpr ⟨List.mem_of_getElem? (i := 414) (by decide +kernel), rfl⟩
theorem wq351 : Cond.methodLink RL 7 yX7_addLoop ∈ mm_B := List.mem_filter.mpr ⟨List.mem_of_getElem? (i := 415) (by decide +kernel), rfl⟩
theorem wq352 : Cond.instanceMethod yX7_addLoop ∈ mm_B := List.mem_filter.mpr ⟨List.mem_of_getElem? (i := 416) (by decide +kernel), rfl⟩
theorem wq353 : Cond.selects RX7 yX7_addLoop yX7_addLoop ∈ mm_B := List.mem_filter.mpr ⟨List.mem_of_getElem? (i := 417) (by decide +kernel), rfl⟩
theorem wq354 : Cond.code yX7_addLoop cX7_addLoop 1 (some .int) ∈ mm_B := List.mem_filter.mpr ⟨List.mem_of_getElem? (i := 418) (by decide +kernel), rfl⟩
theorem wq355 : Cond.classLink RX7 43 "java/lang/IllegalStateException" ∈ mm_B := List.mem_filter.mpr ⟨List.mem_of_getElem? (i := 419) (by decide +kernel), rfl⟩
theorem wq356 : Cond.instantiable "java/lang/IllegalStateException" 6 ∈ mm_B := List.mem_filter.mpr ⟨List.mem_of_getElem? (i := 420) (by decide +kernel), rfl⟩
theorem wq357 : Cond.castable "java/lang/IllegalStateException" "java/lang/IllegalStateException" ∈ mm_nw := List.mem_filter.mpr ⟨List.mem_of_getElem? (i := 421) (by decide +kernel), rfl⟩
theorem wq364 : Cond.selects "java/lang/IllegalStateException" ⟨"java/lang/Throwable", "fillInStackTrace", "(I)Ljava/lang/Throwable;"⟩ ⟨"java/lang/Throwable", "fillInStackTrace", "(I)Ljava/lang/Throwable;"⟩ ∈ mm_B := List.mem_filter.mpr ⟨List.mem_of_getElem? (i := 428) (by decide +kernel), rfl⟩
theorem wq365 : Cond.selects "java/lang/IllegalStateException" ⟨"java/lang/Throwable", "fillInStackTrace", "()Ljava/lang/Throwable;"⟩ ⟨"java/lang/Throwable", "fillInStackTrace", "()Ljava/lang/Throwable;"⟩ ∈ mm_B := List.mem_filter.mpr ⟨List.mem_of_getElem? (i := 429) (by decide +kernel), rfl⟩
theorem wq376 : Cond.fieldLink "java/lang/Throwable" 198 "java/lang/Throwable" "backtrace" "Ljava/lang/Object;" ∈ mm_B := List.mem_filter.mpr ⟨List.mem_of_getElem? (i := 440) (by decide +kernel), rfl⟩
theorem wq378 : Cond.instanceMethod ⟨"java/lang/Throwable", "<init>", "()V"⟩ ∈ mm_B := List.mem_filter.mpr ⟨List.mem_of_getElem? (i := 442) (by decide +kernel), rfl⟩
theorem wq380 : Cond.methodLink "java/lang/Throwable" 1 objectInit ∈ mm_B := List.mem_filter.mpr ⟨List.mem_of_getElem? (i := 444) (by decide +kernel), rfl⟩
theorem wq381 : Cond.fieldLink "java/lang/Throwable" 13 "java/lang/Throwable" "UNASSIGNED_STACK" "[Ljava/lang/StackTraceElement;" ∈ mm_B := List.mem_filter.mpr ⟨List.mem_of_getElem? (i := 445) (by decide +kernel), rfl⟩
theorem wq383 : Cond.fieldLink "java/lang/Throwable" 20 "java/lang/Throwable" "SUPPRESSED_SENTINEL" "Ljava/util/List;" ∈ mm_B := List.mem_filter.mpr ⟨List.mem_of_getElem? (i := 447) (by decide +kernel), rfl⟩
theorem wq385 : Cond.methodLink "java/lang/Throwable" 27 ⟨"java/lang/Throwable", "fillInStackTrace", "()Ljava/lang/Throwable;"⟩ ∈ mm_B := List.mem_filter.mpr ⟨List.mem_of_getElem? (i := 449) (by decide +kernel), rfl⟩
theorem wq386 : Cond.instanceMethod ⟨"java/lang/Throwable", "fillInStackTrace", "()Ljava/lang/Throwable;"⟩ ∈ mm_B := List.mem_filter.mpr ⟨List.mem_of_getElem? (i := 450) (by decide +kernel), rfl⟩
theorem wq388 : Cond.selects "java/lang/IllegalArgumentException" ⟨"java/lang/Throwable", "fillInStackTrace", "()Ljava/lang/Throwable;"⟩ ⟨"java/lang/Throwable", "fillInStackTrace", "()Ljava/lang/Throwable;"⟩ ∈ mm_B := List.mem_filter.mpr ⟨List.mem_of_getElem? (i := 452) (by decide +kernel), rfl⟩
theorem wq389 : Cond.selects "java/lang/IndexOutOfBoundsException" ⟨"java/lang/Throwable", "fillInStackTrace", "()Ljava/lang/Throwable;"⟩ ⟨"java/lang/Throwable", "fillInStackTrace", "()Ljava/lang/Throwable;"⟩ ∈ mm_B := List.mem_filter.mpr ⟨List.mem_of_getElem? (i := 453) (by decide +kernel), rfl⟩
theorem wq391 : Cond.methodLink "java/lang/Throwable" 202 ⟨"java/lang/Throwable", "fillInStackTrace", "(I)Ljava/lang/Throwable;"⟩ ∈ mm_B := List.mem_filter.mpr ⟨List.mem_of_getElem? (i := 455) (by decide +kernel), rfl⟩
theorem wq393 : Cond.instanceMethod ⟨"java/lang/Throwable", "fillInStackTrace", "(I)Ljava/lang/Throwable;"⟩ ∈ mm_B := List.mem_filter.mpr ⟨List.mem_of_getElem? (i := 457) (by decide +kernel), rfl⟩
theorem wq394 : Cond.instantiable "java/lang/Throwable" 6 ∈ mm_B := List.mem_filter.mpr ⟨List.mem_of_getElem? (i := 458) (by decide +kernel), rfl⟩
theorem wq397 : Cond.methodLink RX7 47 ⟨"java/lang/IllegalStateException", "<init>", "(Ljava/lang/String;)V"⟩ ∈ mm_B := List.mem_filter.mpr ⟨List.mem_of_getElem? (i := 461) (by decide +kernel), rfl⟩
theorem wq398 : Cond.instanceMethod ⟨"java/lang/IllegalStateException", "<init>", "(Ljava/lang/String;)V"⟩ ∈ mm_B := List.mem_filter.mpr ⟨List.mem_of_getElem? (i := 462) (by decide +kernel), rfl⟩
theorem wq400 : Cond.methodLink "java/lang/IllegalStateException" 7 ⟨"java/lang/RuntimeException", "<init>", "(Ljava/lang/String;)V"⟩ ∈ mm_B := List.mem_filter.mpr ⟨List.mem_of_getElem? (i := 464) (by decide +kernel), rfl⟩
theorem wq401 : Cond.instanceMethod ⟨"java/lang/RuntimeException", "<init>", "(Ljava/lang/String;)V"⟩ ∈ mm_B := List.mem_filter.mpr ⟨List.mem_of_getElem? (i := 465) (by decide +kernel), rfl⟩
theorem wq403 : Cond.methodLink "java/lang/RuntimeException" 7 ⟨"java/lang/Exception", "<init>", "(Ljava/lang/String;)V"⟩ ∈ mm_B := List.mem_filter.mpr ⟨List.mem_of_getElem? (i := 467) (by decide +kernel), rfl⟩
theorem wq404 : Cond.instanceMethod ⟨"java/lang/Exception", "<init>", "(Ljava/lang/String;)V"⟩ ∈ mm_B := List.mem_filter.mpr ⟨List.mem_of_getElem? (i := 468) (by decide +kernel), rfl⟩
theorem wq406 : Cond.methodLink "java/lang/Exception" 7 ⟨"java/lang/Throwable", "<init>", "(Ljava/lang/String;)V"⟩ ∈ mm_B := List.mem_filter.mpr ⟨List.mem_of_getElem? (i := 470) (by decide +kernel), rfl⟩
theorem wq407 : Cond.instanceMethod ⟨"java/lang/Throwable", "<init>", "(Ljava/lang/String;)V"⟩ ∈ mm_B := List.mem_filter.mpr ⟨List.mem_of_getElem? (i := 471) (by decide +kernel), rfl⟩
theorem wq410 : Cond.fieldLink "java/lang/Throwable" 31 "java/lang/Throwable" "detailMessage" "Ljava/lang/String;" ∈ mm_B := List.mem_filter.mpr ⟨List.mem_of_getElem? (i := 474) (by decide +kernel), rfl⟩
theorem wq411 : Cond.fieldLink "java/lang/Throwable" 7 "java/lang/Throwable" "cause" "Ljava/lang/Throwable;" ∈ mm_B := List.mem_filter.mpr ⟨List.mem_of_getElem? (i := 475) (by decide +kernel), rfl⟩
theorem wq412 : Cond.fieldLink "java/lang/Throwable" 17 "java/lang/Throwable" "stackTrace" "[Ljava/lang/StackTraceElement;" ∈ mm_B := List.mem_filter.mpr ⟨List.mem_of_getElem? (i := 476) (by decide +kernel), rfl⟩
theorem wq413 : Cond.fieldLink "java/lang/Throwable" 24 "java/lang/Throwable" "suppressedExceptions" "Ljava/util/List;" ∈ mm_B := List.mem_filter.mpr ⟨List.mem_of_getElem? (i := 477) (by decide +kernel), rfl⟩
theorem wq422 : Cond.arrayClass .byte ∈ mm_B := List.mem_filter.mpr ⟨List.mem_of_getElem? (i := 486) (by decide +kernel), rfl⟩
theorem wq423 : Cond.methodLink RX7 50 yX2_save ∈ mm_B := List.mem_filter.mpr ⟨List.mem_of_getElem? (i := 487) (by decide +kernel), rfl⟩
theorem wq424 : Cond.instanceMethod yX2_save ∈ mm_B := List.mem_filter.mpr ⟨List.mem_of_getElem? (i := 488) (by decide +kernel), rfl⟩
theorem wq425 : Cond.selects RX2 yX2_save yX2_save ∈ mm_B := List.mem_filter.mpr ⟨List.mem_of_getElem? (i := 489) (by decide +kernel), rfl⟩
theorem wq426 : Cond.code yX2_save cX2_save 3 none ∈ mm_B := List.mem_filter.mpr ⟨List.mem_of_getElem? (i := 490) (by decide +kernel), rfl⟩
theorem wq427 : Cond.methodLink RX2 22 yX2_dropOldest ∈ mm_B := List.mem_filter.mpr ⟨List.mem_of_getElem? (i := 491) (by decide +kernel), rfl⟩
theorem wq429 : Cond.instanceMethod yX2_dropOldest ∈ mm_B := List.mem_filter.mpr ⟨List.mem_of_getElem? (i := 493) (by decide +kernel), rfl⟩
theorem wq430 : Cond.code yX2_dropOldest cX2_dropOldest 3 none ∈ mm_B := List.mem_filter.mpr ⟨List.mem_of_getElem? (i := 494) (by decide +kernel), rfl⟩
theorem wq431 : Cond.methodLink RX2 25 yX2_savedAt ∈ mm_B := List.mem_filter.mpr ⟨List.mem_of_getElem? (i := 495) (by decide +kernel), rfl⟩
theorem wq433 : Cond.instanceMethod yX2_savedAt ∈ mm_B := List.mem_filter.mpr ⟨List.mem_of_getElem? (i := 497) (by decide +kernel), rfl⟩
theorem wq434 : Cond.code yX2_savedAt cX2_savedAt 2 (some (.object "PartyLines$State")) ∈ mm_B := List.mem_filter.mpr ⟨List.mem_of_getElem? (i := 498) (by decide +kernel), rfl⟩
theorem wq435 : Cond.methodLink RX2 29 yX5_copyFrom ∈ mm_B := List.mem_filter.mpr ⟨List.mem_of_getElem? (i := 499) (by decide +kernel), rfl⟩
theorem wq436 : Cond.instanceMethod yX5_copyFrom ∈ mm_B := List.mem_filter.mpr ⟨List.mem_of_getElem? (i := 500) (by decide +kernel), rfl⟩
theorem wq437 : Cond.selects RX5 yX5_copyFrom yX5_copyFrom ∈ mm_B := List.mem_filter.mpr ⟨List.mem_of_getElem? (i := 501) (by decide +kernel), rfl⟩
theorem wq438 : Cond.code yX5_copyFrom cX5_copyFrom 5 none ∈ mm_B := List.mem_filter.mpr ⟨List.mem_of_getElem? (i := 502) (by decide +kernel), rfl⟩
theorem wq439 : Cond.methodLink RX5 114 yX3_copyFrom ∈ mm_B := List.mem_filter.mpr ⟨List.mem_of_getElem? (i := 503) (by decide +kernel), rfl⟩
theorem wq440 : Cond.instanceMethod yX3_copyFrom ∈ mm_B := List.mem_filter.mpr ⟨List.mem_of_getElem? (i := 504) (by decide +kernel), rfl⟩
theorem wq441 : Cond.selects RX3 yX3_copyFrom yX3_copyFrom ∈ mm_B := List.mem_filter.mpr ⟨List.mem_of_getElem? (i := 505) (by decide +kernel), rfl⟩
theorem wq442 : Cond.code yX3_copyFrom cX3_copyFrom 3 none ∈ mm_B := List.mem_filter.mpr ⟨List.mem_of_getElem? (i := 506) (by decide +kernel), rfl⟩
theorem wq443 : Cond.methodLink RX5 118 yX6_copyFrom ∈ mm_B := List.mem_filter.mpr ⟨List.mem_of_getElem? (i := 507) (by decide +kernel), rfl⟩
theorem wq444 : Cond.instanceMethod yX6_copyFrom ∈ mm_B := List.mem_filter.mpr ⟨List.mem_of_getElem? (i := 508) (by decide +kernel), rfl⟩
theorem wq445 : Cond.selects RX6 yX6_copyFrom yX6_copyFrom ∈ mm_B := List.mem_filter.mpr ⟨List.mem_of_getElem? (i := 509) (by decide +kernel), rfl⟩
theorem wq446 : Cond.code yX6_copyFrom cX6_copyFrom 2 none ∈ mm_B := List.mem_filter.mpr ⟨List.mem_of_getElem? (i := 510) (by decide +kernel), rfl⟩
theorem wq447 : Cond.methodLink RX7 53 yX5_openLoop ∈ mm_B := List.mem_filter.mpr ⟨List.mem_of_getElem? (i := 511) (by decide +kernel), rfl⟩
theorem wq448 : Cond.instanceMethod yX5_openLoop ∈ mm_B := List.mem_filter.mpr ⟨List.mem_of_getElem? (i := 512) (by decide +kernel), rfl⟩
theorem wq449 : Cond.selects RX5 yX5_openLoop yX5_openLoop ∈ mm_B := List.mem_filter.mpr ⟨List.mem_of_getElem? (i := 513) (by decide +kernel), rfl⟩
theorem wq450 : Cond.code yX5_openLoop cX5_openLoop 3 (some .int) ∈ mm_B := List.mem_filter.mpr ⟨List.mem_of_getElem? (i := 514) (by decide +kernel), rfl⟩
theorem wq451 : Cond.methodLink RL 116 yL_addSubscriber ∈ mm_B := List.mem_filter.mpr ⟨List.mem_of_getElem? (i := 515) (by decide +kernel), rfl⟩
theorem wq452 : Cond.static yL_addSubscriber ∈ mm_B := List.mem_filter.mpr ⟨List.mem_of_getElem? (i := 516) (by decide +kernel), rfl⟩
theorem wq453 : Cond.codeWith yL_addSubscriber cL_addSubscriber 6 (some .int) [(0, 12, 15, 19), (0, 12, 19, 21), (0, 12, 23, 13)] ∈ mm_B := List.mem_filter.mpr ⟨List.mem_of_getElem? (i := 517) (by decide +kernel), rfl⟩
theorem wq454 : Cond.classLink RL 19 "java/lang/IndexOutOfBoundsException" ∈ mm_B := List.mem_filter.mpr ⟨List.mem_of_getElem? (i := 518) (by decide +kernel), rfl⟩
theorem wq455 : Cond.classLink RL 21 "java/lang/IllegalArgumentException" ∈ mm_B := List.mem_filter.mpr ⟨List.mem_of_getElem? (i := 519) (by decide +kernel), rfl⟩
theorem wq456 : Cond.methodLink RL 15 yX7_addSubscriber ∈ mm_B := List.mem_filter.mpr ⟨List.mem_of_getElem? (i := 520) (by decide +kernel), rfl⟩
theorem wq457 : Cond.instanceMethod yX7_addSubscriber ∈ mm_B := List.mem_filter.mpr ⟨List.mem_of_getElem? (i := 521) (by decide +kernel), rfl⟩
theorem wq458 : Cond.selects RX7 yX7_addSubscriber yX7_addSubscriber ∈ mm_B := List.mem_filter.mpr ⟨List.mem_of_getElem? (i := 522) (by decide +kernel), rfl⟩
theorem wq459 : Cond.code yX7_addSubscriber cX7_addSubscriber 5 (some .int) ∈ mm_B := List.mem_filter.mpr ⟨List.mem_of_getElem? (i := 523) (by decide +kernel), rfl⟩
theorem wq460 : Cond.methodLink RX7 57 yX7_knownLoop ∈ mm_B := List.mem_filter.mpr ⟨List.mem_of_getElem? (i := 524) (by decide +kernel), rfl⟩
theorem wq462 : Cond.instanceMethod yX7_knownLoop ∈ mm_B := List.mem_filter.mpr ⟨List.mem_of_getElem? (i := 526) (by decide +kernel), rfl⟩
theorem wq463 : Cond.code yX7_knownLoop cX7_knownLoop 3 (some (.object "PartyLines$Loop")) ∈ mm_B := List.mem_filter.mpr ⟨List.mem_of_getElem? (i := 527) (by decide +kernel), rfl⟩
theorem wq464 : Cond.classLink RX7 218 "java/lang/IndexOutOfBoundsException" ∈ mm_B := List.mem_filter.mpr ⟨List.mem_of_getElem? (i := 528) (by decide +kernel), rfl⟩
theorem wq465 : Cond.instantiable "java/lang/IndexOutOfBoundsException" 6 ∈ mm_B := List.mem_filter.mpr ⟨List.mem_of_getElem? (i := 529) (by decide +kernel), rfl⟩
theorem wq466 : Cond.castable "java/lang/IndexOutOfBoundsException" "java/lang/IndexOutOfBoundsException" ∈ mm_nw := List.mem_filter.mpr ⟨List.mem_of_getElem? (i := 530) (by decide +kernel), rfl⟩
theorem wq467 : Cond.selects "java/lang/IndexOutOfBoundsException" ⟨"java/lang/Throwable", "fillInStackTrace", "(I)Ljava/lang/Throwable;"⟩ ⟨"java/lang/Throwable", "fillInStackTrace", "(I)Ljava/lang/Throwable;"⟩ ∈ mm_B := List.mem_filter.mpr ⟨List.mem_of_getElem? (i := 531) (by decide +kernel), rfl⟩
theorem wq474 : Cond.methodLink RX7 222 ⟨"java/lang/IndexOutOfBoundsException", "<init>", "(Ljava/lang/String;)V"⟩ ∈ mm_B := List.mem_filter.mpr ⟨List.mem_of_getElem? (i := 538) (by decide +kernel), rfl⟩
theorem wq475 : Cond.instanceMethod ⟨"java/lang/IndexOutOfBoundsException", "<init>", "(Ljava/lang/String;)V"⟩ ∈ mm_B := List.mem_filter.mpr ⟨List.mem_of_getElem? (i := 539) (by decide +kernel), rfl⟩
theorem wq477 : Cond.methodLink "java/lang/IndexOutOfBoundsException" 7 ⟨"java/lang/RuntimeException", "<init>", "(Ljava/lang/String;)V"⟩ ∈ mm_B := List.mem_filter.mpr ⟨List.mem_of_getElem? (i := 541) (by decide +kernel), rfl⟩
theorem wq480 : Cond.methodLink RX7 61 yX7_isSpan ∈ mm_B := List.mem_filter.mpr ⟨List.mem_of_getElem? (i := 544) (by decide +kernel), rfl⟩
theorem wq481 : Cond.static yX7_isSpan ∈ mm_B := List.mem_filter.mpr ⟨List.mem_of_getElem? (i := 545) (by decide +kernel), rfl⟩
theorem wq482 : Cond.code yX7_isSpan cX7_isSpan 1 (some .boolean) ∈ mm_B := List.mem_filter.mpr ⟨List.mem_of_getElem? (i := 546) (by decide +kernel), rfl⟩
theorem wq483 : Cond.methodLink RX7 65 yX0_isCode ∈ mm_B := List.mem_filter.mpr ⟨List.mem_of_getElem? (i := 547) (by decide +kernel), rfl⟩
theorem wq484 : Cond.static yX0_isCode ∈ mm_B := List.mem_filter.mpr ⟨List.mem_of_getElem? (i := 548) (by decide +kernel), rfl⟩
theorem wq485 : Cond.code yX0_isCode cX0_isCode 1 (some .boolean) ∈ mm_B := List.mem_filter.mpr ⟨List.mem_of_getElem? (i := 549) (by decide +kernel), rfl⟩
theorem wq486 : Cond.classLink RX7 70 "java/lang/IllegalArgumentException" ∈ mm_B := List.mem_filter.mpr ⟨List.mem_of_getElem? (i := 550) (by decide +kernel), rfl⟩
theorem wq487 : Cond.instantiable "java/lang/IllegalArgumentException" 6 ∈ mm_B := List.mem_filter.mpr ⟨List.mem_of_getElem? (i := 551) (by decide +kernel), rfl⟩
theorem wq488 : Cond.castable "java/lang/IllegalArgumentException" "java/lang/IllegalArgumentException" ∈ mm_nw := List.mem_filter.mpr ⟨List.mem_of_getElem? (i := 552) (by decide +kernel), rfl⟩
theorem wq489 : Cond.selects "java/lang/IllegalArgumentException" ⟨"java/lang/Throwable", "fillInStackTrace", "(I)Ljava/lang/Throwable;"⟩ ⟨"java/lang/Throwable", "fillInStackTrace", "(I)Ljava/lang/Throwable;"⟩ ∈ mm_B := List.mem_filter.mpr ⟨List.mem_of_getElem? (i := 553) (by decide +kernel), rfl⟩
theorem wq496 : Cond.methodLink RX7 74 ⟨"java/lang/IllegalArgumentException", "<init>", "(Ljava/lang/String;)V"⟩ ∈ mm_B := List.mem_filter.mpr ⟨List.mem_of_getElem? (i := 560) (by decide +kernel), rfl⟩
theorem wq497 : Cond.instanceMethod ⟨"java/lang/IllegalArgumentException", "<init>", "(Ljava/lang/String;)V"⟩ ∈ mm_B := List.mem_filter.mpr ⟨List.mem_of_getElem? (i := 561) (by decide +kernel), rfl⟩
theorem wq499 : Cond.methodLink "java/lang/IllegalArgumentException" 7 ⟨"java/lang/RuntimeException", "<init>", "(Ljava/lang/String;)V"⟩ ∈ mm_B := List.mem_filter.mpr ⟨List.mem_of_getElem? (i := 563) (by decide +kernel), rfl⟩
theorem wq502 : Cond.methodLink RX7 78 yX5_hasCode ∈ mm_B := List.mem_filter.mpr ⟨List.mem_of_getElem? (i := 566) (by decide +kernel), rfl⟩
theorem wq503 : Cond.instanceMethod yX5_hasCode ∈ mm_B := List.mem_filter.mpr ⟨List.mem_of_getElem? (i := 567) (by decide +kernel), rfl⟩
theorem wq504 : Cond.selects RX5 yX5_hasCode yX5_hasCode ∈ mm_B := List.mem_filter.mpr ⟨List.mem_of_getElem? (i := 568) (by decide +kernel), rfl⟩
theorem wq505 : Cond.code yX5_hasCode cX5_hasCode 6 (some .boolean) ∈ mm_B := List.mem_filter.mpr ⟨List.mem_of_getElem? (i := 569) (by decide +kernel), rfl⟩
theorem wq507 : Cond.methodLink RX7 84 yX5_enroll ∈ mm_B := List.mem_filter.mpr ⟨List.mem_of_getElem? (i := 571) (by decide +kernel), rfl⟩
theorem wq508 : Cond.instanceMethod yX5_enroll ∈ mm_B := List.mem_filter.mpr ⟨List.mem_of_getElem? (i := 572) (by decide +kernel), rfl⟩
theorem wq509 : Cond.selects RX5 yX5_enroll yX5_enroll ∈ mm_B := List.mem_filter.mpr ⟨List.mem_of_getElem? (i := 573) (by decide +kernel), rfl⟩
theorem wq510 : Cond.code yX5_enroll cX5_enroll 6 (some .int) ∈ mm_B := List.mem_filter.mpr ⟨List.mem_of_getElem? (i := 574) (by decide +kernel), rfl⟩
theorem wq511 : Cond.methodLink RX5 58 yX6_begin ∈ mm_B := List.mem_filter.mpr ⟨List.mem_of_getElem? (i := 575) (by decide +kernel), rfl⟩
theorem wq512 : Cond.instanceMethod yX6_begin ∈ mm_B := List.mem_filter.mpr ⟨List.mem_of_getElem? (i := 576) (by decide +kernel), rfl⟩
theorem wq513 : Cond.selects RX6 yX6_begin yX6_begin ∈ mm_B := List.mem_filter.mpr ⟨List.mem_of_getElem? (i := 577) (by decide +kernel), rfl⟩
theorem wq514 : Cond.code yX6_begin cX6_begin 4 none ∈ mm_B := List.mem_filter.mpr ⟨List.mem_of_getElem? (i := 578) (by decide +kernel), rfl⟩
theorem wq515 : Cond.methodLink RL 120 yL_set ∈ mm_B := List.mem_filter.mpr ⟨List.mem_of_getElem? (i := 579) (by decide +kernel), rfl⟩
theorem wq516 : Cond.static yL_set ∈ mm_B := List.mem_filter.mpr ⟨List.mem_of_getElem? (i := 580) (by decide +kernel), rfl⟩
theorem wq517 : Cond.codeWith yL_set cL_set 6 (some .int) [(0, 12, 15, 19), (0, 12, 19, 21), (0, 12, 23, 13)] ∈ mm_B := List.mem_filter.mpr ⟨List.mem_of_getElem? (i := 581) (by decide +kernel), rfl⟩
theorem wq518 : Cond.methodLink RL 23 yX7_set ∈ mm_B := List.mem_filter.mpr ⟨List.mem_of_getElem? (i := 582) (by decide +kernel), rfl⟩
theorem wq519 : Cond.instanceMethod yX7_set ∈ mm_B := List.mem_filter.mpr ⟨List.mem_of_getElem? (i := 583) (by decide +kernel), rfl⟩
theorem wq520 : Cond.selects RX7 yX7_set yX7_set ∈ mm_B := List.mem_filter.mpr ⟨List.mem_of_getElem? (i := 584) (by decide +kernel), rfl⟩
theorem wq521 : Cond.code yX7_set cX7_set 6 (some .int) ∈ mm_B := List.mem_filter.mpr ⟨List.mem_of_getElem? (i := 585) (by decide +kernel), rfl⟩
theorem wq522 : Cond.methodLink RX7 88 yX7_knownSubscriber ∈ mm_B := List.mem_filter.mpr ⟨List.mem_of_getElem? (i := 586) (by decide +kernel), rfl⟩
theorem wq524 : Cond.instanceMethod yX7_knownSubscriber ∈ mm_B := List.mem_filter.mpr ⟨List.mem_of_getElem? (i := 588) (by decide +kernel), rfl⟩
theorem wq525 : Cond.code yX7_knownSubscriber cX7_knownSubscriber 3 (some (.object "PartyLines$Subscriber")) ∈ mm_B := List.mem_filter.mpr ⟨List.mem_of_getElem? (i := 589) (by decide +kernel), rfl⟩
theorem wq527 : Cond.methodLink RX7 92 yX7_isSettable ∈ mm_B := List.mem_filter.mpr ⟨List.mem_of_getElem? (i := 591) (by decide +kernel), rfl⟩
theorem wq528 : Cond.static yX7_isSettable ∈ mm_B := List.mem_filter.mpr ⟨List.mem_of_getElem? (i := 592) (by decide +kernel), rfl⟩
theorem wq529 : Cond.code yX7_isSettable cX7_isSettable 2 (some .boolean) ∈ mm_B := List.mem_filter.mpr ⟨List.mem_of_getElem? (i := 593) (by decide +kernel), rfl⟩
theorem wq531 : Cond.methodLink RX7 98 yX7_mayTakeCode ∈ mm_B := List.mem_filter.mpr ⟨List.mem_of_getElem? (i := 595) (by decide +kernel), rfl⟩
theorem wq533 : Cond.instanceMethod yX7_mayTakeCode ∈ mm_B := List.mem_filter.mpr ⟨List.mem_of_getElem? (i := 597) (by decide +kernel), rfl⟩
theorem wq534 : Cond.code yX7_mayTakeCode cX7_mayTakeCode 4 (some .boolean) ∈ mm_B := List.mem_filter.mpr ⟨List.mem_of_getElem? (i := 598) (by decide +kernel), rfl⟩
theorem wq535 : Cond.methodLink RX7 209 yX3_isRung ∈ mm_B := List.mem_filter.mpr ⟨List.mem_of_getElem? (i := 599) (by decide +kernel), rfl⟩
theorem wq537 : Cond.methodLink RL 131 yL_subscriber ∈ mm_B := List.mem_filter.mpr ⟨List.mem_of_getElem? (i := 601) (by decide +kernel), rfl⟩
theorem wq538 : Cond.static yL_subscriber ∈ mm_B := List.mem_filter.mpr ⟨List.mem_of_getElem? (i := 602) (by decide +kernel), rfl⟩
theorem wq539 : Cond.codeWith yL_subscriber cL_subscriber 5 (some .int) [(0, 10, 13, 19), (0, 10, 17, 21)] ∈ mm_B := List.mem_filter.mpr ⟨List.mem_of_getElem? (i := 603) (by decide +kernel), rfl⟩
theorem wq540 : Cond.methodLink RL 26 yX7_subscriber ∈ mm_B := List.mem_filter.mpr ⟨List.mem_of_getElem? (i := 604) (by decide +kernel), rfl⟩
theorem wq541 : Cond.instanceMethod yX7_subscriber ∈ mm_B := List.mem_filter.mpr ⟨List.mem_of_getElem? (i := 605) (by decide +kernel), rfl⟩
theorem wq542 : Cond.selects RX7 yX7_subscriber yX7_subscriber ∈ mm_B := List.mem_filter.mpr ⟨List.mem_of_getElem? (i := 606) (by decide +kernel), rfl⟩
theorem wq543 : Cond.code yX7_subscriber cX7_subscriber 4 (some .int) ∈ mm_B := List.mem_filter.mpr ⟨List.mem_of_getElem? (i := 607) (by decide +kernel), rfl⟩
theorem wq545 : Cond.methodLink RL 135 yL_loop ∈ mm_B := List.mem_filter.mpr ⟨List.mem_of_getElem? (i := 609) (by decide +kernel), rfl⟩
theorem wq546 : Cond.static yL_loop ∈ mm_B := List.mem_filter.mpr ⟨List.mem_of_getElem? (i := 610) (by decide +kernel), rfl⟩
theorem wq547 : Cond.codeWith yL_loop cL_loop 5 (some .int) [(0, 10, 13, 19), (0, 10, 17, 21)] ∈ mm_B := List.mem_filter.mpr ⟨List.mem_of_getElem? (i := 611) (by decide +kernel), rfl⟩
theorem wq548 : Cond.methodLink RL 30 yX7_loop ∈ mm_B := List.mem_filter.mpr ⟨List.mem_of_getElem? (i := 612) (by decide +kernel), rfl⟩
theorem wq549 : Cond.instanceMethod yX7_loop ∈ mm_B := List.mem_filter.mpr ⟨List.mem_of_getElem? (i := 613) (by decide +kernel), rfl⟩
theorem wq550 : Cond.selects RX7 yX7_loop yX7_loop ∈ mm_B := List.mem_filter.mpr ⟨List.mem_of_getElem? (i := 614) (by decide +kernel), rfl⟩
theorem wq551 : Cond.code yX7_loop cX7_loop 4 (some .int) ∈ mm_B := List.mem_filter.mpr ⟨List.mem_of_getElem? (i := 615) (by decide +kernel), rfl⟩
theorem wq552 : Cond.methodLink RL 138 yL_lift ∈ mm_B := List.mem_filter.mpr ⟨List.mem_of_getElem? (i := 616) (by decide +kernel), rfl⟩
theorem wq553 : Cond.static yL_lift ∈ mm_B := List.mem_filter.mpr ⟨List.mem_of_getElem? (i := 617) (by decide +kernel), rfl⟩
theorem wq554 : Cond.codeWith yL_lift cL_lift 4 (some .int) [(0, 9, 12, 19), (0, 9, 15, 13)] ∈ mm_B := List.mem_filter.mpr ⟨List.mem_of_getElem? (i := 618) (by decide +kernel), rfl⟩
theorem wq555 : Cond.methodLink RL 33 yX7_lift ∈ mm_B := List.mem_filter.mpr ⟨List.mem_of_getElem? (i := 619) (by decide +kernel), rfl⟩
theorem wq556 : Cond.instanceMethod yX7_lift ∈ mm_B := List.mem_filter.mpr ⟨List.mem_of_getElem? (i := 620) (by decide +kernel), rfl⟩
theorem wq557 : Cond.selects RX7 yX7_lift yX7_lift ∈ mm_B := List.mem_filter.mpr ⟨List.mem_of_getElem? (i := 621) (by decide +kernel), rfl⟩
theorem wq558 : Cond.code yX7_lift cX7_lift 3 (some .int) ∈ mm_B := List.mem_filter.mpr ⟨List.mem_of_getElem? (i := 622) (by decide +kernel), rfl⟩
theorem wq560 : Cond.methodLink RX7 131 yX1_liftReceiver ∈ mm_B := List.mem_filter.mpr ⟨List.mem_of_getElem? (i := 624) (by decide +kernel), rfl⟩
theorem wq561 : Cond.instanceMethod yX1_liftReceiver ∈ mm_B := List.mem_filter.mpr ⟨List.mem_of_getElem? (i := 625) (by decide +kernel), rfl⟩
theorem wq562 : Cond.selects RX1 yX1_liftReceiver yX1_liftReceiver ∈ mm_B := List.mem_filter.mpr ⟨List.mem_of_getElem? (i := 626) (by decide +kernel), rfl⟩
theorem wq563 : Cond.code yX1_liftReceiver cX1_liftReceiver 3 none ∈ mm_B := List.mem_filter.mpr ⟨List.mem_of_getElem? (i := 627) (by decide +kernel), rfl⟩
theorem wq564 : Cond.methodLink RX1 25 yX5_loopAt ∈ mm_B := List.mem_filter.mpr ⟨List.mem_of_getElem? (i := 628) (by decide +kernel), rfl⟩
theorem wq565 : Cond.methodLink RX1 31 yX3_cutsOff ∈ mm_B := List.mem_filter.mpr ⟨List.mem_of_getElem? (i := 629) (by decide +kernel), rfl⟩
theorem wq566 : Cond.methodLink RX1 43 yX3_comeToWith ∈ mm_B := List.mem_filter.mpr ⟨List.mem_of_getElem? (i := 630) (by decide +kernel), rfl⟩
theorem wq567 : Cond.instanceMethod yX3_comeToWith ∈ mm_B := List.mem_filter.mpr ⟨List.mem_of_getElem? (i := 631) (by decide +kernel), rfl⟩
theorem wq568 : Cond.selects RX3 yX3_comeToWith yX3_comeToWith ∈ mm_B := List.mem_filter.mpr ⟨List.mem_of_getElem? (i := 632) (by decide +kernel), rfl⟩
theorem wq569 : Cond.code yX3_comeToWith cX3_comeToWith 3 none ∈ mm_B := List.mem_filter.mpr ⟨List.mem_of_getElem? (i := 633) (by decide +kernel), rfl⟩
theorem wq570 : Cond.methodLink RX1 47 yX1_answerCall ∈ mm_B := List.mem_filter.mpr ⟨List.mem_of_getElem? (i := 634) (by decide +kernel), rfl⟩
theorem wq572 : Cond.instanceMethod yX1_answerCall ∈ mm_B := List.mem_filter.mpr ⟨List.mem_of_getElem? (i := 636) (by decide +kernel), rfl⟩
theorem wq573 : Cond.code yX1_answerCall cX1_answerCall 4 none ∈ mm_B := List.mem_filter.mpr ⟨List.mem_of_getElem? (i := 637) (by decide +kernel), rfl⟩
theorem wq574 : Cond.methodLink RX1 63 yX3_comeTo ∈ mm_B := List.mem_filter.mpr ⟨List.mem_of_getElem? (i := 638) (by decide +kernel), rfl⟩
theorem wq575 : Cond.methodLink RX1 51 yX1_answerInLoop ∈ mm_B := List.mem_filter.mpr ⟨List.mem_of_getElem? (i := 639) (by decide +kernel), rfl⟩
theorem wq577 : Cond.instanceMethod yX1_answerInLoop ∈ mm_B := List.mem_filter.mpr ⟨List.mem_of_getElem? (i := 641) (by decide +kernel), rfl⟩
theorem wq578 : Cond.code yX1_answerInLoop cX1_answerInLoop 3 none ∈ mm_B := List.mem_filter.mpr ⟨List.mem_of_getElem? (i := 642) (by decide +kernel), rfl⟩
theorem wq579 : Cond.methodLink RX1 57 yX1_comeUpon ∈ mm_B := List.mem_filter.mpr ⟨List.mem_of_getElem? (i := 643) (by decide +kernel), rfl⟩
theorem wq581 : Cond.instanceMethod yX1_comeUpon ∈ mm_B := List.mem_filter.mpr ⟨List.mem_of_getElem? (i := 645) (by decide +kernel), rfl⟩
theorem wq582 : Cond.code yX1_comeUpon cX1_comeUpon 3 none ∈ mm_B := List.mem_filter.mpr ⟨List.mem_of_getElem? (i := 646) (by decide +kernel), rfl⟩
theorem wq583 : Cond.methodLink RX1 77 yX1_isPrivateTalk ∈ mm_B := List.mem_filter.mpr ⟨List.mem_of_getElem? (i := 647) (by decide +kernel), rfl⟩
theorem wq585 : Cond.instanceMethod yX1_isPrivateTalk ∈ mm_B := List.mem_filter.mpr ⟨List.mem_of_getElem? (i := 649) (by decide +kernel), rfl⟩
theorem wq586 : Cond.code yX1_isPrivateTalk cX1_isPrivateTalk 2 (some .boolean) ∈ mm_B := List.mem_filter.mpr ⟨List.mem_of_getElem? (i := 650) (by decide +kernel), rfl⟩
theorem wq587 : Cond.methodLink RX1 84 yX1_wantsPrivacy ∈ mm_B := List.mem_filter.mpr ⟨List.mem_of_getElem? (i := 651) (by decide +kernel), rfl⟩
theorem wq589 : Cond.instanceMethod yX1_wantsPrivacy ∈ mm_B := List.mem_filter.mpr ⟨List.mem_of_getElem? (i := 653) (by decide +kernel), rfl⟩
theorem wq590 : Cond.code yX1_wantsPrivacy cX1_wantsPrivacy 3 (some .boolean) ∈ mm_B := List.mem_filter.mpr ⟨List.mem_of_getElem? (i := 654) (by decide +kernel), rfl⟩
theorem wq591 : Cond.methodLink RX7 135 yX7_phaseOfLoopOf ∈ mm_B := List.mem_filter.mpr ⟨List.mem_of_getElem? (i := 655) (by decide +kernel), rfl⟩
theorem wq593 : Cond.instanceMethod yX7_phaseOfLoopOf ∈ mm_B := List.mem_filter.mpr ⟨List.mem_of_getElem? (i := 657) (by decide +kernel), rfl⟩
theorem wq594 : Cond.code yX7_phaseOfLoopOf cX7_phaseOfLoopOf 3 (some .int) ∈ mm_B := List.mem_filter.mpr ⟨List.mem_of_getElem? (i := 658) (by decide +kernel), rfl⟩
theorem wq595 : Cond.methodLink RL 142 yL_hang ∈ mm_B := List.mem_filter.mpr ⟨List.mem_of_getElem? (i := 659) (by decide +kernel), rfl⟩
theorem wq596 : Cond.static yL_hang ∈ mm_B := List.mem_filter.mpr ⟨List.mem_of_getElem? (i := 660) (by decide +kernel), rfl⟩
theorem wq597 : Cond.codeWith yL_hang cL_hang 4 (some .int) [(0, 9, 12, 19), (0, 9, 15, 13)] ∈ mm_B := List.mem_filter.mpr ⟨List.mem_of_getElem? (i := 661) (by decide +kernel), rfl⟩
theorem wq598 : Cond.methodLink RL 37 yX7_hang ∈ mm_B := List.mem_filter.mpr ⟨List.mem_of_getElem? (i := 662) (by decide +kernel), rfl⟩
theorem wq599 : Cond.instanceMethod yX7_hang ∈ mm_B := List.mem_filter.mpr ⟨List.mem_of_getElem? (i := 663) (by decide +kernel), rfl⟩
theorem wq600 : Cond.selects RX7 yX7_hang yX7_hang ∈ mm_B := List.mem_filter.mpr ⟨List.mem_of_getElem? (i := 664) (by decide +kernel), rfl⟩
theorem wq601 : Cond.code yX7_hang cX7_hang 3 (some .int) ∈ mm_B := List.mem_filter.mpr ⟨List.mem_of_getElem? (i := 665) (by decide +kernel), rfl⟩
theorem wq603 : Cond.methodLink RX7 141 yX1_hangUp ∈ mm_B := List.mem_filter.mpr ⟨List.mem_of_getElem? (i := 667) (by decide +kernel), rfl⟩
theorem wq604 : Cond.instanceMethod yX1_hangUp ∈ mm_B := List.mem_filter.mpr ⟨List.mem_of_getElem? (i := 668) (by decide +kernel), rfl⟩
theorem wq605 : Cond.selects RX1 yX1_hangUp yX1_hangUp ∈ mm_B := List.mem_filter.mpr ⟨List.mem_of_getElem? (i := 669) (by decide +kernel), rfl⟩
theorem wq606 : Cond.code yX1_hangUp cX1_hangUp 4 none ∈ mm_B := List.mem_filter.mpr ⟨List.mem_of_getElem? (i := 670) (by decide +kernel), rfl⟩
theorem wq607 : Cond.methodLink RX1 95 yX5_isParty ∈ mm_B := List.mem_filter.mpr ⟨List.mem_of_getElem? (i := 671) (by decide +kernel), rfl⟩
theorem wq608 : Cond.methodLink RX1 98 yX1_lowestOffHook ∈ mm_B := List.mem_filter.mpr ⟨List.mem_of_getElem? (i := 672) (by decide +kernel), rfl⟩
theorem wq610 : Cond.instanceMethod yX1_lowestOffHook ∈ mm_B := List.mem_filter.mpr ⟨List.mem_of_getElem? (i := 674) (by decide +kernel), rfl⟩
theorem wq611 : Cond.code yX1_lowestOffHook cX1_lowestOffHook 4 (some .int) ∈ mm_B := List.mem_filter.mpr ⟨List.mem_of_getElem? (i := 675) (by decide +kernel), rfl⟩
theorem wq612 : Cond.methodLink RX1 109 yX5_memberAt ∈ mm_B := List.mem_filter.mpr ⟨List.mem_of_getElem? (i := 676) (by decide +kernel), rfl⟩
theorem wq613 : Cond.methodLink RX1 102 yX1_endCall ∈ mm_B := List.mem_filter.mpr ⟨List.mem_of_getElem? (i := 677) (by decide +kernel), rfl⟩
theorem wq615 : Cond.instanceMethod yX1_endCall ∈ mm_B := List.mem_filter.mpr ⟨List.mem_of_getElem? (i := 679) (by decide +kernel), rfl⟩
theorem wq616 : Cond.code yX1_endCall cX1_endCall 3 none ∈ mm_B := List.mem_filter.mpr ⟨List.mem_of_getElem? (i := 680) (by decide +kernel), rfl⟩
theorem wq617 : Cond.methodLink RX1 106 yX1_leave ∈ mm_B := List.mem_filter.mpr ⟨List.mem_of_getElem? (i := 681) (by decide +kernel), rfl⟩
theorem wq619 : Cond.instanceMethod yX1_leave ∈ mm_B := List.mem_filter.mpr ⟨List.mem_of_getElem? (i := 683) (by decide +kernel), rfl⟩
theorem wq620 : Cond.code yX1_leave cX1_leave 4 none ∈ mm_B := List.mem_filter.mpr ⟨List.mem_of_getElem? (i := 684) (by decide +kernel), rfl⟩
theorem wq621 : Cond.methodLink RL 145 yL_dial ∈ mm_B := List.mem_filter.mpr ⟨List.mem_of_getElem? (i := 685) (by decide +kernel), rfl⟩
theorem wq622 : Cond.static yL_dial ∈ mm_B := List.mem_filter.mpr ⟨List.mem_of_getElem? (i := 686) (by decide +kernel), rfl⟩
theorem wq623 : Cond.codeWith yL_dial cL_dial 5 (some .int) [(0, 10, 13, 19), (0, 10, 17, 13)] ∈ mm_B := List.mem_filter.mpr ⟨List.mem_of_getElem? (i := 687) (by decide +kernel), rfl⟩
theorem wq624 : Cond.methodLink RL 40 yX7_dial ∈ mm_B := List.mem_filter.mpr ⟨List.mem_of_getElem? (i := 688) (by decide +kernel), rfl⟩
theorem wq625 : Cond.instanceMethod yX7_dial ∈ mm_B := List.mem_filter.mpr ⟨List.mem_of_getElem? (i := 689) (by decide +kernel), rfl⟩
theorem wq626 : Cond.selects RX7 yX7_dial yX7_dial ∈ mm_B := List.mem_filter.mpr ⟨List.mem_of_getElem? (i := 690) (by decide +kernel), rfl⟩
theorem wq627 : Cond.code yX7_dial cX7_dial 5 (some .int) ∈ mm_B := List.mem_filter.mpr ⟨List.mem_of_getElem? (i := 691) (by decide +kernel), rfl⟩
theorem wq629 : Cond.methodLink RX7 163 yX1_dialNumber ∈ mm_B := List.mem_filter.mpr ⟨List.mem_of_getElem? (i := 693) (by decide +kernel), rfl⟩
theorem wq630 : Cond.instanceMethod yX1_dialNumber ∈ mm_B := List.mem_filter.mpr ⟨List.mem_of_getElem? (i := 694) (by decide +kernel), rfl⟩
theorem wq631 : Cond.selects RX1 yX1_dialNumber yX1_dialNumber ∈ mm_B := List.mem_filter.mpr ⟨List.mem_of_getElem? (i := 695) (by decide +kernel), rfl⟩
theorem wq632 : Cond.code yX1_dialNumber cX1_dialNumber 5 none ∈ mm_B := List.mem_filter.mpr ⟨List.mem_of_getElem? (i := 696) (by decide +kernel), rfl⟩
theorem wq633 : Cond.methodLink RX1 116 yX1_phaseByDialing ∈ mm_B := List.mem_filter.mpr ⟨List.mem_of_getElem? (i := 697) (by decide +kernel), rfl⟩
theorem wq634 : Cond.instanceMethod yX1_phaseByDialing ∈ mm_B := List.mem_filter.mpr ⟨List.mem_of_getElem? (i := 698) (by decide +kernel), rfl⟩
theorem wq635 : Cond.selects RX1 yX1_phaseByDialing yX1_phaseByDialing ∈ mm_B := List.mem_filter.mpr ⟨List.mem_of_getElem? (i := 699) (by decide +kernel), rfl⟩
theorem wq636 : Cond.code yX1_phaseByDialing cX1_phaseByDialing 5 (some .int) ∈ mm_B := List.mem_filter.mpr ⟨List.mem_of_getElem? (i := 700) (by decide +kernel), rfl⟩
theorem wq637 : Cond.methodLink RX1 113 yX5_isCutOff ∈ mm_B := List.mem_filter.mpr ⟨List.mem_of_getElem? (i := 701) (by decide +kernel), rfl⟩
theorem wq638 : Cond.methodLink RX1 120 yX1_ringFrom ∈ mm_B := List.mem_filter.mpr ⟨List.mem_of_getElem? (i := 702) (by decide +kernel), rfl⟩
theorem wq640 : Cond.instanceMethod yX1_ringFrom ∈ mm_B := List.mem_filter.mpr ⟨List.mem_of_getElem? (i := 704) (by decide +kernel), rfl⟩
theorem wq641 : Cond.code yX1_ringFrom cX1_ringFrom 5 none ∈ mm_B := List.mem_filter.mpr ⟨List.mem_of_getElem? (i := 705) (by decide +kernel), rfl⟩
theorem wq642 : Cond.methodLink RL 148 yL_tick ∈ mm_B := List.mem_filter.mpr ⟨List.mem_of_getElem? (i := 706) (by decide +kernel), rfl⟩
theorem wq643 : Cond.static yL_tick ∈ mm_B := List.mem_filter.mpr ⟨List.mem_of_getElem? (i := 707) (by decide +kernel), rfl⟩
theorem wq644 : Cond.codeWith yL_tick cL_tick 4 (some .int) [(0, 9, 12, 21)] ∈ mm_B := List.mem_filter.mpr ⟨List.mem_of_getElem? (i := 708) (by decide +kernel), rfl⟩
theorem wq645 : Cond.methodLink RL 43 yX7_tick ∈ mm_B := List.mem_filter.mpr ⟨List.mem_of_getElem? (i := 709) (by decide +kernel), rfl⟩
theorem wq646 : Cond.instanceMethod yX7_tick ∈ mm_B := List.mem_filter.mpr ⟨List.mem_of_getElem? (i := 710) (by decide +kernel), rfl⟩
theorem wq647 : Cond.selects RX7 yX7_tick yX7_tick ∈ mm_B := List.mem_filter.mpr ⟨List.mem_of_getElem? (i := 711) (by decide +kernel), rfl⟩
theorem wq648 : Cond.code yX7_tick cX7_tick 3 (some .int) ∈ mm_B := List.mem_filter.mpr ⟨List.mem_of_getElem? (i := 712) (by decide +kernel), rfl⟩
theorem wq650 : Cond.methodLink RX7 169 yX1_passOneTick ∈ mm_B := List.mem_filter.mpr ⟨List.mem_of_getElem? (i := 714) (by decide +kernel), rfl⟩
theorem wq651 : Cond.instanceMethod yX1_passOneTick ∈ mm_B := List.mem_filter.mpr ⟨List.mem_of_getElem? (i := 715) (by decide +kernel), rfl⟩
theorem wq652 : Cond.selects RX1 yX1_passOneTick yX1_passOneTick ∈ mm_B := List.mem_filter.mpr ⟨List.mem_of_getElem? (i := 716) (by decide +kernel), rfl⟩
theorem wq653 : Cond.code yX1_passOneTick cX1_passOneTick 3 none ∈ mm_B := List.mem_filter.mpr ⟨List.mem_of_getElem? (i := 717) (by decide +kernel), rfl⟩
theorem wq654 : Cond.methodLink RX1 128 yX1_takeTurn ∈ mm_B := List.mem_filter.mpr ⟨List.mem_of_getElem? (i := 718) (by decide +kernel), rfl⟩
theorem wq656 : Cond.instanceMethod yX1_takeTurn ∈ mm_B := List.mem_filter.mpr ⟨List.mem_of_getElem? (i := 720) (by decide +kernel), rfl⟩
theorem wq657 : Cond.code yX1_takeTurn cX1_takeTurn 2 none ∈ mm_B := List.mem_filter.mpr ⟨List.mem_of_getElem? (i := 721) (by decide +kernel), rfl⟩
theorem wq658 : Cond.methodLink RX1 135 yX1_isLost ∈ mm_B := List.mem_filter.mpr ⟨List.mem_of_getElem? (i := 722) (by decide +kernel), rfl⟩
theorem wq660 : Cond.instanceMethod yX1_isLost ∈ mm_B := List.mem_filter.mpr ⟨List.mem_of_getElem? (i := 724) (by decide +kernel), rfl⟩
theorem wq661 : Cond.code yX1_isLost cX1_isLost 3 (some .boolean) ∈ mm_B := List.mem_filter.mpr ⟨List.mem_of_getElem? (i := 725) (by decide +kernel), rfl⟩
theorem wq662 : Cond.methodLink RX1 138 yX1_countUnits ∈ mm_B := List.mem_filter.mpr ⟨List.mem_of_getElem? (i := 726) (by decide +kernel), rfl⟩
theorem wq664 : Cond.instanceMethod yX1_countUnits ∈ mm_B := List.mem_filter.mpr ⟨List.mem_of_getElem? (i := 728) (by decide +kernel), rfl⟩
theorem wq665 : Cond.code yX1_countUnits cX1_countUnits 3 none ∈ mm_B := List.mem_filter.mpr ⟨List.mem_of_getElem? (i := 729) (by decide +kernel), rfl⟩
theorem wq666 : Cond.methodLink RX1 141 yX1_isOverLimit ∈ mm_B := List.mem_filter.mpr ⟨List.mem_of_getElem? (i := 730) (by decide +kernel), rfl⟩
theorem wq668 : Cond.instanceMethod yX1_isOverLimit ∈ mm_B := List.mem_filter.mpr ⟨List.mem_of_getElem? (i := 732) (by decide +kernel), rfl⟩
theorem wq669 : Cond.code yX1_isOverLimit cX1_isOverLimit 3 (some .boolean) ∈ mm_B := List.mem_filter.mpr ⟨List.mem_of_getElem? (i := 733) (by decide +kernel), rfl⟩
theorem wq670 : Cond.methodLink RX1 153 yX1_locksSomeoneOut ∈ mm_B := List.mem_filter.mpr ⟨List.mem_of_getElem? (i := 734) (by decide +kernel), rfl⟩
theorem wq672 : Cond.instanceMethod yX1_locksSomeoneOut ∈ mm_B := List.mem_filter.mpr ⟨List.mem_of_getElem? (i := 736) (by decide +kernel), rfl⟩
theorem wq673 : Cond.code yX1_locksSomeoneOut cX1_locksSomeoneOut 4 (some .boolean) ∈ mm_B := List.mem_filter.mpr ⟨List.mem_of_getElem? (i := 737) (by decide +kernel), rfl⟩
theorem wq674 : Cond.methodLink RX7 172 yX5_loopsInUse ∈ mm_B := List.mem_filter.mpr ⟨List.mem_of_getElem? (i := 738) (by decide +kernel), rfl⟩
theorem wq675 : Cond.instanceMethod yX5_loopsInUse ∈ mm_B := List.mem_filter.mpr ⟨List.mem_of_getElem? (i := 739) (by decide +kernel), rfl⟩
theorem wq676 : Cond.selects RX5 yX5_loopsInUse yX5_loopsInUse ∈ mm_B := List.mem_filter.mpr ⟨List.mem_of_getElem? (i := 740) (by decide +kernel), rfl⟩
theorem wq677 : Cond.code yX5_loopsInUse cX5_loopsInUse 4 (some .int) ∈ mm_B := List.mem_filter.mpr ⟨List.mem_of_getElem? (i := 741) (by decide +kernel), rfl⟩
theorem wq678 : Cond.methodLink RL 151 yL_setLimit ∈ mm_B := List.mem_filter.mpr ⟨List.mem_of_getElem? (i := 742) (by decide +kernel), rfl⟩
theorem wq679 : Cond.static yL_setLimit ∈ mm_B := List.mem_filter.mpr ⟨List.mem_of_getElem? (i := 743) (by decide +kernel), rfl⟩
theorem wq680 : Cond.codeWith yL_setLimit cL_setLimit 4 (some .int) [(0, 9, 12, 21)] ∈ mm_B := List.mem_filter.mpr ⟨List.mem_of_getElem? (i := 744) (by decide +kernel), rfl⟩
theorem wq681 : Cond.methodLink RL 46 yX7_setLimit ∈ mm_B := List.mem_filter.mpr ⟨List.mem_of_getElem? (i := 745) (by decide +kernel), rfl⟩
theorem wq682 : Cond.instanceMethod yX7_setLimit ∈ mm_B := List.mem_filter.mpr ⟨List.mem_of_getElem? (i := 746) (by decide +kernel), rfl⟩
theorem wq683 : Cond.selects RX7 yX7_setLimit yX7_setLimit ∈ mm_B := List.mem_filter.mpr ⟨List.mem_of_getElem? (i := 747) (by decide +kernel), rfl⟩
theorem wq684 : Cond.code yX7_setLimit cX7_setLimit 3 (some .int) ∈ mm_B := List.mem_filter.mpr ⟨List.mem_of_getElem? (i := 748) (by decide +kernel), rfl⟩
theorem wq686 : Cond.methodLink RL 154 yL_rings ∈ mm_B := List.mem_filter.mpr ⟨List.mem_of_getElem? (i := 750) (by decide +kernel), rfl⟩
theorem wq687 : Cond.static yL_rings ∈ mm_B := List.mem_filter.mpr ⟨List.mem_of_getElem? (i := 751) (by decide +kernel), rfl⟩
theorem wq688 : Cond.codeWith yL_rings cL_rings 4 (some .int) [(0, 9, 12, 19)] ∈ mm_B := List.mem_filter.mpr ⟨List.mem_of_getElem? (i := 752) (by decide +kernel), rfl⟩
theorem wq689 : Cond.methodLink RL 49 yX7_rings ∈ mm_B := List.mem_filter.mpr ⟨List.mem_of_getElem? (i := 753) (by decide +kernel), rfl⟩
theorem wq690 : Cond.instanceMethod yX7_rings ∈ mm_B := List.mem_filter.mpr ⟨List.mem_of_getElem? (i := 754) (by decide +kernel), rfl⟩
theorem wq691 : Cond.selects RX7 yX7_rings yX7_rings ∈ mm_B := List.mem_filter.mpr ⟨List.mem_of_getElem? (i := 755) (by decide +kernel), rfl⟩
theorem wq692 : Cond.code yX7_rings cX7_rings 2 (some .int) ∈ mm_B := List.mem_filter.mpr ⟨List.mem_of_getElem? (i := 756) (by decide +kernel), rfl⟩
theorem wq693 : Cond.methodLink RL 157 yL_wouldDial ∈ mm_B := List.mem_filter.mpr ⟨List.mem_of_getElem? (i := 757) (by decide +kernel), rfl⟩
theorem wq694 : Cond.static yL_wouldDial ∈ mm_B := List.mem_filter.mpr ⟨List.mem_of_getElem? (i := 758) (by decide +kernel), rfl⟩
theorem wq695 : Cond.codeWith yL_wouldDial cL_wouldDial 5 (some .int) [(0, 10, 13, 19)] ∈ mm_B := List.mem_filter.mpr ⟨List.mem_of_getElem? (i := 759) (by decide +kernel), rfl⟩
theorem wq696 : Cond.methodLink RL 52 yX7_wouldDial ∈ mm_B := List.mem_filter.mpr ⟨List.mem_of_getElem? (i := 760) (by decide +kernel), rfl⟩
theorem wq697 : Cond.instanceMethod yX7_wouldDial ∈ mm_B := List.mem_filter.mpr ⟨List.mem_of_getElem? (i := 761) (by decide +kernel), rfl⟩
theorem wq698 : Cond.selects RX7 yX7_wouldDial yX7_wouldDial ∈ mm_B := List.mem_filter.mpr ⟨List.mem_of_getElem? (i := 762) (by decide +kernel), rfl⟩
theorem wq699 : Cond.code yX7_wouldDial cX7_wouldDial 3 (some .int) ∈ mm_B := List.mem_filter.mpr ⟨List.mem_of_getElem? (i := 763) (by decide +kernel), rfl⟩
theorem wq700 : Cond.methodLink RX7 184 yX1_phaseByDialing ∈ mm_B := List.mem_filter.mpr ⟨List.mem_of_getElem? (i := 764) (by decide +kernel), rfl⟩
theorem wq701 : Cond.methodLink RL 160 yL_told ∈ mm_B := List.mem_filter.mpr ⟨List.mem_of_getElem? (i := 765) (by decide +kernel), rfl⟩
theorem wq702 : Cond.static yL_told ∈ mm_B := List.mem_filter.mpr ⟨List.mem_of_getElem? (i := 766) (by decide +kernel), rfl⟩
theorem wq703 : Cond.codeWith yL_told cL_told 4 (some .int) [(0, 9, 12, 21)] ∈ mm_B := List.mem_filter.mpr ⟨List.mem_of_getElem? (i := 767) (by decide +kernel), rfl⟩
theorem wq704 : Cond.methodLink RL 55 yX7_told ∈ mm_B := List.mem_filter.mpr ⟨List.mem_of_getElem? (i := 768) (by decide +kernel), rfl⟩
theorem wq705 : Cond.instanceMethod yX7_told ∈ mm_B := List.mem_filter.mpr ⟨List.mem_of_getElem? (i := 769) (by decide +kernel), rfl⟩
theorem wq706 : Cond.selects RX7 yX7_told yX7_told ∈ mm_B := List.mem_filter.mpr ⟨List.mem_of_getElem? (i := 770) (by decide +kernel), rfl⟩
theorem wq707 : Cond.code yX7_told cX7_told 2 (some .int) ∈ mm_B := List.mem_filter.mpr ⟨List.mem_of_getElem? (i := 771) (by decide +kernel), rfl⟩
theorem wq708 : Cond.methodLink RL 163 yL_codeLength ∈ mm_B := List.mem_filter.mpr ⟨List.mem_of_getElem? (i := 772) (by decide +kernel), rfl⟩
theorem wq709 : Cond.static yL_codeLength ∈ mm_B := List.mem_filter.mpr ⟨List.mem_of_getElem? (i := 773) (by decide +kernel), rfl⟩
theorem wq710 : Cond.codeWith yL_codeLength cL_codeLength 4 (some .int) [(0, 9, 12, 21)] ∈ mm_B := List.mem_filter.mpr ⟨List.mem_of_getElem? (i := 774) (by decide +kernel), rfl⟩
theorem wq711 : Cond.methodLink RL 58 yX7_codeLength ∈ mm_B := List.mem_filter.mpr ⟨List.mem_of_getElem? (i := 775) (by decide +kernel), rfl⟩
theorem wq712 : Cond.instanceMethod yX7_codeLength ∈ mm_B := List.mem_filter.mpr ⟨List.mem_of_getElem? (i := 776) (by decide +kernel), rfl⟩
theorem wq713 : Cond.selects RX7 yX7_codeLength yX7_codeLength ∈ mm_B := List.mem_filter.mpr ⟨List.mem_of_getElem? (i := 777) (by decide +kernel), rfl⟩
theorem wq714 : Cond.code yX7_codeLength cX7_codeLength 2 (some .int) ∈ mm_B := List.mem_filter.mpr ⟨List.mem_of_getElem? (i := 778) (by decide +kernel), rfl⟩
theorem wq716 : Cond.methodLink RX7 193 yX0_lengthOf ∈ mm_B := List.mem_filter.mpr ⟨List.mem_of_getElem? (i := 780) (by decide +kernel), rfl⟩
theorem wq717 : Cond.methodLink RL 166 yL_codeRing ∈ mm_B := List.mem_filter.mpr ⟨List.mem_of_getElem? (i := 781) (by decide +kernel), rfl⟩
theorem wq718 : Cond.static yL_codeRing ∈ mm_B := List.mem_filter.mpr ⟨List.mem_of_getElem? (i := 782) (by decide +kernel), rfl⟩
theorem wq719 : Cond.codeWith yL_codeRing cL_codeRing 5 (some .int) [(0, 10, 13, 21)] ∈ mm_B := List.mem_filter.mpr ⟨List.mem_of_getElem? (i := 783) (by decide +kernel), rfl⟩
theorem wq720 : Cond.methodLink RL 61 yX7_codeRing ∈ mm_B := List.mem_filter.mpr ⟨List.mem_of_getElem? (i := 784) (by decide +kernel), rfl⟩
theorem wq721 : Cond.instanceMethod yX7_codeRing ∈ mm_B := List.mem_filter.mpr ⟨List.mem_of_getElem? (i := 785) (by decide +kernel), rfl⟩
theorem wq722 : Cond.selects RX7 yX7_codeRing yX7_codeRing ∈ mm_B := List.mem_filter.mpr ⟨List.mem_of_getElem? (i := 786) (by decide +kernel), rfl⟩
theorem wq723 : Cond.code yX7_codeRing cX7_codeRing 3 (some .int) ∈ mm_B := List.mem_filter.mpr ⟨List.mem_of_getElem? (i := 787) (by decide +kernel), rfl⟩
theorem wq724 : Cond.methodLink RX7 197 yX0_ringCount ∈ mm_B := List.mem_filter.mpr ⟨List.mem_of_getElem? (i := 788) (by decide +kernel), rfl⟩
theorem wq725 : Cond.methodLink RX7 200 yX0_isLong ∈ mm_B := List.mem_filter.mpr ⟨List.mem_of_getElem? (i := 789) (by decide +kernel), rfl⟩
theorem wq726 : Cond.methodLink RL 169 yL_codeCost ∈ mm_B := List.mem_filter.mpr ⟨List.mem_of_getElem? (i := 790) (by decide +kernel), rfl⟩
theorem wq727 : Cond.static yL_codeCost ∈ mm_B := List.mem_filter.mpr ⟨List.mem_of_getElem? (i := 791) (by decide +kernel), rfl⟩
theorem wq728 : Cond.codeWith yL_codeCost cL_codeCost 4 (some .int) [(0, 9, 12, 19)] ∈ mm_B := List.mem_filter.mpr ⟨List.mem_of_getElem? (i := 792) (by decide +kernel), rfl⟩
theorem wq729 : Cond.methodLink RL 64 yX7_codeCost ∈ mm_B := List.mem_filter.mpr ⟨List.mem_of_getElem? (i := 793) (by decide +kernel), rfl⟩
theorem wq730 : Cond.instanceMethod yX7_codeCost ∈ mm_B := List.mem_filter.mpr ⟨List.mem_of_getElem? (i := 794) (by decide +kernel), rfl⟩
theorem wq731 : Cond.selects RX7 yX7_codeCost yX7_codeCost ∈ mm_B := List.mem_filter.mpr ⟨List.mem_of_getElem? (i := 795) (by decide +kernel), rfl⟩
theorem wq732 : Cond.code yX7_codeCost cX7_codeCost 2 (some .int) ∈ mm_B := List.mem_filter.mpr ⟨List.mem_of_getElem? (i := 796) (by decide +kernel), rfl⟩
theorem wq733 : Cond.methodLink RL 172 yL_bestCodes ∈ mm_B := List.mem_filter.mpr ⟨List.mem_of_getElem? (i := 797) (by decide +kernel), rfl⟩
theorem wq734 : Cond.static yL_bestCodes ∈ mm_B := List.mem_filter.mpr ⟨List.mem_of_getElem? (i := 798) (by decide +kernel), rfl⟩
theorem wq735 : Cond.codeWith yL_bestCodes cL_bestCodes 4 (some .int) [(0, 9, 12, 19)] ∈ mm_B := List.mem_filter.mpr ⟨List.mem_of_getElem? (i := 799) (by decide +kernel), rfl⟩
theorem wq736 : Cond.methodLink RL 67 yX7_bestCodes ∈ mm_B := List.mem_filter.mpr ⟨List.mem_of_getElem? (i := 800) (by decide +kernel), rfl⟩
theorem wq737 : Cond.instanceMethod yX7_bestCodes ∈ mm_B := List.mem_filter.mpr ⟨List.mem_of_getElem? (i := 801) (by decide +kernel), rfl⟩
theorem wq738 : Cond.selects RX7 yX7_bestCodes yX7_bestCodes ∈ mm_B := List.mem_filter.mpr ⟨List.mem_of_getElem? (i := 802) (by decide +kernel), rfl⟩
theorem wq739 : Cond.code yX7_bestCodes cX7_bestCodes 2 (some .int) ∈ mm_B := List.mem_filter.mpr ⟨List.mem_of_getElem? (i := 803) (by decide +kernel), rfl⟩
theorem wq740 : Cond.methodLink RX7 206 yX5_leastCostOfCodes ∈ mm_B := List.mem_filter.mpr ⟨List.mem_of_getElem? (i := 804) (by decide +kernel), rfl⟩
theorem wq741 : Cond.instanceMethod yX5_leastCostOfCodes ∈ mm_B := List.mem_filter.mpr ⟨List.mem_of_getElem? (i := 805) (by decide +kernel), rfl⟩
theorem wq742 : Cond.selects RX5 yX5_leastCostOfCodes yX5_leastCostOfCodes ∈ mm_B := List.mem_filter.mpr ⟨List.mem_of_getElem? (i := 806) (by decide +kernel), rfl⟩
theorem wq743 : Cond.code yX5_leastCostOfCodes cX5_leastCostOfCodes 5 (some .int) ∈ mm_B := List.mem_filter.mpr ⟨List.mem_of_getElem? (i := 807) (by decide +kernel), rfl⟩
theorem wq744 : Cond.methodLink RX5 104 yX5_bestCodeOf ∈ mm_B := List.mem_filter.mpr ⟨List.mem_of_getElem? (i := 808) (by decide +kernel), rfl⟩
theorem wq746 : Cond.instanceMethod yX5_bestCodeOf ∈ mm_B := List.mem_filter.mpr ⟨List.mem_of_getElem? (i := 810) (by decide +kernel), rfl⟩
theorem wq747 : Cond.code yX5_bestCodeOf cX5_bestCodeOf 6 (some .int) ∈ mm_B := List.mem_filter.mpr ⟨List.mem_of_getElem? (i := 811) (by decide +kernel), rfl⟩
theorem wq748 : Cond.methodLink RX5 108 yX6_comesBefore ∈ mm_B := List.mem_filter.mpr ⟨List.mem_of_getElem? (i := 812) (by decide +kernel), rfl⟩
theorem wq749 : Cond.instanceMethod yX6_comesBefore ∈ mm_B := List.mem_filter.mpr ⟨List.mem_of_getElem? (i := 813) (by decide +kernel), rfl⟩
theorem wq750 : Cond.selects RX6 yX6_comesBefore yX6_comesBefore ∈ mm_B := List.mem_filter.mpr ⟨List.mem_of_getElem? (i := 814) (by decide +kernel), rfl⟩
theorem wq751 : Cond.code yX6_comesBefore cX6_comesBefore 2 (some .boolean) ∈ mm_B := List.mem_filter.mpr ⟨List.mem_of_getElem? (i := 815) (by decide +kernel), rfl⟩
theorem wq752 : Cond.methodLink RX5 111 yX0_byLength ∈ mm_B := List.mem_filter.mpr ⟨List.mem_of_getElem? (i := 816) (by decide +kernel), rfl⟩
theorem wq753 : Cond.static yX0_byLength ∈ mm_B := List.mem_filter.mpr ⟨List.mem_of_getElem? (i := 817) (by decide +kernel), rfl⟩
theorem wq754 : Cond.code yX0_byLength cX0_byLength 1 (some .int) ∈ mm_B := List.mem_filter.mpr ⟨List.mem_of_getElem? (i := 818) (by decide +kernel), rfl⟩
theorem wq755 : Cond.fieldLink RX0 17 RX0 "BY_LENGTH" "[I" ∈ mm_B := List.mem_filter.mpr ⟨List.mem_of_getElem? (i := 819) (by decide +kernel), rfl⟩
theorem wq757 : Cond.methodLink RL 175 yL_assignCodes ∈ mm_B := List.mem_filter.mpr ⟨List.mem_of_getElem? (i := 821) (by decide +kernel), rfl⟩
theorem wq758 : Cond.static yL_assignCodes ∈ mm_B := List.mem_filter.mpr ⟨List.mem_of_getElem? (i := 822) (by decide +kernel), rfl⟩
theorem wq759 : Cond.codeWith yL_assignCodes cL_assignCodes 4 (some .int) [(0, 9, 12, 19), (0, 9, 15, 13)] ∈ mm_B := List.mem_filter.mpr ⟨List.mem_of_getElem? (i := 823) (by decide +kernel), rfl⟩
theorem wq760 : Cond.methodLink RL 70 yX7_assignCodes ∈ mm_B := List.mem_filter.mpr ⟨List.mem_of_getElem? (i := 824) (by decide +kernel), rfl⟩
theorem wq761 : Cond.instanceMethod yX7_assignCodes ∈ mm_B := List.mem_filter.mpr ⟨List.mem_of_getElem? (i := 825) (by decide +kernel), rfl⟩
theorem wq762 : Cond.selects RX7 yX7_assignCodes yX7_assignCodes ∈ mm_B := List.mem_filter.mpr ⟨List.mem_of_getElem? (i := 826) (by decide +kernel), rfl⟩
theorem wq763 : Cond.code yX7_assignCodes cX7_assignCodes 3 (some .int) ∈ mm_B := List.mem_filter.mpr ⟨List.mem_of_getElem? (i := 827) (by decide +kernel), rfl⟩
theorem wq765 : Cond.methodLink RX7 215 yX5_giveBestCodes ∈ mm_B := List.mem_filter.mpr ⟨List.mem_of_getElem? (i := 829) (by decide +kernel), rfl⟩
theorem wq766 : Cond.instanceMethod yX5_giveBestCodes ∈ mm_B := List.mem_filter.mpr ⟨List.mem_of_getElem? (i := 830) (by decide +kernel), rfl⟩
theorem wq767 : Cond.selects RX5 yX5_giveBestCodes yX5_giveBestCodes ∈ mm_B := List.mem_filter.mpr ⟨List.mem_of_getElem? (i := 831) (by decide +kernel), rfl⟩
theorem wq768 : Cond.code yX5_giveBestCodes cX5_giveBestCodes 6 (some .int) ∈ mm_B := List.mem_filter.mpr ⟨List.mem_of_getElem? (i := 832) (by decide +kernel), rfl⟩
theorem wq769 : Cond.methodLink RL 178 yL_fault ∈ mm_B := List.mem_filter.mpr ⟨List.mem_of_getElem? (i := 833) (by decide +kernel), rfl⟩
theorem wq770 : Cond.static yL_fault ∈ mm_B := List.mem_filter.mpr ⟨List.mem_of_getElem? (i := 834) (by decide +kernel), rfl⟩
theorem wq771 : Cond.codeWith yL_fault cL_fault 6 (some .int) [(0, 12, 15, 19), (0, 12, 19, 13)] ∈ mm_B := List.mem_filter.mpr ⟨List.mem_of_getElem? (i := 835) (by decide +kernel), rfl⟩
theorem wq772 : Cond.methodLink RL 73 yX7_fault ∈ mm_B := List.mem_filter.mpr ⟨List.mem_of_getElem? (i := 836) (by decide +kernel), rfl⟩
theorem wq773 : Cond.instanceMethod yX7_fault ∈ mm_B := List.mem_filter.mpr ⟨List.mem_of_getElem? (i := 837) (by decide +kernel), rfl⟩
theorem wq774 : Cond.selects RX7 yX7_fault yX7_fault ∈ mm_B := List.mem_filter.mpr ⟨List.mem_of_getElem? (i := 838) (by decide +kernel), rfl⟩
theorem wq775 : Cond.code yX7_fault cX7_fault 5 (some .int) ∈ mm_B := List.mem_filter.mpr ⟨List.mem_of_getElem? (i := 839) (by decide +kernel), rfl⟩
theorem wq777 : Cond.methodLink RX7 223 yX3_hasFault ∈ mm_B := List.mem_filter.mpr ⟨List.mem_of_getElem? (i := 841) (by decide +kernel), rfl⟩
theorem wq779 : Cond.methodLink RX7 228 yX1_breakSpan ∈ mm_B := List.mem_filter.mpr ⟨List.mem_of_getElem? (i := 843) (by decide +kernel), rfl⟩
theorem wq780 : Cond.instanceMethod yX1_breakSpan ∈ mm_B := List.mem_filter.mpr ⟨List.mem_of_getElem? (i := 844) (by decide +kernel), rfl⟩
theorem wq781 : Cond.selects RX1 yX1_breakSpan yX1_breakSpan ∈ mm_B := List.mem_filter.mpr ⟨List.mem_of_getElem? (i := 845) (by decide +kernel), rfl⟩
theorem wq782 : Cond.code yX1_breakSpan cX1_breakSpan 4 none ∈ mm_B := List.mem_filter.mpr ⟨List.mem_of_getElem? (i := 846) (by decide +kernel), rfl⟩
theorem wq783 : Cond.methodLink RX7 232 yX5_countCutOff ∈ mm_B := List.mem_filter.mpr ⟨List.mem_of_getElem? (i := 847) (by decide +kernel), rfl⟩
theorem wq784 : Cond.instanceMethod yX5_countCutOff ∈ mm_B := List.mem_filter.mpr ⟨List.mem_of_getElem? (i := 848) (by decide +kernel), rfl⟩
theorem wq785 : Cond.selects RX5 yX5_countCutOff yX5_countCutOff ∈ mm_B := List.mem_filter.mpr ⟨List.mem_of_getElem? (i := 849) (by decide +kernel), rfl⟩
theorem wq786 : Cond.code yX5_countCutOff cX5_countCutOff 5 (some .int) ∈ mm_B := List.mem_filter.mpr ⟨List.mem_of_getElem? (i := 850) (by decide +kernel), rfl⟩
theorem wq787 : Cond.methodLink RL 182 yL_mend ∈ mm_B := List.mem_filter.mpr ⟨List.mem_of_getElem? (i := 851) (by decide +kernel), rfl⟩
theorem wq788 : Cond.static yL_mend ∈ mm_B := List.mem_filter.mpr ⟨List.mem_of_getElem? (i := 852) (by decide +kernel), rfl⟩
theorem wq789 : Cond.codeWith yL_mend cL_mend 4 (some .int) [(0, 9, 12, 19), (0, 9, 15, 13)] ∈ mm_B := List.mem_filter.mpr ⟨List.mem_of_getElem? (i := 853) (by decide +kernel), rfl⟩
theorem wq790 : Cond.methodLink RL 77 yX7_mend ∈ mm_B := List.mem_filter.mpr ⟨List.mem_of_getElem? (i := 854) (by decide +kernel), rfl⟩
theorem wq791 : Cond.instanceMethod yX7_mend ∈ mm_B := List.mem_filter.mpr ⟨List.mem_of_getElem? (i := 855) (by decide +kernel), rfl⟩
theorem wq792 : Cond.selects RX7 yX7_mend yX7_mend ∈ mm_B := List.mem_filter.mpr ⟨List.mem_of_getElem? (i := 856) (by decide +kernel), rfl⟩
theorem wq793 : Cond.code yX7_mend cX7_mend 4 (some .int) ∈ mm_B := List.mem_filter.mpr ⟨List.mem_of_getElem? (i := 857) (by decide +kernel), rfl⟩
theorem wq795 : Cond.methodLink RX7 240 yX1_mendSpan ∈ mm_B := List.mem_filter.mpr ⟨List.mem_of_getElem? (i := 859) (by decide +kernel), rfl⟩
theorem wq796 : Cond.instanceMethod yX1_mendSpan ∈ mm_B := List.mem_filter.mpr ⟨List.mem_of_getElem? (i := 860) (by decide +kernel), rfl⟩
theorem wq797 : Cond.selects RX1 yX1_mendSpan yX1_mendSpan ∈ mm_B := List.mem_filter.mpr ⟨List.mem_of_getElem? (i := 861) (by decide +kernel), rfl⟩
theorem wq798 : Cond.code yX1_mendSpan cX1_mendSpan 3 none ∈ mm_B := List.mem_filter.mpr ⟨List.mem_of_getElem? (i := 862) (by decide +kernel), rfl⟩
theorem wq799 : Cond.methodLink RX1 162 yX1_hasCutOffReceiver ∈ mm_B := List.mem_filter.mpr ⟨List.mem_of_getElem? (i := 863) (by decide +kernel), rfl⟩
theorem wq801 : Cond.instanceMethod yX1_hasCutOffReceiver ∈ mm_B := List.mem_filter.mpr ⟨List.mem_of_getElem? (i := 865) (by decide +kernel), rfl⟩
theorem wq802 : Cond.code yX1_hasCutOffReceiver cX1_hasCutOffReceiver 4 (some .boolean) ∈ mm_B := List.mem_filter.mpr ⟨List.mem_of_getElem? (i := 866) (by decide +kernel), rfl⟩
theorem wq803 : Cond.methodLink RX1 165 yX3_clearFault ∈ mm_B := List.mem_filter.mpr ⟨List.mem_of_getElem? (i := 867) (by decide +kernel), rfl⟩
theorem wq804 : Cond.methodLink RL 185 yL_isCut ∈ mm_B := List.mem_filter.mpr ⟨List.mem_of_getElem? (i := 868) (by decide +kernel), rfl⟩
theorem wq805 : Cond.static yL_isCut ∈ mm_B := List.mem_filter.mpr ⟨List.mem_of_getElem? (i := 869) (by decide +kernel), rfl⟩
theorem wq806 : Cond.codeWith yL_isCut cL_isCut 4 (some .int) [(0, 16, 19, 19)] ∈ mm_B := List.mem_filter.mpr ⟨List.mem_of_getElem? (i := 870) (by decide +kernel), rfl⟩
theorem wq807 : Cond.methodLink RL 80 yX7_isCut ∈ mm_B := List.mem_filter.mpr ⟨List.mem_of_getElem? (i := 871) (by decide +kernel), rfl⟩
theorem wq808 : Cond.instanceMethod yX7_isCut ∈ mm_B := List.mem_filter.mpr ⟨List.mem_of_getElem? (i := 872) (by decide +kernel), rfl⟩
theorem wq809 : Cond.selects RX7 yX7_isCut yX7_isCut ∈ mm_B := List.mem_filter.mpr ⟨List.mem_of_getElem? (i := 873) (by decide +kernel), rfl⟩
theorem wq810 : Cond.code yX7_isCut cX7_isCut 2 (some .boolean) ∈ mm_B := List.mem_filter.mpr ⟨List.mem_of_getElem? (i := 874) (by decide +kernel), rfl⟩
theorem wq811 : Cond.methodLink RX7 244 yX5_isCutOff ∈ mm_B := List.mem_filter.mpr ⟨List.mem_of_getElem? (i := 875) (by decide +kernel), rfl⟩
theorem wq812 : Cond.methodLink RL 188 yL_setRisk ∈ mm_B := List.mem_filter.mpr ⟨List.mem_of_getElem? (i := 876) (by decide +kernel), rfl⟩
theorem wq813 : Cond.static yL_setRisk ∈ mm_B := List.mem_filter.mpr ⟨List.mem_of_getElem? (i := 877) (by decide +kernel), rfl⟩
theorem wq814 : Cond.codeWith yL_setRisk cL_setRisk 6 (some .int) [(0, 12, 15, 19), (0, 12, 19, 21)] ∈ mm_B := List.mem_filter.mpr ⟨List.mem_of_getElem? (i := 878) (by decide +kernel), rfl⟩
theorem wq815 : Cond.methodLink RL 84 yX7_setRisk ∈ mm_B := List.mem_filter.mpr ⟨List.mem_of_getElem? (i := 879) (by decide +kernel), rfl⟩
theorem wq816 : Cond.instanceMethod yX7_setRisk ∈ mm_B := List.mem_filter.mpr ⟨List.mem_of_getElem? (i := 880) (by decide +kernel), rfl⟩
theorem wq817 : Cond.selects RX7 yX7_setRisk yX7_setRisk ∈ mm_B := List.mem_filter.mpr ⟨List.mem_of_getElem? (i := 881) (by decide +kernel), rfl⟩
theorem wq818 : Cond.code yX7_setRisk cX7_setRisk 6 (some .int) ∈ mm_B := List.mem_filter.mpr ⟨List.mem_of_getElem? (i := 882) (by decide +kernel), rfl⟩
theorem wq820 : Cond.methodLink RL 191 yL_test ∈ mm_B := List.mem_filter.mpr ⟨List.mem_of_getElem? (i := 884) (by decide +kernel), rfl⟩
theorem wq821 : Cond.static yL_test ∈ mm_B := List.mem_filter.mpr ⟨List.mem_of_getElem? (i := 885) (by decide +kernel), rfl⟩
theorem wq822 : Cond.codeWith yL_test cL_test 5 (some .int) [(0, 17, 20, 19), (0, 17, 24, 21), (0, 17, 28, 13)] ∈ mm_B := List.mem_filter.mpr ⟨List.mem_of_getElem? (i := 886) (by decide +kernel), rfl⟩
theorem wq823 : Cond.methodLink RL 87 yX7_test ∈ mm_B := List.mem_filter.mpr ⟨List.mem_of_getElem? (i := 887) (by decide +kernel), rfl⟩
theorem wq824 : Cond.instanceMethod yX7_test ∈ mm_B := List.mem_filter.mpr ⟨List.mem_of_getElem? (i := 888) (by decide +kernel), rfl⟩
theorem wq825 : Cond.selects RX7 yX7_test yX7_test ∈ mm_B := List.mem_filter.mpr ⟨List.mem_of_getElem? (i := 889) (by decide +kernel), rfl⟩
theorem wq826 : Cond.code yX7_test cX7_test 4 (some .boolean) ∈ mm_B := List.mem_filter.mpr ⟨List.mem_of_getElem? (i := 890) (by decide +kernel), rfl⟩
theorem wq828 : Cond.methodLink RL 194 yL_testCost ∈ mm_B := List.mem_filter.mpr ⟨List.mem_of_getElem? (i := 892) (by decide +kernel), rfl⟩
theorem wq829 : Cond.static yL_testCost ∈ mm_B := List.mem_filter.mpr ⟨List.mem_of_getElem? (i := 893) (by decide +kernel), rfl⟩
theorem wq830 : Cond.codeWith yL_testCost cL_testCost 6 (some .int) [(0, 12, 15, 19), (0, 12, 19, 21)] ∈ mm_B := List.mem_filter.mpr ⟨List.mem_of_getElem? (i := 894) (by decide +kernel), rfl⟩
theorem wq831 : Cond.methodLink RL 91 yX7_testCost ∈ mm_B := List.mem_filter.mpr ⟨List.mem_of_getElem? (i := 895) (by decide +kernel), rfl⟩
theorem wq832 : Cond.instanceMethod yX7_testCost ∈ mm_B := List.mem_filter.mpr ⟨List.mem_of_getElem? (i := 896) (by decide +kernel), rfl⟩
theorem wq833 : Cond.selects RX7 yX7_testCost yX7_testCost ∈ mm_B := List.mem_filter.mpr ⟨List.mem_of_getElem? (i := 897) (by decide +kernel), rfl⟩
theorem wq834 : Cond.code yX7_testCost cX7_testCost 4 (some .int) ∈ mm_B := List.mem_filter.mpr ⟨List.mem_of_getElem? (i := 898) (by decide +kernel), rfl⟩
theorem wq835 : Cond.methodLink RX7 255 yX7_planTests ∈ mm_B := List.mem_filter.mpr ⟨List.mem_of_getElem? (i := 899) (by decide +kernel), rfl⟩
theorem wq837 : Cond.instanceMethod yX7_planTests ∈ mm_B := List.mem_filter.mpr ⟨List.mem_of_getElem? (i := 901) (by decide +kernel), rfl⟩
theorem wq838 : Cond.code yX7_planTests cX7_planTests 5 none ∈ mm_B := List.mem_filter.mpr ⟨List.mem_of_getElem? (i := 902) (by decide +kernel), rfl⟩
theorem wq840 : Cond.methodLink RX7 266 yX4_plan ∈ mm_B := List.mem_filter.mpr ⟨List.mem_of_getElem? (i := 904) (by decide +kernel), rfl⟩
theorem wq841 : Cond.instanceMethod yX4_plan ∈ mm_B := List.mem_filter.mpr ⟨List.mem_of_getElem? (i := 905) (by decide +kernel), rfl⟩
theorem wq842 : Cond.selects RX4 yX4_plan yX4_plan ∈ mm_B := List.mem_filter.mpr ⟨List.mem_of_getElem? (i := 906) (by decide +kernel), rfl⟩
theorem wq843 : Cond.code yX4_plan cX4_plan 6 none ∈ mm_B := List.mem_filter.mpr ⟨List.mem_of_getElem? (i := 907) (by decide +kernel), rfl⟩
theorem wq844 : Cond.methodLink RX4 19 yX4_planRun ∈ mm_B := List.mem_filter.mpr ⟨List.mem_of_getElem? (i := 908) (by decide +kernel), rfl⟩
theorem wq846 : Cond.instanceMethod yX4_planRun ∈ mm_B := List.mem_filter.mpr ⟨List.mem_of_getElem? (i := 910) (by decide +kernel), rfl⟩
theorem wq847 : Cond.code yX4_planRun cX4_planRun 9 none ∈ mm_B := List.mem_filter.mpr ⟨List.mem_of_getElem? (i := 911) (by decide +kernel), rfl⟩
theorem wq848 : Cond.methodLink RL 197 yL_bestTest ∈ mm_B := List.mem_filter.mpr ⟨List.mem_of_getElem? (i := 912) (by decide +kernel), rfl⟩
theorem wq849 : Cond.static yL_bestTest ∈ mm_B := List.mem_filter.mpr ⟨List.mem_of_getElem? (i := 913) (by decide +kernel), rfl⟩
theorem wq850 : Cond.codeWith yL_bestTest cL_bestTest 6 (some .int) [(0, 12, 15, 19), (0, 12, 19, 21)] ∈ mm_B := List.mem_filter.mpr ⟨List.mem_of_getElem? (i := 914) (by decide +kernel), rfl⟩
theorem wq851 : Cond.methodLink RL 94 yX7_bestTest ∈ mm_B := List.mem_filter.mpr ⟨List.mem_of_getElem? (i := 915) (by decide +kernel), rfl⟩
theorem wq852 : Cond.instanceMethod yX7_bestTest ∈ mm_B := List.mem_filter.mpr ⟨List.mem_of_getElem? (i := 916) (by decide +kernel), rfl⟩
theorem wq853 : Cond.selects RX7 yX7_bestTest yX7_bestTest ∈ mm_B := List.mem_filter.mpr ⟨List.mem_of_getElem? (i := 917) (by decide +kernel), rfl⟩
theorem wq854 : Cond.code yX7_bestTest cX7_bestTest 4 (some .int) ∈ mm_B := List.mem_filter.mpr ⟨List.mem_of_getElem? (i := 918) (by decide +kernel), rfl⟩
theorem wq855 : Cond.methodLink RL 200 yL_testsNeeded ∈ mm_B := List.mem_filter.mpr ⟨List.mem_of_getElem? (i := 919) (by decide +kernel), rfl⟩
theorem wq856 : Cond.static yL_testsNeeded ∈ mm_B := List.mem_filter.mpr ⟨List.mem_of_getElem? (i := 920) (by decide +kernel), rfl⟩
theorem wq857 : Cond.codeWith yL_testsNeeded cL_testsNeeded 4 (some .int) [(0, 9, 12, 19), (0, 9, 15, 13)] ∈ mm_B := List.mem_filter.mpr ⟨List.mem_of_getElem? (i := 921) (by decide +kernel), rfl⟩
theorem wq858 : Cond.methodLink RL 97 yX7_testsNeeded ∈ mm_B := List.mem_filter.mpr ⟨List.mem_of_getElem? (i := 922) (by decide +kernel), rfl⟩
theorem wq859 : Cond.instanceMethod yX7_testsNeeded ∈ mm_B := List.mem_filter.mpr ⟨List.mem_of_getElem? (i := 923) (by decide +kernel), rfl⟩
theorem wq860 : Cond.selects RX7 yX7_testsNeeded yX7_testsNeeded ∈ mm_B := List.mem_filter.mpr ⟨List.mem_of_getElem? (i := 924) (by decide +kernel), rfl⟩
theorem wq861 : Cond.code yX7_testsNeeded cX7_testsNeeded 3 (some .int) ∈ mm_B := List.mem_filter.mpr ⟨List.mem_of_getElem? (i := 925) (by decide +kernel), rfl⟩
theorem wq862 : Cond.methodLink RX7 270 yX4_countUntilFound ∈ mm_B := List.mem_filter.mpr ⟨List.mem_of_getElem? (i := 926) (by decide +kernel), rfl⟩
theorem wq863 : Cond.instanceMethod yX4_countUntilFound ∈ mm_B := List.mem_filter.mpr ⟨List.mem_of_getElem? (i := 927) (by decide +kernel), rfl⟩
theorem wq864 : Cond.selects RX4 yX4_countUntilFound yX4_countUntilFound ∈ mm_B := List.mem_filter.mpr ⟨List.mem_of_getElem? (i := 928) (by decide +kernel), rfl⟩
theorem wq865 : Cond.code yX4_countUntilFound cX4_countUntilFound 6 (some .int) ∈ mm_B := List.mem_filter.mpr ⟨List.mem_of_getElem? (i := 929) (by decide +kernel), rfl⟩
theorem wq866 : Cond.methodLink RL 203 yL_undo ∈ mm_B := List.mem_filter.mpr ⟨List.mem_of_getElem? (i := 930) (by decide +kernel), rfl⟩
theorem wq867 : Cond.static yL_undo ∈ mm_B := List.mem_filter.mpr ⟨List.mem_of_getElem? (i := 931) (by decide +kernel), rfl⟩
theorem wq868 : Cond.codeWith yL_undo cL_undo 3 (some .int) [(0, 8, 11, 13)] ∈ mm_B := List.mem_filter.mpr ⟨List.mem_of_getElem? (i := 932) (by decide +kernel), rfl⟩
theorem wq869 : Cond.methodLink RL 100 yX7_undo ∈ mm_B := List.mem_filter.mpr ⟨List.mem_of_getElem? (i := 933) (by decide +kernel), rfl⟩
theorem wq870 : Cond.instanceMethod yX7_undo ∈ mm_B := List.mem_filter.mpr ⟨List.mem_of_getElem? (i := 934) (by decide +kernel), rfl⟩
theorem wq871 : Cond.selects RX7 yX7_undo yX7_undo ∈ mm_B := List.mem_filter.mpr ⟨List.mem_of_getElem? (i := 935) (by decide +kernel), rfl⟩
theorem wq872 : Cond.code yX7_undo cX7_undo 1 (some .int) ∈ mm_B := List.mem_filter.mpr ⟨List.mem_of_getElem? (i := 936) (by decide +kernel), rfl⟩
theorem wq874 : Cond.methodLink RX7 278 yX2_restore ∈ mm_B := List.mem_filter.mpr ⟨List.mem_of_getElem? (i := 938) (by decide +kernel), rfl⟩
theorem wq875 : Cond.instanceMethod yX2_restore ∈ mm_B := List.mem_filter.mpr ⟨List.mem_of_getElem? (i := 939) (by decide +kernel), rfl⟩
theorem wq876 : Cond.selects RX2 yX2_restore yX2_restore ∈ mm_B := List.mem_filter.mpr ⟨List.mem_of_getElem? (i := 940) (by decide +kernel), rfl⟩
theorem wq877 : Cond.code yX2_restore cX2_restore 3 none ∈ mm_B := List.mem_filter.mpr ⟨List.mem_of_getElem? (i := 941) (by decide +kernel), rfl⟩
theorem wq878 : Cond.classLink RL 104 RX8 ∈ mm_B := List.mem_filter.mpr ⟨List.mem_of_getElem? (i := 942) (by decide +kernel), rfl⟩
theorem wq879 : Cond.instantiable RX8 7 ∈ mm_B := List.mem_filter.mpr ⟨List.mem_of_getElem? (i := 943) (by decide +kernel), rfl⟩
theorem wq880 : Cond.methodLink RL 106 yX8_init ∈ mm_B := List.mem_filter.mpr ⟨List.mem_of_getElem? (i := 944) (by decide +kernel), rfl⟩
theorem wq881 : Cond.instanceMethod yX8_init ∈ mm_B := List.mem_filter.mpr ⟨List.mem_of_getElem? (i := 945) (by decide +kernel), rfl⟩
theorem wq882 : Cond.code yX8_init cX8_init 1 none ∈ mm_B := List.mem_filter.mpr ⟨List.mem_of_getElem? (i := 946) (by decide +kernel), rfl⟩
theorem wq883 : Cond.methodLink RX8 1 objectInit ∈ mm_B := List.mem_filter.mpr ⟨List.mem_of_getElem? (i := 947) (by decide +kernel), rfl⟩
theorem wq884 : Cond.methodLink RX8 22 yX8_makesLoop ∈ mm_B := List.mem_filter.mpr ⟨List.mem_of_getElem? (i := 948) (by decide +kernel), rfl⟩
theorem wq886 : Cond.instanceMethod yX8_makesLoop ∈ mm_B := List.mem_filter.mpr ⟨List.mem_of_getElem? (i := 950) (by decide +kernel), rfl⟩
theorem wq887 : Cond.code yX8_makesLoop cX8_makesLoop 3 none ∈ mm_B := List.mem_filter.mpr ⟨List.mem_of_getElem? (i := 951) (by decide +kernel), rfl⟩
theorem wq888 : Cond.methodLink RX8 40 yX8_put ∈ mm_B := List.mem_filter.mpr ⟨List.mem_of_getElem? (i := 952) (by decide +kernel), rfl⟩
theorem wq890 : Cond.instanceMethod yX8_put ∈ mm_B := List.mem_filter.mpr ⟨List.mem_of_getElem? (i := 954) (by decide +kernel), rfl⟩
theorem wq891 : Cond.code yX8_put cX8_put 4 none ∈ mm_B := List.mem_filter.mpr ⟨List.mem_of_getElem? (i := 955) (by decide +kernel), rfl⟩
theorem wq892 : Cond.fieldLink RX8 7 RX8 "now" "[I" ∈ mm_B := List.mem_filter.mpr ⟨List.mem_of_getElem? (i := 956) (by decide +kernel), rfl⟩
theorem wq893 : Cond.fieldLink RX8 13 RX8 "past" "[I" ∈ mm_B := List.mem_filter.mpr ⟨List.mem_of_getElem? (i := 957) (by decide +kernel), rfl⟩
theorem wq894 : Cond.fieldLink RX8 29 RX8 "saved" "I" ∈ mm_B := List.mem_filter.mpr ⟨List.mem_of_getElem? (i := 958) (by decide +kernel), rfl⟩
theorem wq895 : Cond.fieldLink RX8 25 RX8 "refusal" "I" ∈ mm_B := List.mem_filter.mpr ⟨List.mem_of_getElem? (i := 959) (by decide +kernel), rfl⟩
theorem wq896 : Cond.fieldLink RX8 16 RX8 "costs" "[I" ∈ mm_B := List.mem_filter.mpr ⟨List.mem_of_getElem? (i := 960) (by decide +kernel), rfl⟩
theorem wq897 : Cond.fieldLink RX8 19 RX8 "bests" "[I" ∈ mm_B := List.mem_filter.mpr ⟨List.mem_of_getElem? (i := 961) (by decide +kernel), rfl⟩
theorem wq898 : Cond.fieldLink RX8 158 RX8 "hash" "J" ∈ mm_B := List.mem_filter.mpr ⟨List.mem_of_getElem? (i := 962) (by decide +kernel), rfl⟩
theorem wq914 : Cond.methodLink RL 113 yX8_thrown ∈ mm_B := List.mem_filter.mpr ⟨List.mem_of_getElem? (i := 978) (by decide +kernel), rfl⟩
theorem wq915 : Cond.instanceMethod yX8_thrown ∈ mm_B := List.mem_filter.mpr ⟨List.mem_of_getElem? (i := 979) (by decide +kernel), rfl⟩
theorem wq916 : Cond.selects RX8 yX8_thrown yX8_thrown ∈ mm_B := List.mem_filter.mpr ⟨List.mem_of_getElem? (i := 980) (by decide +kernel), rfl⟩
theorem wq917 : Cond.code yX8_thrown cX8_thrown 1 (some .int) ∈ mm_B := List.mem_filter.mpr ⟨List.mem_of_getElem? (i := 981) (by decide +kernel), rfl⟩
theorem wq918 : Cond.methodLink RL 205 yX8_undo ∈ mm_B := List.mem_filter.mpr ⟨List.mem_of_getElem? (i := 982) (by decide +kernel), rfl⟩
theorem wq919 : Cond.instanceMethod yX8_undo ∈ mm_B := List.mem_filter.mpr ⟨List.mem_of_getElem? (i := 983) (by decide +kernel), rfl⟩
theorem wq920 : Cond.selects RX8 yX8_undo yX8_undo ∈ mm_B := List.mem_filter.mpr ⟨List.mem_of_getElem? (i := 984) (by decide +kernel), rfl⟩
theorem wq921 : Cond.code yX8_undo cX8_undo 2 (some .int) ∈ mm_B := List.mem_filter.mpr ⟨List.mem_of_getElem? (i := 985) (by decide +kernel), rfl⟩
theorem wq922 : Cond.methodLink RX8 32 yX8_refused ∈ mm_B := List.mem_filter.mpr ⟨List.mem_of_getElem? (i := 986) (by decide +kernel), rfl⟩
theorem wq924 : Cond.instanceMethod yX8_refused ∈ mm_B := List.mem_filter.mpr ⟨List.mem_of_getElem? (i := 988) (by decide +kernel), rfl⟩
theorem wq925 : Cond.code yX8_refused cX8_refused 2 (some .boolean) ∈ mm_B := List.mem_filter.mpr ⟨List.mem_of_getElem? (i := 989) (by decide +kernel), rfl⟩
theorem wq926 : Cond.methodLink RL 112 yX8_addLoop ∈ mm_B := List.mem_filter.mpr ⟨List.mem_of_getElem? (i := 990) (by decide +kernel), rfl⟩
theorem wq927 : Cond.instanceMethod yX8_addLoop ∈ mm_B := List.mem_filter.mpr ⟨List.mem_of_getElem? (i := 991) (by decide +kernel), rfl⟩
theorem wq928 : Cond.selects RX8 yX8_addLoop yX8_addLoop ∈ mm_B := List.mem_filter.mpr ⟨List.mem_of_getElem? (i := 992) (by decide +kernel), rfl⟩
theorem wq929 : Cond.code yX8_addLoop cX8_addLoop 1 (some .int) ∈ mm_B := List.mem_filter.mpr ⟨List.mem_of_getElem? (i := 993) (by decide +kernel), rfl⟩
theorem wq930 : Cond.methodLink RX8 44 yX8_saves ∈ mm_B := List.mem_filter.mpr ⟨List.mem_of_getElem? (i := 994) (by decide +kernel), rfl⟩
theorem wq932 : Cond.instanceMethod yX8_saves ∈ mm_B := List.mem_filter.mpr ⟨List.mem_of_getElem? (i := 996) (by decide +kernel), rfl⟩
theorem wq933 : Cond.code yX8_saves cX8_saves 2 none ∈ mm_B := List.mem_filter.mpr ⟨List.mem_of_getElem? (i := 997) (by decide +kernel), rfl⟩
theorem wq934 : Cond.methodLink RL 119 yX8_addSubscriber ∈ mm_B := List.mem_filter.mpr ⟨List.mem_of_getElem? (i := 998) (by decide +kernel), rfl⟩
theorem wq935 : Cond.instanceMethod yX8_addSubscriber ∈ mm_B := List.mem_filter.mpr ⟨List.mem_of_getElem? (i := 999) (by decide +kernel), rfl⟩
theorem wq936 : Cond.selects RX8 yX8_addSubscriber yX8_addSubscriber ∈ mm_B := List.mem_filter.mpr ⟨List.mem_of_getElem? (i := 1000) (by decide +kernel), rfl⟩
theorem wq937 : Cond.code yX8_addSubscriber cX8_addSubscriber 6 (some .int) ∈ mm_B := List.mem_filter.mpr ⟨List.mem_of_getElem? (i := 1001) (by decide +kernel), rfl⟩
theorem wq938 : Cond.methodLink RX8 36 yX8_within ∈ mm_B := List.mem_filter.mpr ⟨List.mem_of_getElem? (i := 1002) (by decide +kernel), rfl⟩
theorem wq939 : Cond.static yX8_within ∈ mm_B := List.mem_filter.mpr ⟨List.mem_of_getElem? (i := 1003) (by decide +kernel), rfl⟩
theorem wq940 : Cond.code yX8_within cX8_within 3 (some .boolean) ∈ mm_B := List.mem_filter.mpr ⟨List.mem_of_getElem? (i := 1004) (by decide +kernel), rfl⟩
theorem wq941 : Cond.methodLink RX8 51 yX8_isLoop ∈ mm_B := List.mem_filter.mpr ⟨List.mem_of_getElem? (i := 1005) (by decide +kernel), rfl⟩
theorem wq943 : Cond.instanceMethod yX8_isLoop ∈ mm_B := List.mem_filter.mpr ⟨List.mem_of_getElem? (i := 1007) (by decide +kernel), rfl⟩
theorem wq944 : Cond.code yX8_isLoop cX8_isLoop 2 (some .boolean) ∈ mm_B := List.mem_filter.mpr ⟨List.mem_of_getElem? (i := 1008) (by decide +kernel), rfl⟩
theorem wq945 : Cond.methodLink RX8 54 yX8_isTaken ∈ mm_B := List.mem_filter.mpr ⟨List.mem_of_getElem? (i := 1009) (by decide +kernel), rfl⟩
theorem wq947 : Cond.instanceMethod yX8_isTaken ∈ mm_B := List.mem_filter.mpr ⟨List.mem_of_getElem? (i := 1011) (by decide +kernel), rfl⟩
theorem wq948 : Cond.code yX8_isTaken cX8_isTaken 6 (some .boolean) ∈ mm_B := List.mem_filter.mpr ⟨List.mem_of_getElem? (i := 1012) (by decide +kernel), rfl⟩
theorem wq949 : Cond.methodLink RX8 47 yX8_its ∈ mm_B := List.mem_filter.mpr ⟨List.mem_of_getElem? (i := 1013) (by decide +kernel), rfl⟩
theorem wq951 : Cond.instanceMethod yX8_its ∈ mm_B := List.mem_filter.mpr ⟨List.mem_of_getElem? (i := 1015) (by decide +kernel), rfl⟩
theorem wq952 : Cond.code yX8_its cX8_its 3 (some .int) ∈ mm_B := List.mem_filter.mpr ⟨List.mem_of_getElem? (i := 1016) (by decide +kernel), rfl⟩
theorem wq953 : Cond.methodLink RX8 57 yX8_give ∈ mm_B := List.mem_filter.mpr ⟨List.mem_of_getElem? (i := 1017) (by decide +kernel), rfl⟩
theorem wq955 : Cond.instanceMethod yX8_give ∈ mm_B := List.mem_filter.mpr ⟨List.mem_of_getElem? (i := 1019) (by decide +kernel), rfl⟩
theorem wq956 : Cond.code yX8_give cX8_give 4 none ∈ mm_B := List.mem_filter.mpr ⟨List.mem_of_getElem? (i := 1020) (by decide +kernel), rfl⟩
theorem wq957 : Cond.methodLink RL 122 yX8_set ∈ mm_B := List.mem_filter.mpr ⟨List.mem_of_getElem? (i := 1021) (by decide +kernel), rfl⟩
theorem wq958 : Cond.instanceMethod yX8_set ∈ mm_B := List.mem_filter.mpr ⟨List.mem_of_getElem? (i := 1022) (by decide +kernel), rfl⟩
theorem wq959 : Cond.selects RX8 yX8_set yX8_set ∈ mm_B := List.mem_filter.mpr ⟨List.mem_of_getElem? (i := 1023) (by decide +kernel), rfl⟩
theorem wq960 : Cond.code yX8_set cX8_set 7 (some .int) ∈ mm_B := List.mem_filter.mpr ⟨List.mem_of_getElem? (i := 1024) (by decide +kernel), rfl⟩
theorem wq961 : Cond.methodLink RX8 63 yX8_isOne ∈ mm_B := List.mem_filter.mpr ⟨List.mem_of_getElem? (i := 1025) (by decide +kernel), rfl⟩
theorem wq963 : Cond.instanceMethod yX8_isOne ∈ mm_B := List.mem_filter.mpr ⟨List.mem_of_getElem? (i := 1027) (by decide +kernel), rfl⟩
theorem wq964 : Cond.code yX8_isOne cX8_isOne 2 (some .boolean) ∈ mm_B := List.mem_filter.mpr ⟨List.mem_of_getElem? (i := 1028) (by decide +kernel), rfl⟩
theorem wq965 : Cond.methodLink RX8 66 yX8_isRung ∈ mm_B := List.mem_filter.mpr ⟨List.mem_of_getElem? (i := 1029) (by decide +kernel), rfl⟩
theorem wq967 : Cond.instanceMethod yX8_isRung ∈ mm_B := List.mem_filter.mpr ⟨List.mem_of_getElem? (i := 1031) (by decide +kernel), rfl⟩
theorem wq968 : Cond.code yX8_isRung cX8_isRung 2 (some .boolean) ∈ mm_B := List.mem_filter.mpr ⟨List.mem_of_getElem? (i := 1032) (by decide +kernel), rfl⟩
theorem wq969 : Cond.methodLink RX8 60 yX8_of ∈ mm_B := List.mem_filter.mpr ⟨List.mem_of_getElem? (i := 1033) (by decide +kernel), rfl⟩
theorem wq971 : Cond.instanceMethod yX8_of ∈ mm_B := List.mem_filter.mpr ⟨List.mem_of_getElem? (i := 1035) (by decide +kernel), rfl⟩
theorem wq972 : Cond.code yX8_of cX8_of 3 (some .int) ∈ mm_B := List.mem_filter.mpr ⟨List.mem_of_getElem? (i := 1036) (by decide +kernel), rfl⟩
theorem wq973 : Cond.methodLink RL 126 yX8_loops ∈ mm_B := List.mem_filter.mpr ⟨List.mem_of_getElem? (i := 1037) (by decide +kernel), rfl⟩
theorem wq974 : Cond.instanceMethod yX8_loops ∈ mm_B := List.mem_filter.mpr ⟨List.mem_of_getElem? (i := 1038) (by decide +kernel), rfl⟩
theorem wq975 : Cond.selects RX8 yX8_loops yX8_loops ∈ mm_B := List.mem_filter.mpr ⟨List.mem_of_getElem? (i := 1039) (by decide +kernel), rfl⟩
theorem wq976 : Cond.code yX8_loops cX8_loops 1 (some .int) ∈ mm_B := List.mem_filter.mpr ⟨List.mem_of_getElem? (i := 1040) (by decide +kernel), rfl⟩
theorem wq977 : Cond.methodLink RL 130 yX8_subscribers ∈ mm_B := List.mem_filter.mpr ⟨List.mem_of_getElem? (i := 1041) (by decide +kernel), rfl⟩
theorem wq978 : Cond.instanceMethod yX8_subscribers ∈ mm_B := List.mem_filter.mpr ⟨List.mem_of_getElem? (i := 1042) (by decide +kernel), rfl⟩
theorem wq979 : Cond.selects RX8 yX8_subscribers yX8_subscribers ∈ mm_B := List.mem_filter.mpr ⟨List.mem_of_getElem? (i := 1043) (by decide +kernel), rfl⟩
theorem wq980 : Cond.code yX8_subscribers cX8_subscribers 1 (some .int) ∈ mm_B := List.mem_filter.mpr ⟨List.mem_of_getElem? (i := 1044) (by decide +kernel), rfl⟩
theorem wq981 : Cond.methodLink RL 134 yX8_subscriber ∈ mm_B := List.mem_filter.mpr ⟨List.mem_of_getElem? (i := 1045) (by decide +kernel), rfl⟩
theorem wq982 : Cond.instanceMethod yX8_subscriber ∈ mm_B := List.mem_filter.mpr ⟨List.mem_of_getElem? (i := 1046) (by decide +kernel), rfl⟩
theorem wq983 : Cond.selects RX8 yX8_subscriber yX8_subscriber ∈ mm_B := List.mem_filter.mpr ⟨List.mem_of_getElem? (i := 1047) (by decide +kernel), rfl⟩
theorem wq984 : Cond.code yX8_subscriber cX8_subscriber 3 (some .int) ∈ mm_B := List.mem_filter.mpr ⟨List.mem_of_getElem? (i := 1048) (by decide +kernel), rfl⟩
theorem wq985 : Cond.methodLink RX8 76 yX8_told ∈ mm_B := List.mem_filter.mpr ⟨List.mem_of_getElem? (i := 1049) (by decide +kernel), rfl⟩
theorem wq987 : Cond.instanceMethod yX8_told ∈ mm_B := List.mem_filter.mpr ⟨List.mem_of_getElem? (i := 1051) (by decide +kernel), rfl⟩
theorem wq988 : Cond.code yX8_told cX8_told 3 (some .int) ∈ mm_B := List.mem_filter.mpr ⟨List.mem_of_getElem? (i := 1052) (by decide +kernel), rfl⟩
theorem wq989 : Cond.methodLink RX8 72 yX8_state ∈ mm_B := List.mem_filter.mpr ⟨List.mem_of_getElem? (i := 1053) (by decide +kernel), rfl⟩
theorem wq991 : Cond.instanceMethod yX8_state ∈ mm_B := List.mem_filter.mpr ⟨List.mem_of_getElem? (i := 1055) (by decide +kernel), rfl⟩
theorem wq992 : Cond.code yX8_state cX8_state 2 (some .int) ∈ mm_B := List.mem_filter.mpr ⟨List.mem_of_getElem? (i := 1056) (by decide +kernel), rfl⟩
theorem wq993 : Cond.methodLink RX8 69 yX8_cut ∈ mm_B := List.mem_filter.mpr ⟨List.mem_of_getElem? (i := 1057) (by decide +kernel), rfl⟩
theorem wq995 : Cond.instanceMethod yX8_cut ∈ mm_B := List.mem_filter.mpr ⟨List.mem_of_getElem? (i := 1059) (by decide +kernel), rfl⟩
theorem wq996 : Cond.code yX8_cut cX8_cut 3 (some .boolean) ∈ mm_B := List.mem_filter.mpr ⟨List.mem_of_getElem? (i := 1060) (by decide +kernel), rfl⟩
theorem wq997 : Cond.methodLink RL 137 yX8_loop ∈ mm_B := List.mem_filter.mpr ⟨List.mem_of_getElem? (i := 1061) (by decide +kernel), rfl⟩
theorem wq998 : Cond.instanceMethod yX8_loop ∈ mm_B := List.mem_filter.mpr ⟨List.mem_of_getElem? (i := 1062) (by decide +kernel), rfl⟩
theorem wq999 : Cond.selects RX8 yX8_loop yX8_loop ∈ mm_B := List.mem_filter.mpr ⟨List.mem_of_getElem? (i := 1063) (by decide +kernel), rfl⟩
theorem wq1000 : Cond.code yX8_loop cX8_loop 3 (some .int) ∈ mm_B := List.mem_filter.mpr ⟨List.mem_of_getElem? (i := 1064) (by decide +kernel), rfl⟩
theorem wq1001 : Cond.methodLink RX8 79 yX8_toldLoop ∈ mm_B := List.mem_filter.mpr ⟨List.mem_of_getElem? (i := 1065) (by decide +kernel), rfl⟩
theorem wq1003 : Cond.instanceMethod yX8_toldLoop ∈ mm_B := List.mem_filter.mpr ⟨List.mem_of_getElem? (i := 1067) (by decide +kernel), rfl⟩
theorem wq1004 : Cond.code yX8_toldLoop cX8_toldLoop 5 (some .int) ∈ mm_B := List.mem_filter.mpr ⟨List.mem_of_getElem? (i := 1068) (by decide +kernel), rfl⟩
theorem wq1005 : Cond.methodLink RL 141 yX8_lift ∈ mm_B := List.mem_filter.mpr ⟨List.mem_of_getElem? (i := 1069) (by decide +kernel), rfl⟩
theorem wq1006 : Cond.instanceMethod yX8_lift ∈ mm_B := List.mem_filter.mpr ⟨List.mem_of_getElem? (i := 1070) (by decide +kernel), rfl⟩
theorem wq1007 : Cond.selects RX8 yX8_lift yX8_lift ∈ mm_B := List.mem_filter.mpr ⟨List.mem_of_getElem? (i := 1071) (by decide +kernel), rfl⟩
theorem wq1008 : Cond.code yX8_lift cX8_lift 3 (some .int) ∈ mm_B := List.mem_filter.mpr ⟨List.mem_of_getElem? (i := 1072) (by decide +kernel), rfl⟩
theorem wq1009 : Cond.methodLink RX8 97 yX8_lifts ∈ mm_B := List.mem_filter.mpr ⟨List.mem_of_getElem? (i := 1073) (by decide +kernel), rfl⟩
theorem wq1011 : Cond.instanceMethod yX8_lifts ∈ mm_B := List.mem_filter.mpr ⟨List.mem_of_getElem? (i := 1075) (by decide +kernel), rfl⟩
theorem wq1012 : Cond.code yX8_lifts cX8_lifts 6 none ∈ mm_B := List.mem_filter.mpr ⟨List.mem_of_getElem? (i := 1076) (by decide +kernel), rfl⟩
theorem wq1013 : Cond.methodLink RX8 86 yX8_comes ∈ mm_B := List.mem_filter.mpr ⟨List.mem_of_getElem? (i := 1077) (by decide +kernel), rfl⟩
theorem wq1015 : Cond.instanceMethod yX8_comes ∈ mm_B := List.mem_filter.mpr ⟨List.mem_of_getElem? (i := 1079) (by decide +kernel), rfl⟩
theorem wq1016 : Cond.code yX8_comes cX8_comes 6 none ∈ mm_B := List.mem_filter.mpr ⟨List.mem_of_getElem? (i := 1080) (by decide +kernel), rfl⟩
theorem wq1017 : Cond.methodLink RX8 94 yX8_isPrivate ∈ mm_B := List.mem_filter.mpr ⟨List.mem_of_getElem? (i := 1081) (by decide +kernel), rfl⟩
theorem wq1019 : Cond.instanceMethod yX8_isPrivate ∈ mm_B := List.mem_filter.mpr ⟨List.mem_of_getElem? (i := 1083) (by decide +kernel), rfl⟩
theorem wq1020 : Cond.code yX8_isPrivate cX8_isPrivate 2 (some .boolean) ∈ mm_B := List.mem_filter.mpr ⟨List.mem_of_getElem? (i := 1084) (by decide +kernel), rfl⟩
theorem wq1021 : Cond.methodLink RL 144 yX8_hang ∈ mm_B := List.mem_filter.mpr ⟨List.mem_of_getElem? (i := 1085) (by decide +kernel), rfl⟩
theorem wq1022 : Cond.instanceMethod yX8_hang ∈ mm_B := List.mem_filter.mpr ⟨List.mem_of_getElem? (i := 1086) (by decide +kernel), rfl⟩
theorem wq1023 : Cond.selects RX8 yX8_hang yX8_hang ∈ mm_B := List.mem_filter.mpr ⟨List.mem_of_getElem? (i := 1087) (by decide +kernel), rfl⟩
theorem wq1024 : Cond.code yX8_hang cX8_hang 6 (some .int) ∈ mm_B := List.mem_filter.mpr ⟨List.mem_of_getElem? (i := 1088) (by decide +kernel), rfl⟩
theorem wq1025 : Cond.methodLink RX8 100 yX8_isAnyOn ∈ mm_B := List.mem_filter.mpr ⟨List.mem_of_getElem? (i := 1089) (by decide +kernel), rfl⟩
theorem wq1027 : Cond.instanceMethod yX8_isAnyOn ∈ mm_B := List.mem_filter.mpr ⟨List.mem_of_getElem? (i := 1091) (by decide +kernel), rfl⟩
theorem wq1028 : Cond.code yX8_isAnyOn cX8_isAnyOn 4 (some .boolean) ∈ mm_B := List.mem_filter.mpr ⟨List.mem_of_getElem? (i := 1092) (by decide +kernel), rfl⟩
theorem wq1029 : Cond.methodLink RX8 82 yX8_isOn ∈ mm_B := List.mem_filter.mpr ⟨List.mem_of_getElem? (i := 1093) (by decide +kernel), rfl⟩
theorem wq1031 : Cond.instanceMethod yX8_isOn ∈ mm_B := List.mem_filter.mpr ⟨List.mem_of_getElem? (i := 1095) (by decide +kernel), rfl⟩
theorem wq1032 : Cond.code yX8_isOn cX8_isOn 3 (some .boolean) ∈ mm_B := List.mem_filter.mpr ⟨List.mem_of_getElem? (i := 1096) (by decide +kernel), rfl⟩
theorem wq1033 : Cond.methodLink RX8 103 yX8_ends ∈ mm_B := List.mem_filter.mpr ⟨List.mem_of_getElem? (i := 1097) (by decide +kernel), rfl⟩
theorem wq1035 : Cond.instanceMethod yX8_ends ∈ mm_B := List.mem_filter.mpr ⟨List.mem_of_getElem? (i := 1099) (by decide +kernel), rfl⟩
theorem wq1036 : Cond.code yX8_ends cX8_ends 4 none ∈ mm_B := List.mem_filter.mpr ⟨List.mem_of_getElem? (i := 1100) (by decide +kernel), rfl⟩
theorem wq1037 : Cond.methodLink RX8 90 yX8_leaves ∈ mm_B := List.mem_filter.mpr ⟨List.mem_of_getElem? (i := 1101) (by decide +kernel), rfl⟩
theorem wq1039 : Cond.instanceMethod yX8_leaves ∈ mm_B := List.mem_filter.mpr ⟨List.mem_of_getElem? (i := 1103) (by decide +kernel), rfl⟩
theorem wq1040 : Cond.code yX8_leaves cX8_leaves 4 none ∈ mm_B := List.mem_filter.mpr ⟨List.mem_of_getElem? (i := 1104) (by decide +kernel), rfl⟩
theorem wq1041 : Cond.methodLink RL 147 yX8_dial ∈ mm_B := List.mem_filter.mpr ⟨List.mem_of_getElem? (i := 1105) (by decide +kernel), rfl⟩
theorem wq1042 : Cond.instanceMethod yX8_dial ∈ mm_B := List.mem_filter.mpr ⟨List.mem_of_getElem? (i := 1106) (by decide +kernel), rfl⟩
theorem wq1043 : Cond.selects RX8 yX8_dial yX8_dial ∈ mm_B := List.mem_filter.mpr ⟨List.mem_of_getElem? (i := 1107) (by decide +kernel), rfl⟩
theorem wq1044 : Cond.code yX8_dial cX8_dial 8 (some .int) ∈ mm_B := List.mem_filter.mpr ⟨List.mem_of_getElem? (i := 1108) (by decide +kernel), rfl⟩
theorem wq1045 : Cond.methodLink RX8 106 yX8_leadsTo ∈ mm_B := List.mem_filter.mpr ⟨List.mem_of_getElem? (i := 1109) (by decide +kernel), rfl⟩
theorem wq1047 : Cond.instanceMethod yX8_leadsTo ∈ mm_B := List.mem_filter.mpr ⟨List.mem_of_getElem? (i := 1111) (by decide +kernel), rfl⟩
theorem wq1048 : Cond.code yX8_leadsTo cX8_leadsTo 4 (some .int) ∈ mm_B := List.mem_filter.mpr ⟨List.mem_of_getElem? (i := 1112) (by decide +kernel), rfl⟩
theorem wq1049 : Cond.methodLink RL 159 yX8_wouldDial ∈ mm_B := List.mem_filter.mpr ⟨List.mem_of_getElem? (i := 1113) (by decide +kernel), rfl⟩
theorem wq1050 : Cond.instanceMethod yX8_wouldDial ∈ mm_B := List.mem_filter.mpr ⟨List.mem_of_getElem? (i := 1114) (by decide +kernel), rfl⟩
theorem wq1051 : Cond.selects RX8 yX8_wouldDial yX8_wouldDial ∈ mm_B := List.mem_filter.mpr ⟨List.mem_of_getElem? (i := 1115) (by decide +kernel), rfl⟩
theorem wq1052 : Cond.code yX8_wouldDial cX8_wouldDial 3 (some .int) ∈ mm_B := List.mem_filter.mpr ⟨List.mem_of_getElem? (i := 1116) (by decide +kernel), rfl⟩
theorem wq1053 : Cond.methodLink RX8 109 yX8_need ∈ mm_B := List.mem_filter.mpr ⟨List.mem_of_getElem? (i := 1117) (by decide +kernel), rfl⟩
theorem wq1055 : Cond.instanceMethod yX8_need ∈ mm_B := List.mem_filter.mpr ⟨List.mem_of_getElem? (i := 1119) (by decide +kernel), rfl⟩
theorem wq1056 : Cond.code yX8_need cX8_need 2 (some .int) ∈ mm_B := List.mem_filter.mpr ⟨List.mem_of_getElem? (i := 1120) (by decide +kernel), rfl⟩
theorem wq1057 : Cond.methodLink RL 150 yX8_tick ∈ mm_B := List.mem_filter.mpr ⟨List.mem_of_getElem? (i := 1121) (by decide +kernel), rfl⟩
theorem wq1058 : Cond.instanceMethod yX8_tick ∈ mm_B := List.mem_filter.mpr ⟨List.mem_of_getElem? (i := 1122) (by decide +kernel), rfl⟩
theorem wq1059 : Cond.selects RX8 yX8_tick yX8_tick ∈ mm_B := List.mem_filter.mpr ⟨List.mem_of_getElem? (i := 1123) (by decide +kernel), rfl⟩
theorem wq1060 : Cond.code yX8_tick cX8_tick 4 (some .int) ∈ mm_B := List.mem_filter.mpr ⟨List.mem_of_getElem? (i := 1124) (by decide +kernel), rfl⟩
theorem wq1061 : Cond.methodLink RX8 122 yX8_goesOn ∈ mm_B := List.mem_filter.mpr ⟨List.mem_of_getElem? (i := 1125) (by decide +kernel), rfl⟩
theorem wq1063 : Cond.instanceMethod yX8_goesOn ∈ mm_B := List.mem_filter.mpr ⟨List.mem_of_getElem? (i := 1127) (by decide +kernel), rfl⟩
theorem wq1064 : Cond.code yX8_goesOn cX8_goesOn 4 none ∈ mm_B := List.mem_filter.mpr ⟨List.mem_of_getElem? (i := 1128) (by decide +kernel), rfl⟩
theorem wq1065 : Cond.methodLink RX8 113 yX8_lengthOf ∈ mm_B := List.mem_filter.mpr ⟨List.mem_of_getElem? (i := 1129) (by decide +kernel), rfl⟩
theorem wq1066 : Cond.static yX8_lengthOf ∈ mm_B := List.mem_filter.mpr ⟨List.mem_of_getElem? (i := 1130) (by decide +kernel), rfl⟩
theorem wq1067 : Cond.code yX8_lengthOf cX8_lengthOf 4 (some .int) ∈ mm_B := List.mem_filter.mpr ⟨List.mem_of_getElem? (i := 1131) (by decide +kernel), rfl⟩
theorem wq1068 : Cond.methodLink RX8 125 yX8_ringsOf ∈ mm_B := List.mem_filter.mpr ⟨List.mem_of_getElem? (i := 1132) (by decide +kernel), rfl⟩
theorem wq1069 : Cond.static yX8_ringsOf ∈ mm_B := List.mem_filter.mpr ⟨List.mem_of_getElem? (i := 1133) (by decide +kernel), rfl⟩
theorem wq1070 : Cond.code yX8_ringsOf cX8_ringsOf 3 (some .int) ∈ mm_B := List.mem_filter.mpr ⟨List.mem_of_getElem? (i := 1134) (by decide +kernel), rfl⟩
theorem wq1071 : Cond.methodLink RX8 128 yX8_ringOf ∈ mm_B := List.mem_filter.mpr ⟨List.mem_of_getElem? (i := 1135) (by decide +kernel), rfl⟩
theorem wq1072 : Cond.static yX8_ringOf ∈ mm_B := List.mem_filter.mpr ⟨List.mem_of_getElem? (i := 1136) (by decide +kernel), rfl⟩
theorem wq1073 : Cond.code yX8_ringOf cX8_ringOf 2 (some .int) ∈ mm_B := List.mem_filter.mpr ⟨List.mem_of_getElem? (i := 1137) (by decide +kernel), rfl⟩
theorem wq1074 : Cond.methodLink RX8 116 yX8_bothLengths ∈ mm_B := List.mem_filter.mpr ⟨List.mem_of_getElem? (i := 1138) (by decide +kernel), rfl⟩
theorem wq1076 : Cond.instanceMethod yX8_bothLengths ∈ mm_B := List.mem_filter.mpr ⟨List.mem_of_getElem? (i := 1140) (by decide +kernel), rfl⟩
theorem wq1077 : Cond.code yX8_bothLengths cX8_bothLengths 2 (some .int) ∈ mm_B := List.mem_filter.mpr ⟨List.mem_of_getElem? (i := 1141) (by decide +kernel), rfl⟩
theorem wq1078 : Cond.methodLink RX8 119 yX8_isLocked ∈ mm_B := List.mem_filter.mpr ⟨List.mem_of_getElem? (i := 1142) (by decide +kernel), rfl⟩
theorem wq1080 : Cond.instanceMethod yX8_isLocked ∈ mm_B := List.mem_filter.mpr ⟨List.mem_of_getElem? (i := 1144) (by decide +kernel), rfl⟩
theorem wq1081 : Cond.code yX8_isLocked cX8_isLocked 4 (some .boolean) ∈ mm_B := List.mem_filter.mpr ⟨List.mem_of_getElem? (i := 1145) (by decide +kernel), rfl⟩
theorem wq1082 : Cond.methodLink RL 153 yX8_setLimit ∈ mm_B := List.mem_filter.mpr ⟨List.mem_of_getElem? (i := 1146) (by decide +kernel), rfl⟩
theorem wq1083 : Cond.instanceMethod yX8_setLimit ∈ mm_B := List.mem_filter.mpr ⟨List.mem_of_getElem? (i := 1147) (by decide +kernel), rfl⟩
theorem wq1084 : Cond.selects RX8 yX8_setLimit yX8_setLimit ∈ mm_B := List.mem_filter.mpr ⟨List.mem_of_getElem? (i := 1148) (by decide +kernel), rfl⟩
theorem wq1085 : Cond.code yX8_setLimit cX8_setLimit 3 (some .int) ∈ mm_B := List.mem_filter.mpr ⟨List.mem_of_getElem? (i := 1149) (by decide +kernel), rfl⟩
theorem wq1086 : Cond.methodLink RL 162 yX8_told_ ∈ mm_B := List.mem_filter.mpr ⟨List.mem_of_getElem? (i := 1150) (by decide +kernel), rfl⟩
theorem wq1087 : Cond.instanceMethod yX8_told_ ∈ mm_B := List.mem_filter.mpr ⟨List.mem_of_getElem? (i := 1151) (by decide +kernel), rfl⟩
theorem wq1088 : Cond.selects RX8 yX8_told_ yX8_told_ ∈ mm_B := List.mem_filter.mpr ⟨List.mem_of_getElem? (i := 1152) (by decide +kernel), rfl⟩
theorem wq1089 : Cond.code yX8_told_ cX8_told_ 2 (some .int) ∈ mm_B := List.mem_filter.mpr ⟨List.mem_of_getElem? (i := 1153) (by decide +kernel), rfl⟩
theorem wq1090 : Cond.methodLink RL 156 yX8_rings ∈ mm_B := List.mem_filter.mpr ⟨List.mem_of_getElem? (i := 1154) (by decide +kernel), rfl⟩
theorem wq1091 : Cond.instanceMethod yX8_rings ∈ mm_B := List.mem_filter.mpr ⟨List.mem_of_getElem? (i := 1155) (by decide +kernel), rfl⟩
theorem wq1092 : Cond.selects RX8 yX8_rings yX8_rings ∈ mm_B := List.mem_filter.mpr ⟨List.mem_of_getElem? (i := 1156) (by decide +kernel), rfl⟩
theorem wq1093 : Cond.code yX8_rings cX8_rings 2 (some .int) ∈ mm_B := List.mem_filter.mpr ⟨List.mem_of_getElem? (i := 1157) (by decide +kernel), rfl⟩
theorem wq1094 : Cond.methodLink RX8 134 yX8_heardIn ∈ mm_B := List.mem_filter.mpr ⟨List.mem_of_getElem? (i := 1158) (by decide +kernel), rfl⟩
theorem wq1096 : Cond.instanceMethod yX8_heardIn ∈ mm_B := List.mem_filter.mpr ⟨List.mem_of_getElem? (i := 1160) (by decide +kernel), rfl⟩
theorem wq1097 : Cond.code yX8_heardIn cX8_heardIn 5 (some .int) ∈ mm_B := List.mem_filter.mpr ⟨List.mem_of_getElem? (i := 1161) (by decide +kernel), rfl⟩
theorem wq1098 : Cond.methodLink RX8 131 yX8_heard ∈ mm_B := List.mem_filter.mpr ⟨List.mem_of_getElem? (i := 1162) (by decide +kernel), rfl⟩
theorem wq1099 : Cond.static yX8_heard ∈ mm_B := List.mem_filter.mpr ⟨List.mem_of_getElem? (i := 1163) (by decide +kernel), rfl⟩
theorem wq1100 : Cond.code yX8_heard cX8_heard 5 (some .int) ∈ mm_B := List.mem_filter.mpr ⟨List.mem_of_getElem? (i := 1164) (by decide +kernel), rfl⟩
theorem wq1101 : Cond.methodLink RL 165 yX8_codeLength ∈ mm_B := List.mem_filter.mpr ⟨List.mem_of_getElem? (i := 1165) (by decide +kernel), rfl⟩
theorem wq1102 : Cond.instanceMethod yX8_codeLength ∈ mm_B := List.mem_filter.mpr ⟨List.mem_of_getElem? (i := 1166) (by decide +kernel), rfl⟩
theorem wq1103 : Cond.selects RX8 yX8_codeLength yX8_codeLength ∈ mm_B := List.mem_filter.mpr ⟨List.mem_of_getElem? (i := 1167) (by decide +kernel), rfl⟩
theorem wq1104 : Cond.code yX8_codeLength cX8_codeLength 2 (some .int) ∈ mm_B := List.mem_filter.mpr ⟨List.mem_of_getElem? (i := 1168) (by decide +kernel), rfl⟩
theorem wq1105 : Cond.methodLink RX8 137 yX8_isCode ∈ mm_B := List.mem_filter.mpr ⟨List.mem_of_getElem? (i := 1169) (by decide +kernel), rfl⟩
theorem wq1106 : Cond.static yX8_isCode ∈ mm_B := List.mem_filter.mpr ⟨List.mem_of_getElem? (i := 1170) (by decide +kernel), rfl⟩
theorem wq1107 : Cond.code yX8_isCode cX8_isCode 1 (some .boolean) ∈ mm_B := List.mem_filter.mpr ⟨List.mem_of_getElem? (i := 1171) (by decide +kernel), rfl⟩
theorem wq1108 : Cond.methodLink RL 168 yX8_codeRing ∈ mm_B := List.mem_filter.mpr ⟨List.mem_of_getElem? (i := 1172) (by decide +kernel), rfl⟩
theorem wq1109 : Cond.instanceMethod yX8_codeRing ∈ mm_B := List.mem_filter.mpr ⟨List.mem_of_getElem? (i := 1173) (by decide +kernel), rfl⟩
theorem wq1110 : Cond.selects RX8 yX8_codeRing yX8_codeRing ∈ mm_B := List.mem_filter.mpr ⟨List.mem_of_getElem? (i := 1174) (by decide +kernel), rfl⟩
theorem wq1111 : Cond.code yX8_codeRing cX8_codeRing 3 (some .int) ∈ mm_B := List.mem_filter.mpr ⟨List.mem_of_getElem? (i := 1175) (by decide +kernel), rfl⟩
theorem wq1112 : Cond.methodLink RL 171 yX8_codeCost ∈ mm_B := List.mem_filter.mpr ⟨List.mem_of_getElem? (i := 1176) (by decide +kernel), rfl⟩
theorem wq1113 : Cond.instanceMethod yX8_codeCost ∈ mm_B := List.mem_filter.mpr ⟨List.mem_of_getElem? (i := 1177) (by decide +kernel), rfl⟩
theorem wq1114 : Cond.selects RX8 yX8_codeCost yX8_codeCost ∈ mm_B := List.mem_filter.mpr ⟨List.mem_of_getElem? (i := 1178) (by decide +kernel), rfl⟩
theorem wq1115 : Cond.code yX8_codeCost cX8_codeCost 2 (some .int) ∈ mm_B := List.mem_filter.mpr ⟨List.mem_of_getElem? (i := 1179) (by decide +kernel), rfl⟩
theorem wq1116 : Cond.methodLink RX8 140 yX8_costOf ∈ mm_B := List.mem_filter.mpr ⟨List.mem_of_getElem? (i := 1180) (by decide +kernel), rfl⟩
theorem wq1118 : Cond.instanceMethod yX8_costOf ∈ mm_B := List.mem_filter.mpr ⟨List.mem_of_getElem? (i := 1182) (by decide +kernel), rfl⟩
theorem wq1119 : Cond.code yX8_costOf cX8_costOf 4 (some .int) ∈ mm_B := List.mem_filter.mpr ⟨List.mem_of_getElem? (i := 1183) (by decide +kernel), rfl⟩
theorem wq1120 : Cond.methodLink RL 174 yX8_bestCodes ∈ mm_B := List.mem_filter.mpr ⟨List.mem_of_getElem? (i := 1184) (by decide +kernel), rfl⟩
theorem wq1121 : Cond.instanceMethod yX8_bestCodes ∈ mm_B := List.mem_filter.mpr ⟨List.mem_of_getElem? (i := 1185) (by decide +kernel), rfl⟩
theorem wq1122 : Cond.selects RX8 yX8_bestCodes yX8_bestCodes ∈ mm_B := List.mem_filter.mpr ⟨List.mem_of_getElem? (i := 1186) (by decide +kernel), rfl⟩
theorem wq1123 : Cond.code yX8_bestCodes cX8_bestCodes 4 (some .int) ∈ mm_B := List.mem_filter.mpr ⟨List.mem_of_getElem? (i := 1187) (by decide +kernel), rfl⟩
theorem wq1124 : Cond.methodLink RX8 143 yX8_placeOf ∈ mm_B := List.mem_filter.mpr ⟨List.mem_of_getElem? (i := 1188) (by decide +kernel), rfl⟩
theorem wq1126 : Cond.instanceMethod yX8_placeOf ∈ mm_B := List.mem_filter.mpr ⟨List.mem_of_getElem? (i := 1190) (by decide +kernel), rfl⟩
theorem wq1127 : Cond.code yX8_placeOf cX8_placeOf 5 (some .int) ∈ mm_B := List.mem_filter.mpr ⟨List.mem_of_getElem? (i := 1191) (by decide +kernel), rfl⟩
theorem wq1128 : Cond.methodLink RX8 146 yX8_codeAt ∈ mm_B := List.mem_filter.mpr ⟨List.mem_of_getElem? (i := 1192) (by decide +kernel), rfl⟩
theorem wq1129 : Cond.static yX8_codeAt ∈ mm_B := List.mem_filter.mpr ⟨List.mem_of_getElem? (i := 1193) (by decide +kernel), rfl⟩
theorem wq1130 : Cond.code yX8_codeAt cX8_codeAt 4 (some .int) ∈ mm_B := List.mem_filter.mpr ⟨List.mem_of_getElem? (i := 1194) (by decide +kernel), rfl⟩
theorem wq1131 : Cond.methodLink RL 177 yX8_assignCodes ∈ mm_B := List.mem_filter.mpr ⟨List.mem_of_getElem? (i := 1195) (by decide +kernel), rfl⟩
theorem wq1132 : Cond.instanceMethod yX8_assignCodes ∈ mm_B := List.mem_filter.mpr ⟨List.mem_of_getElem? (i := 1196) (by decide +kernel), rfl⟩
theorem wq1133 : Cond.selects RX8 yX8_assignCodes yX8_assignCodes ∈ mm_B := List.mem_filter.mpr ⟨List.mem_of_getElem? (i := 1197) (by decide +kernel), rfl⟩
theorem wq1134 : Cond.code yX8_assignCodes cX8_assignCodes 6 (some .int) ∈ mm_B := List.mem_filter.mpr ⟨List.mem_of_getElem? (i := 1198) (by decide +kernel), rfl⟩
theorem wq1135 : Cond.methodLink RL 181 yX8_fault ∈ mm_B := List.mem_filter.mpr ⟨List.mem_of_getElem? (i := 1199) (by decide +kernel), rfl⟩
theorem wq1136 : Cond.instanceMethod yX8_fault ∈ mm_B := List.mem_filter.mpr ⟨List.mem_of_getElem? (i := 1200) (by decide +kernel), rfl⟩
theorem wq1137 : Cond.selects RX8 yX8_fault yX8_fault ∈ mm_B := List.mem_filter.mpr ⟨List.mem_of_getElem? (i := 1201) (by decide +kernel), rfl⟩
theorem wq1138 : Cond.code yX8_fault cX8_fault 7 (some .int) ∈ mm_B := List.mem_filter.mpr ⟨List.mem_of_getElem? (i := 1202) (by decide +kernel), rfl⟩
theorem wq1139 : Cond.methodLink RL 184 yX8_mend ∈ mm_B := List.mem_filter.mpr ⟨List.mem_of_getElem? (i := 1203) (by decide +kernel), rfl⟩
theorem wq1140 : Cond.instanceMethod yX8_mend ∈ mm_B := List.mem_filter.mpr ⟨List.mem_of_getElem? (i := 1204) (by decide +kernel), rfl⟩
theorem wq1141 : Cond.selects RX8 yX8_mend yX8_mend ∈ mm_B := List.mem_filter.mpr ⟨List.mem_of_getElem? (i := 1205) (by decide +kernel), rfl⟩
theorem wq1142 : Cond.code yX8_mend cX8_mend 6 (some .int) ∈ mm_B := List.mem_filter.mpr ⟨List.mem_of_getElem? (i := 1206) (by decide +kernel), rfl⟩
theorem wq1143 : Cond.methodLink RL 187 yX8_isCut ∈ mm_B := List.mem_filter.mpr ⟨List.mem_of_getElem? (i := 1207) (by decide +kernel), rfl⟩
theorem wq1144 : Cond.instanceMethod yX8_isCut ∈ mm_B := List.mem_filter.mpr ⟨List.mem_of_getElem? (i := 1208) (by decide +kernel), rfl⟩
theorem wq1145 : Cond.selects RX8 yX8_isCut yX8_isCut ∈ mm_B := List.mem_filter.mpr ⟨List.mem_of_getElem? (i := 1209) (by decide +kernel), rfl⟩
theorem wq1146 : Cond.code yX8_isCut cX8_isCut 2 (some .boolean) ∈ mm_B := List.mem_filter.mpr ⟨List.mem_of_getElem? (i := 1210) (by decide +kernel), rfl⟩
theorem wq1147 : Cond.methodLink RL 190 yX8_setRisk ∈ mm_B := List.mem_filter.mpr ⟨List.mem_of_getElem? (i := 1211) (by decide +kernel), rfl⟩
theorem wq1148 : Cond.instanceMethod yX8_setRisk ∈ mm_B := List.mem_filter.mpr ⟨List.mem_of_getElem? (i := 1212) (by decide +kernel), rfl⟩
theorem wq1149 : Cond.selects RX8 yX8_setRisk yX8_setRisk ∈ mm_B := List.mem_filter.mpr ⟨List.mem_of_getElem? (i := 1213) (by decide +kernel), rfl⟩
theorem wq1150 : Cond.code yX8_setRisk cX8_setRisk 6 (some .int) ∈ mm_B := List.mem_filter.mpr ⟨List.mem_of_getElem? (i := 1214) (by decide +kernel), rfl⟩
theorem wq1151 : Cond.methodLink RL 193 yX8_test ∈ mm_B := List.mem_filter.mpr ⟨List.mem_of_getElem? (i := 1215) (by decide +kernel), rfl⟩
theorem wq1152 : Cond.instanceMethod yX8_test ∈ mm_B := List.mem_filter.mpr ⟨List.mem_of_getElem? (i := 1216) (by decide +kernel), rfl⟩
theorem wq1153 : Cond.selects RX8 yX8_test yX8_test ∈ mm_B := List.mem_filter.mpr ⟨List.mem_of_getElem? (i := 1217) (by decide +kernel), rfl⟩
theorem wq1154 : Cond.code yX8_test cX8_test 4 (some .boolean) ∈ mm_B := List.mem_filter.mpr ⟨List.mem_of_getElem? (i := 1218) (by decide +kernel), rfl⟩
theorem wq1155 : Cond.methodLink RL 196 yX8_testCost ∈ mm_B := List.mem_filter.mpr ⟨List.mem_of_getElem? (i := 1219) (by decide +kernel), rfl⟩
theorem wq1156 : Cond.instanceMethod yX8_testCost ∈ mm_B := List.mem_filter.mpr ⟨List.mem_of_getElem? (i := 1220) (by decide +kernel), rfl⟩
theorem wq1157 : Cond.selects RX8 yX8_testCost yX8_testCost ∈ mm_B := List.mem_filter.mpr ⟨List.mem_of_getElem? (i := 1221) (by decide +kernel), rfl⟩
theorem wq1158 : Cond.code yX8_testCost cX8_testCost 4 (some .int) ∈ mm_B := List.mem_filter.mpr ⟨List.mem_of_getElem? (i := 1222) (by decide +kernel), rfl⟩
theorem wq1159 : Cond.methodLink RX8 149 yX8_testRefusal ∈ mm_B := List.mem_filter.mpr ⟨List.mem_of_getElem? (i := 1223) (by decide +kernel), rfl⟩
theorem wq1161 : Cond.instanceMethod yX8_testRefusal ∈ mm_B := List.mem_filter.mpr ⟨List.mem_of_getElem? (i := 1225) (by decide +kernel), rfl⟩
theorem wq1162 : Cond.code yX8_testRefusal cX8_testRefusal 4 (some .int) ∈ mm_B := List.mem_filter.mpr ⟨List.mem_of_getElem? (i := 1226) (by decide +kernel), rfl⟩
theorem wq1163 : Cond.methodLink RX8 153 yX8_laysTests ∈ mm_B := List.mem_filter.mpr ⟨List.mem_of_getElem? (i := 1227) (by decide +kernel), rfl⟩
theorem wq1165 : Cond.instanceMethod yX8_laysTests ∈ mm_B := List.mem_filter.mpr ⟨List.mem_of_getElem? (i := 1229) (by decide +kernel), rfl⟩
theorem wq1166 : Cond.code yX8_laysTests cX8_laysTests 10 none ∈ mm_B := List.mem_filter.mpr ⟨List.mem_of_getElem? (i := 1230) (by decide +kernel), rfl⟩
theorem wq1167 : Cond.methodLink RL 199 yX8_bestTest ∈ mm_B := List.mem_filter.mpr ⟨List.mem_of_getElem? (i := 1231) (by decide +kernel), rfl⟩
theorem wq1168 : Cond.instanceMethod yX8_bestTest ∈ mm_B := List.mem_filter.mpr ⟨List.mem_of_getElem? (i := 1232) (by decide +kernel), rfl⟩
theorem wq1169 : Cond.selects RX8 yX8_bestTest yX8_bestTest ∈ mm_B := List.mem_filter.mpr ⟨List.mem_of_getElem? (i := 1233) (by decide +kernel), rfl⟩
theorem wq1170 : Cond.code yX8_bestTest cX8_bestTest 4 (some .int) ∈ mm_B := List.mem_filter.mpr ⟨List.mem_of_getElem? (i := 1234) (by decide +kernel), rfl⟩
theorem wq1171 : Cond.methodLink RL 202 yX8_testsNeeded ∈ mm_B := List.mem_filter.mpr ⟨List.mem_of_getElem? (i := 1235) (by decide +kernel), rfl⟩
theorem wq1172 : Cond.instanceMethod yX8_testsNeeded ∈ mm_B := List.mem_filter.mpr ⟨List.mem_of_getElem? (i := 1236) (by decide +kernel), rfl⟩
theorem wq1173 : Cond.selects RX8 yX8_testsNeeded yX8_testsNeeded ∈ mm_B := List.mem_filter.mpr ⟨List.mem_of_getElem? (i := 1237) (by decide +kernel), rfl⟩
theorem wq1174 : Cond.code yX8_testsNeeded cX8_testsNeeded 7 (some .int) ∈ mm_B := List.mem_filter.mpr ⟨List.mem_of_getElem? (i := 1238) (by decide +kernel), rfl⟩
theorem wq1175 : Cond.methodLink RL 210 yX8_digest ∈ mm_B := List.mem_filter.mpr ⟨List.mem_of_getElem? (i := 1239) (by decide +kernel), rfl⟩
theorem wq1176 : Cond.instanceMethod yX8_digest ∈ mm_B := List.mem_filter.mpr ⟨List.mem_of_getElem? (i := 1240) (by decide +kernel), rfl⟩
theorem wq1177 : Cond.selects RX8 yX8_digest yX8_digest ∈ mm_B := List.mem_filter.mpr ⟨List.mem_of_getElem? (i := 1241) (by decide +kernel), rfl⟩
theorem wq1178 : Cond.code yX8_digest cX8_digest 3 (some .long) ∈ mm_B := List.mem_filter.mpr ⟨List.mem_of_getElem? (i := 1242) (by decide +kernel), rfl⟩
theorem wq1179 : Cond.constantLong RX8 162 1857 ∈ mm_B := List.mem_filter.mpr ⟨List.mem_of_getElem? (i := 1243) (by decide +kernel), rfl⟩
theorem wq1180 : Cond.methodLink RX8 164 yX8_mix ∈ mm_B := List.mem_filter.mpr ⟨List.mem_of_getElem? (i := 1244) (by decide +kernel), rfl⟩
theorem wq1182 : Cond.instanceMethod yX8_mix ∈ mm_B := List.mem_filter.mpr ⟨List.mem_of_getElem? (i := 1246) (by decide +kernel), rfl⟩
theorem wq1183 : Cond.code yX8_mix cX8_mix 2 none ∈ mm_B := List.mem_filter.mpr ⟨List.mem_of_getElem? (i := 1247) (by decide +kernel), rfl⟩
theorem wq1184 : Cond.constantLong RX8 156 31 ∈ mm_B := List.mem_filter.mpr ⟨List.mem_of_getElem? (i := 1248) (by decide +kernel), rfl⟩
theorem wq1185 : Cond.arrayClass .long ∈ mm_B := List.mem_filter.mpr ⟨List.mem_of_getElem? (i := 1249) (by decide +kernel), rfl⟩
theorem wqp0 : Cond.selects RX7 yX7_mixLoop yX7_mixLoop ∈ mm_B := List.mem_filter.mpr ⟨List.mem_of_getElem? (i := 0) (by decide +kernel), rfl⟩
theorem wqp1 : Cond.selects RX7 yX7_loopValue yX7_loopValue ∈ mm_B := List.mem_filter.mpr ⟨List.mem_of_getElem? (i := 1) (by decide +kernel), rfl⟩
theorem wqp2 : Cond.selects RX1 yX1_ticksOfRound yX1_ticksOfRound ∈ mm_B := List.mem_filter.mpr ⟨List.mem_of_getElem? (i := 2) (by decide +kernel), rfl⟩
theorem wqp3 : Cond.selects RX1 yX1_ticksOfCode yX1_ticksOfCode ∈ mm_B := List.mem_filter.mpr ⟨List.mem_of_getElem? (i := 3) (by decide +kernel), rfl⟩
theorem wqp4 : Cond.selects RX7 yX7_mixSubscriber yX7_mixSubscriber ∈ mm_B := List.mem_filter.mpr ⟨List.mem_of_getElem? (i := 4) (by decide +kernel), rfl⟩
theorem wqp5 : Cond.selects RX7 yX7_subscriberValue yX7_subscriberValue ∈ mm_B := List.mem_filter.mpr ⟨List.mem_of_getElem? (i := 5) (by decide +kernel), rfl⟩
theorem wqp7 : Cond.selects RX2 yX2_dropOldest yX2_dropOldest ∈ mm_B := List.mem_filter.mpr ⟨List.mem_of_getElem? (i := 7) (by decide +kernel), rfl⟩
theorem wqp8 : Cond.selects RX2 yX2_savedAt yX2_savedAt ∈ mm_B := List.mem_filter.mpr ⟨List.mem_of_getElem? (i := 8) (by decide +kernel), rfl⟩
theorem wqp9 : Cond.selects RX7 yX7_knownLoop yX7_knownLoop ∈ mm_B := List.mem_filter.mpr ⟨List.mem_of_getElem? (i := 9) (by decide +kernel), rfl⟩
theorem wqp10 : Cond.selects RX7 yX7_knownSubscriber yX7_knownSubscriber ∈ mm_B := List.mem_filter.mpr ⟨List.mem_of_getElem? (i := 10) (by decide +kernel), rfl⟩
theorem wqp11 : Cond.selects RX7 yX7_mayTakeCode yX7_mayTakeCode ∈ mm_B := List.mem_filter.mpr ⟨List.mem_of_getElem? (i := 11) (by decide +kernel), rfl⟩
theorem wqp12 : Cond.selects RX1 yX1_answerCall yX1_answerCall ∈ mm_B := List.mem_filter.mpr ⟨List.mem_of_getElem? (i := 12) (by decide +kernel), rfl⟩
theorem wqp13 : Cond.selects RX1 yX1_answerInLoop yX1_answerInLoop ∈ mm_B := List.mem_filter.mpr ⟨List.mem_of_getElem? (i := 13) (by decide +kernel), rfl⟩
theorem wqp14 : Cond.selects RX1 yX1_comeUpon yX1_comeUpon ∈ mm_B := List.mem_filter.mpr ⟨List.mem_of_getElem? (i := 14) (by decide +kernel), rfl⟩
theorem wqp15 : Cond.selects RX1 yX1_isPrivateTalk yX1_isPrivateTalk ∈ mm_B := List.mem_filter.mpr ⟨List.mem_of_getElem? (i := 15) (by decide +kernel), rfl⟩
theorem wqp16 : Cond.selects RX1 yX1_wantsPrivacy yX1_wantsPrivacy ∈ mm_B := List.mem_filter.mpr ⟨List.mem_of_getElem? (i := 16) (by decide +kernel), rfl⟩
theorem wqp17 : Cond.selects RX7 yX7_phaseOfLoopOf yX7_phaseOfLoopOf ∈ mm_B := List.mem_filter.mpr ⟨List.mem_of_getElem? (i := 17) (by decide +kernel), rfl⟩
theorem wqp18 : Cond.selects RX1 yX1_lowestOffHook yX1_lowestOffHook ∈ mm_B := List.mem_filter.mpr ⟨List.mem_of_getElem? (i := 18) (by decide +kernel), rfl⟩
theorem wqp19 : Cond.selects RX1 yX1_endCall yX1_endCall ∈ mm_B := List.mem_filter.mpr ⟨List.mem_of_getElem? (i := 19) (by decide +kernel), rfl⟩
theorem wqp20 : Cond.selects RX1 yX1_leave yX1_leave ∈ mm_B := List.mem_filter.mpr ⟨List.mem_of_getElem? (i := 20) (by decide +kernel), rfl⟩
theorem wqp21 : Cond.selects RX1 yX1_ringFrom yX1_ringFrom ∈ mm_B := List.mem_filter.mpr ⟨List.mem_of_getElem? (i := 21) (by decide +kernel), rfl⟩
theorem wqp22 : Cond.selects RX1 yX1_takeTurn yX1_takeTurn ∈ mm_B := List.mem_filter.mpr ⟨List.mem_of_getElem? (i := 22) (by decide +kernel), rfl⟩
theorem wqp23 : Cond.selects RX1 yX1_isLost yX1_isLost ∈ mm_B := List.mem_filter.mpr ⟨List.mem_of_getElem? (i := 23) (by decide +kernel), rfl⟩
theorem wqp24 : Cond.selects RX1 yX1_countUnits yX1_countUnits ∈ mm_B := List.mem_filter.mpr ⟨List.mem_of_getElem? (i := 24) (by decide +kernel), rfl⟩
theorem wqp25 : Cond.selects RX1 yX1_isOverLimit yX1_isOverLimit ∈ mm_B := List.mem_filter.mpr ⟨List.mem_of_getElem? (i := 25) (by decide +kernel), rfl⟩
theorem wqp26 : Cond.selects RX1 yX1_locksSomeoneOut yX1_locksSomeoneOut ∈ mm_B := List.mem_filter.mpr ⟨List.mem_of_getElem? (i := 26) (by decide +kernel), rfl⟩
theorem wqp27 : Cond.selects RX5 yX5_bestCodeOf yX5_bestCodeOf ∈ mm_B := List.mem_filter.mpr ⟨List.mem_of_getElem? (i := 27) (by decide +kernel), rfl⟩
theorem wqp28 : Cond.selects RX1 yX1_hasCutOffReceiver yX1_hasCutOffReceiver ∈ mm_B := List.mem_filter.mpr ⟨List.mem_of_getElem? (i := 28) (by decide +kernel), rfl⟩
theorem wqp29 : Cond.selects RX7 yX7_planTests yX7_planTests ∈ mm_B := List.mem_filter.mpr ⟨List.mem_of_getElem? (i := 29) (by decide +kernel), rfl⟩
theorem wqp30 : Cond.selects RX4 yX4_planRun yX4_planRun ∈ mm_B := List.mem_filter.mpr ⟨List.mem_of_getElem? (i := 30) (by decide +kernel), rfl⟩
theorem wqp31 : Cond.selects RX8 yX8_makesLoop yX8_makesLoop ∈ mm_B := List.mem_filter.mpr ⟨List.mem_of_getElem? (i := 31) (by decide +kernel), rfl⟩
theorem wqp32 : Cond.selects RX8 yX8_put yX8_put ∈ mm_B := List.mem_filter.mpr ⟨List.mem_of_getElem? (i := 32) (by decide +kernel), rfl⟩
theorem wqp33 : Cond.selects RX8 yX8_refused yX8_refused ∈ mm_B := List.mem_filter.mpr ⟨List.mem_of_getElem? (i := 33) (by decide +kernel), rfl⟩
theorem wqp34 : Cond.selects RX8 yX8_saves yX8_saves ∈ mm_B := List.mem_filter.mpr ⟨List.mem_of_getElem? (i := 34) (by decide +kernel), rfl⟩
theorem wqp35 : Cond.selects RX8 yX8_isLoop yX8_isLoop ∈ mm_B := List.mem_filter.mpr ⟨List.mem_of_getElem? (i := 35) (by decide +kernel), rfl⟩
theorem wqp36 : Cond.selects RX8 yX8_isTaken yX8_isTaken ∈ mm_B := List.mem_filter.mpr ⟨List.mem_of_getElem? (i := 36) (by decide +kernel), rfl⟩
theorem wqp37 : Cond.selects RX8 yX8_its yX8_its ∈ mm_B := List.mem_filter.mpr ⟨List.mem_of_getElem? (i := 37) (by decide +kernel), rfl⟩
theorem wqp38 : Cond.selects RX8 yX8_give yX8_give ∈ mm_B := List.mem_filter.mpr ⟨List.mem_of_getElem? (i := 38) (by decide +kernel), rfl⟩
theorem wqp39 : Cond.selects RX8 yX8_isOne yX8_isOne ∈ mm_B := List.mem_filter.mpr ⟨List.mem_of_getElem? (i := 39) (by decide +kernel), rfl⟩
theorem wqp40 : Cond.selects RX8 yX8_isRung yX8_isRung ∈ mm_B := List.mem_filter.mpr ⟨List.mem_of_getElem? (i := 40) (by decide +kernel), rfl⟩
theorem wqp41 : Cond.selects RX8 yX8_of yX8_of ∈ mm_B := List.mem_filter.mpr ⟨List.mem_of_getElem? (i := 41) (by decide +kernel), rfl⟩
theorem wqp42 : Cond.selects RX8 yX8_told yX8_told ∈ mm_B := List.mem_filter.mpr ⟨List.mem_of_getElem? (i := 42) (by decide +kernel), rfl⟩
theorem wqp43 : Cond.selects RX8 yX8_state yX8_state ∈ mm_B := List.mem_filter.mpr ⟨List.mem_of_getElem? (i := 43) (by decide +kernel), rfl⟩
theorem wqp44 : Cond.selects RX8 yX8_cut yX8_cut ∈ mm_B := List.mem_filter.mpr ⟨List.mem_of_getElem? (i := 44) (by decide +kernel), rfl⟩
theorem wqp45 : Cond.selects RX8 yX8_toldLoop yX8_toldLoop ∈ mm_B := List.mem_filter.mpr ⟨List.mem_of_getElem? (i := 45) (by decide +kernel), rfl⟩
theorem wqp46 : Cond.selects RX8 yX8_lifts yX8_lifts ∈ mm_B := List.mem_filter.mpr ⟨List.mem_of_getElem? (i := 46) (by decide +kernel), rfl⟩
theorem wqp47 : Cond.selects RX8 yX8_comes yX8_comes ∈ mm_B := List.mem_filter.mpr ⟨List.mem_of_getElem? (i := 47) (by decide +kernel), rfl⟩
theorem wqp48 : Cond.selects RX8 yX8_isPrivate yX8_isPrivate ∈ mm_B := List.mem_filter.mpr ⟨List.mem_of_getElem? (i := 48) (by decide +kernel), rfl⟩
theorem wqp49 : Cond.selects RX8 yX8_isAnyOn yX8_isAnyOn ∈ mm_B := List.mem_filter.mpr ⟨List.mem_of_getElem? (i := 49) (by decide +kernel), rfl⟩
theorem wqp50 : Cond.selects RX8 yX8_isOn yX8_isOn ∈ mm_B := List.mem_filter.mpr ⟨List.mem_of_getElem? (i := 50) (by decide +kernel), rfl⟩
theorem wqp51 : Cond.selects RX8 yX8_ends yX8_ends ∈ mm_B := List.mem_filter.mpr ⟨List.mem_of_getElem? (i := 51) (by decide +kernel), rfl⟩
theorem wqp52 : Cond.selects RX8 yX8_leaves yX8_leaves ∈ mm_B := List.mem_filter.mpr ⟨List.mem_of_getElem? (i := 52) (by decide +kernel), rfl⟩
theorem wqp53 : Cond.selects RX8 yX8_leadsTo yX8_leadsTo ∈ mm_B := List.mem_filter.mpr ⟨List.mem_of_getElem? (i := 53) (by decide +kernel), rfl⟩
theorem wqp54 : Cond.selects RX8 yX8_need yX8_need ∈ mm_B := List.mem_filter.mpr ⟨List.mem_of_getElem? (i := 54) (by decide +kernel), rfl⟩
theorem wqp55 : Cond.selects RX8 yX8_goesOn yX8_goesOn ∈ mm_B := List.mem_filter.mpr ⟨List.mem_of_getElem? (i := 55) (by decide +kernel), rfl⟩
theorem wqp56 : Cond.selects RX8 yX8_bothLengths yX8_bothLengths ∈ mm_B := List.mem_filter.mpr ⟨List.mem_of_getElem? (i := 56) (by decide +kernel), rfl⟩
theorem wqp57 : Cond.selects RX8 yX8_isLocked yX8_isLocked ∈ mm_B := List.mem_filter.mpr ⟨List.mem_of_getElem? (i := 57) (by decide +kernel), rfl⟩
theorem wqp58 : Cond.selects RX8 yX8_heardIn yX8_heardIn ∈ mm_B := List.mem_filter.mpr ⟨List.mem_of_getElem? (i := 58) (by decide +kernel), rfl⟩
theorem wqp59 : Cond.selects RX8 yX8_costOf yX8_costOf ∈ mm_B := List.mem_filter.mpr ⟨List.mem_of_getElem? (i := 59) (by decide +kernel), rfl⟩
theorem wqp60 : Cond.selects RX8 yX8_placeOf yX8_placeOf ∈ mm_B := List.mem_filter.mpr ⟨List.mem_of_getElem? (i := 60) (by decide +kernel), rfl⟩
theorem wqp61 : Cond.selects RX8 yX8_testRefusal yX8_testRefusal ∈ mm_B := List.mem_filter.mpr ⟨List.mem_of_getElem? (i := 61) (by decide +kernel), rfl⟩
theorem wqp62 : Cond.selects RX8 yX8_laysTests yX8_laysTests ∈ mm_B := List.mem_filter.mpr ⟨List.mem_of_getElem? (i := 62) (by decide +kernel), rfl⟩
theorem wqp63 : Cond.selects RX8 yX8_mix yX8_mix ∈ mm_B := List.mem_filter.mpr ⟨List.mem_of_getElem? (i := 63) (by decide +kernel), rfl⟩
