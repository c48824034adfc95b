def Gw : List Cond := lw_tbl.filter goodWord
theorem gw {w : Cond} {i : Nat} (h : lw_tbl[i]? = some w) (g : goodWord w = true) : w ∈ Gw := List.mem_filter.mpr ⟨List.mem_of_getElem? h, g⟩
theorem gw_good {w : Cond} (h : w ∈ Gw) : (w.onTables && w.keeps) = true ∨ ∃ ty, w = .arrayClass ty := good_of_word (List.mem_filter.mp h).2
theorem gw_r (ws : List Cond) (ps : List Nat) (hp : ws = ps.filterMap (fun i => lw_tbl[i]?)) (h : ws.all goodWord = true) : ∀ w ∈ ws, w ∈ Gw := by
  intro w hw
  have h1 := List.all_eq_true.mp h w hw
  rw [hp] at hw
  obtain ⟨i, -, hi⟩ := List.mem_filterMap.mp hw
  exact gw hi h1
theorem w0 : Cond.initialized RL ∈ Gw := gw (i := 45) (by decide +kernel) rfl
theorem w1 : Cond.initialized RX9 ∈ Gw := gw (i := 46) (by decide +kernel) rfl
theorem w2 : Cond.initialized RX0 ∈ Gw := gw (i := 47) (by decide +kernel) rfl
theorem w3 : Cond.initialized RX2 ∈ Gw := gw (i := 48) (by decide +kernel) rfl
theorem w4 : Cond.initialized RJ7 ∈ Gw := gw (i := 49) (by decide +kernel) rfl
theorem w5 : Cond.initialized RX8 ∈ Gw := gw (i := 50) (by decide +kernel) rfl
theorem w6 : Cond.initialized RX4 ∈ Gw := gw (i := 51) (by decide +kernel) rfl
theorem w7 : Cond.initialized RX1 ∈ Gw := gw (i := 52) (by decide +kernel) rfl
theorem w8 : Cond.initialized RX5 ∈ Gw := gw (i := 53) (by decide +kernel) rfl
theorem w9 : Cond.initialized RX7 ∈ Gw := gw (i := 54) (by decide +kernel) rfl
theorem w10 : Cond.initialized RX3 ∈ Gw := gw (i := 55) (by decide +kernel) rfl
theorem w11 : Cond.initialized RX6 ∈ Gw := gw (i := 56) (by decide +kernel) rfl
theorem w12 : Cond.initialized RX10 ∈ Gw := gw (i := 57) (by decide +kernel) rfl
theorem w13 : Cond.initialized "java/lang/Throwable" ∈ Gw := gw (i := 58) (by decide +kernel) rfl
theorem w14 : Cond.initialized "java/lang/Exception" ∈ Gw := gw (i := 59) (by decide +kernel) rfl
theorem w15 : Cond.initialized "java/lang/RuntimeException" ∈ Gw := gw (i := 60) (by decide +kernel) rfl
theorem w16 : Cond.initialized "java/lang/IndexOutOfBoundsException" ∈ Gw := gw (i := 61) (by decide +kernel) rfl
theorem w17 : Cond.initialized "java/lang/IllegalArgumentException" ∈ Gw := gw (i := 62) (by decide +kernel) rfl
theorem w18 : Cond.initialized "java/lang/IllegalStateException" ∈ Gw := gw (i := 63) (by decide +kernel) rfl
theorem w19 : Cond.initialized "java/lang/Math" ∈ Gw := gw (i := 64) (by decide +kernel) rfl
theorem w20 : Cond.initialized RJ6 ∈ Gw := gw (i := 65) (by decide +kernel) rfl
theorem w21 : Cond.initialized "java/lang/System" ∈ Gw := gw (i := 66) (by decide +kernel) rfl
theorem w22 : Cond.classLink RL 8 RX9 ∈ Gw := gw (i := 67) (by decide +kernel) rfl
theorem w23 : Cond.instantiable RX9 6 ∈ Gw := gw (i := 68) (by decide +kernel) rfl
theorem w24 : Cond.methodLink RL 114 yX9_init ∈ Gw := gw (i := 69) (by decide +kernel) rfl
theorem w25 : Cond.instanceMethod yX9_init ∈ Gw := gw (i := 70) (by decide +kernel) rfl
theorem w26 : Cond.code yX9_init cX9_init 1 (some .:) ∈ Gw := gw (i := 71) (by decide +kernel) rfl
theorem w27 : Cond.methodLink RX9 3 objectInit ∈ Gw := gw (i := 72) (by decide +kernel) rfl
theorem w28 : Cond.instanceMethod objectInit ∈ Gw := gw (i := 73) (by decide +kernel) rfl
theorem w29 : Cond.code objectInit ⟨#[0xb1]⟩ 1 none ∈ Gw := gw (i := 74) (by decide +kernel) rfl
theorem w30 : Cond.classLink RX9 9 RX0 ∈ Gw := gw (i := 75) (by decide +kernel) rfl
theorem w31 : Cond.instantiable RX0 9 ∈ Gw := gw (i := 76) (by decide +kernel) rfl
theorem w32 : Cond.methodLink RX9 11 yX0_init ∈ Gw := gw (i := 77) (by decide +kernel) rfl
theorem w33 : Cond.instanceMethod yX0_init ∈ Gw := gw (i := 78) (by decide +kernel) rfl
theorem w34 : Cond.code yX0_init cX0_init 1 (some .:) ∈ Gw := gw (i := 79) (by decide +kernel) rfl
theorem w35 : Cond.methodLink RX0 3 objectInit ∈ Gw := gw (i := 80) (by decide +kernel) rfl
theorem w36 : Cond.classLink RX0 9 RX2 ∈ Gw := gw (i := 81) (by decide +kernel) rfl
theorem w37 : Cond.instantiable RX2 8 ∈ Gw := gw (i := 82) (by decide +kernel) rfl
theorem w38 : Cond.methodLink RX0 11 yX2_init ∈ Gw := gw (i := 83) (by decide +kernel) rfl
theorem w39 : Cond.instanceMethod yX2_init ∈ Gw := gw (i := 84) (by decide +kernel) rfl
theorem w40 : Cond.code yX2_init cX2_init 1 (some .:) ∈ Gw := gw (i := 85) (by decide +kernel) rfl
theorem w41 : Cond.methodLink RX2 3 objectInit ∈ Gw := gw (i := 86) (by decide +kernel) rfl
theorem w42 : Cond.methodLink RX2 18 yJ7_fill_53178 ∈ Gw := gw (i := 87) (by decide +kernel) rfl
theorem w43 : Cond.static yJ7_fill_53178 ∈ Gw := gw (i := 88) (by decide +kernel) rfl
theorem w44 : Cond.code yJ7_fill_53178 cJ7_fill_53178 4 (some .:) ∈ Gw := gw (i := 89) (by decide +kernel) rfl
theorem w45 : Cond.fieldLink RX2 9 RX2 "kind" "[I" ∈ Gw := gw (i := 90) (by decide +kernel) rfl
theorem w46 : Cond.fieldLink RX9 93 RX2 "kind" "[I" ∈ Gw := gw (i := 91) (by decide +kernel) rfl
theorem w47 : Cond.fieldLink RX2 15 RX2 "depth" "[I" ∈ Gw := gw (i := 92) (by decide +kernel) rfl
theorem w48 : Cond.fieldLink RX7 21 RX2 "depth" "[I" ∈ Gw := gw (i := 93) (by decide +kernel) rfl
theorem w49 : Cond.fieldLink RX9 106 RX2 "depth" "[I" ∈ Gw := gw (i := 94) (by decide +kernel) rfl
theorem w50 : Cond.fieldLink RX2 24 RX2 "fresh" "[I" ∈ Gw := gw (i := 95) (by decide +kernel) rfl
theorem w51 : Cond.fieldLink RX7 27 RX2 "fresh" "[I" ∈ Gw := gw (i := 96) (by decide +kernel) rfl
theorem w52 : Cond.fieldLink RX5 74 RX2 "fresh" "[I" ∈ Gw := gw (i := 97) (by decide +kernel) rfl
theorem w53 : Cond.fieldLink RX0 98 RX2 "fresh" "[I" ∈ Gw := gw (i := 98) (by decide +kernel) rfl
theorem w54 : Cond.fieldLink RX9 143 RX2 "fresh" "[I" ∈ Gw := gw (i := 99) (by decide +kernel) rfl
theorem w55 : Cond.fieldLink RX2 27 RX2 "thick" "[I" ∈ Gw := gw (i := 100) (by decide +kernel) rfl
theorem w56 : Cond.fieldLink RX7 34 RX2 "thick" "[I" ∈ Gw := gw (i := 101) (by decide +kernel) rfl
theorem w57 : Cond.fieldLink RX5 81 RX2 "thick" "[I" ∈ Gw := gw (i := 102) (by decide +kernel) rfl
theorem w58 : Cond.fieldLink RX0 111 RX2 "thick" "[I" ∈ Gw := gw (i := 103) (by decide +kernel) rfl
theorem w59 : Cond.fieldLink RX9 146 RX2 "thick" "[I" ∈ Gw := gw (i := 104) (by decide +kernel) rfl
theorem w60 : Cond.fieldLink RX2 30 RX2 "stranded" "[I" ∈ Gw := gw (i := 105) (by decide +kernel) rfl
theorem w61 : Cond.fieldLink RX5 130 RX2 "stranded" "[I" ∈ Gw := gw (i := 106) (by decide +kernel) rfl
theorem w62 : Cond.fieldLink RX9 149 RX2 "stranded" "[I" ∈ Gw := gw (i := 107) (by decide +kernel) rfl
theorem w63 : Cond.fieldLink RX0 158 RX2 "stranded" "[I" ∈ Gw := gw (i := 108) (by decide +kernel) rfl
theorem w64 : Cond.fieldLink RX2 33 RX2 "birds" "[I" ∈ Gw := gw (i := 109) (by decide +kernel) rfl
theorem w65 : Cond.fieldLink RX9 152 RX2 "birds" "[I" ∈ Gw := gw (i := 110) (by decide +kernel) rfl
theorem w66 : Cond.fieldLink RX2 36 RX2 "oiled" "[I" ∈ Gw := gw (i := 111) (by decide +kernel) rfl
theorem w67 : Cond.fieldLink RX9 155 RX2 "oiled" "[I" ∈ Gw := gw (i := 112) (by decide +kernel) rfl
theorem w68 : Cond.fieldLink RX2 39 RX2 "signatures" "[I" ∈ Gw := gw (i := 113) (by decide +kernel) rfl
theorem w69 : Cond.fieldLink RX9 158 RX2 "signatures" "[I" ∈ Gw := gw (i := 114) (by decide +kernel) rfl
theorem w70 : Cond.fieldLink RX0 185 RX2 "signatures" "[I" ∈ Gw := gw (i := 115) (by decide +kernel) rfl
theorem w88 : Cond.arrayClass .int ∈ Gw := gw (i := 133) (by decide +kernel) rfl
theorem w89 : Cond.classLink RX0 18 RX8 ∈ Gw := gw (i := 134) (by decide +kernel) rfl
theorem w90 : Cond.instantiable RX8 4 ∈ Gw := gw (i := 135) (by decide +kernel) rfl
theorem w91 : Cond.methodLink RX0 20 yX8_init ∈ Gw := gw (i := 136) (by decide +kernel) rfl
theorem w92 : Cond.instanceMethod yX8_init ∈ Gw := gw (i := 137) (by decide +kernel) rfl
theorem w93 : Cond.code yX8_init cX8_init 1 (some .:) ∈ Gw := gw (i := 138) (by decide +kernel) rfl
theorem w94 : Cond.methodLink RX8 3 objectInit ∈ Gw := gw (i := 139) (by decide +kernel) rfl
theorem w95 : Cond.fieldLink RX8 21 RX8 "count" "I" ∈ Gw := gw (i := 140) (by decide +kernel) rfl
theorem w96 : Cond.fieldLink RX0 88 RX8 "count" "I" ∈ Gw := gw (i := 141) (by decide +kernel) rfl
theorem w97 : Cond.fieldLink RX9 116 RX8 "count" "I" ∈ Gw := gw (i := 142) (by decide +kernel) rfl
theorem w98 : Cond.fieldLink RX5 112 RX8 "count" "I" ∈ Gw := gw (i := 143) (by decide +kernel) rfl
theorem w99 : Cond.fieldLink RX8 9 RX8 "cell" "[I" ∈ Gw := gw (i := 144) (by decide +kernel) rfl
theorem w100 : Cond.fieldLink RX0 101 RX8 "cell" "[I" ∈ Gw := gw (i := 145) (by decide +kernel) rfl
theorem w101 : Cond.fieldLink RX5 117 RX8 "cell" "[I" ∈ Gw := gw (i := 146) (by decide +kernel) rfl
theorem w102 : Cond.fieldLink RX8 15 RX8 "litres" "[I" ∈ Gw := gw (i := 147) (by decide +kernel) rfl
theorem w103 : Cond.fieldLink RX0 95 RX8 "litres" "[I" ∈ Gw := gw (i := 148) (by decide +kernel) rfl
theorem w104 : Cond.fieldLink RX9 133 RX8 "litres" "[I" ∈ Gw := gw (i := 149) (by decide +kernel) rfl
theorem w105 : Cond.fieldLink RX8 18 RX8 "rate" "[I" ∈ Gw := gw (i := 150) (by decide +kernel) rfl
theorem w106 : Cond.fieldLink RX9 125 RX8 "rate" "[I" ∈ Gw := gw (i := 151) (by decide +kernel) rfl
theorem w116 : Cond.classLink RX0 25 RX4 ∈ Gw := gw (i := 161) (by decide +kernel) rfl
theorem w117 : Cond.instantiable RX4 9 ∈ Gw := gw (i := 162) (by decide +kernel) rfl
theorem w118 : Cond.methodLink RX0 27 yX4_init ∈ Gw := gw (i := 163) (by decide +kernel) rfl
theorem w119 : Cond.instanceMethod yX4_init ∈ Gw := gw (i := 164) (by decide +kernel) rfl
theorem w120 : Cond.code yX4_init cX4_init 1 (some .:) ∈ Gw := gw (i := 165) (by decide +kernel) rfl
theorem w121 : Cond.methodLink RX4 3 objectInit ∈ Gw := gw (i := 166) (by decide +kernel) rfl
theorem w122 : Cond.fieldLink RX4 37 RX4 "count" "I" ∈ Gw := gw (i := 167) (by decide +kernel) rfl
theorem w123 : Cond.fieldLink RX5 133 RX4 "count" "I" ∈ Gw := gw (i := 168) (by decide +kernel) rfl
theorem w124 : Cond.fieldLink RX0 167 RX4 "count" "I" ∈ Gw := gw (i := 169) (by decide +kernel) rfl
theorem w125 : Cond.fieldLink RX9 185 RX4 "count" "I" ∈ Gw := gw (i := 170) (by decide +kernel) rfl
theorem w126 : Cond.fieldLink RX4 9 RX4 "sort" "[I" ∈ Gw := gw (i := 171) (by decide +kernel) rfl
theorem w127 : Cond.fieldLink RX0 168 RX4 "sort" "[I" ∈ Gw := gw (i := 172) (by decide +kernel) rfl
theorem w128 : Cond.fieldLink RX9 218 RX4 "sort" "[I" ∈ Gw := gw (i := 173) (by decide +kernel) rfl
theorem w129 : Cond.fieldLink RX4 15 RX4 "cell" "[I" ∈ Gw := gw (i := 174) (by decide +kernel) rfl
theorem w130 : Cond.fieldLink RX0 171 RX4 "cell" "[I" ∈ Gw := gw (i := 175) (by decide +kernel) rfl
theorem w131 : Cond.fieldLink RX9 189 RX4 "cell" "[I" ∈ Gw := gw (i := 176) (by decide +kernel) rfl
theorem w132 : Cond.fieldLink RX4 18 RX4 "way" "[I" ∈ Gw := gw (i := 177) (by decide +kernel) rfl
theorem w133 : Cond.fieldLink RX9 175 RX4 "way" "[I" ∈ Gw := gw (i := 178) (by decide +kernel) rfl
theorem w134 : Cond.fieldLink RX4 21 RX4 "power" "[I" ∈ Gw := gw (i := 179) (by decide +kernel) rfl
theorem w135 : Cond.fieldLink RX5 96 RX4 "power" "[I" ∈ Gw := gw (i := 180) (by decide +kernel) rfl
theorem w136 : Cond.fieldLink RX0 136 RX4 "power" "[I" ∈ Gw := gw (i := 181) (by decide +kernel) rfl
theorem w137 : Cond.fieldLink RX9 210 RX4 "power" "[I" ∈ Gw := gw (i := 182) (by decide +kernel) rfl
theorem w138 : Cond.fieldLink RX4 24 RX4 "store" "[I" ∈ Gw := gw (i := 183) (by decide +kernel) rfl
theorem w139 : Cond.fieldLink RX9 178 RX4 "store" "[I" ∈ Gw := gw (i := 184) (by decide +kernel) rfl
theorem w140 : Cond.fieldLink RX4 27 RX4 "tally" "[I" ∈ Gw := gw (i := 185) (by decide +kernel) rfl
theorem w141 : Cond.fieldLink RX0 139 RX4 "tally" "[I" ∈ Gw := gw (i := 186) (by decide +kernel) rfl
theorem w142 : Cond.fieldLink RX9 192 RX4 "tally" "[I" ∈ Gw := gw (i := 187) (by decide +kernel) rfl
theorem w143 : Cond.fieldLink RX4 30 RX4 "taught" "[Z" ∈ Gw := gw (i := 188) (by decide +kernel) rfl
theorem w144 : Cond.fieldLink RX9 181 RX4 "taught" "[Z" ∈ Gw := gw (i := 189) (by decide +kernel) rfl
theorem w145 : Cond.fieldLink RX4 34 RX4 "lastWork" "[I" ∈ Gw := gw (i := 190) (by decide +kernel) rfl
theorem w165 : Cond.arrayClass .boolean ∈ Gw := gw (i := 210) (by decide +kernel) rfl
theorem w166 : Cond.classLink RX0 32 RX1 ∈ Gw := gw (i := 211) (by decide +kernel) rfl
theorem w167 : Cond.instantiable RX1 7 ∈ Gw := gw (i := 212) (by decide +kernel) rfl
theorem w168 : Cond.methodLink RX0 34 yX1_init ∈ Gw := gw (i := 213) (by decide +kernel) rfl
theorem w169 : Cond.instanceMethod yX1_init ∈ Gw := gw (i := 214) (by decide +kernel) rfl
theorem w170 : Cond.code yX1_init cX1_init 1 (some .:) ∈ Gw := gw (i := 215) (by decide +kernel) rfl
theorem w171 : Cond.methodLink RX1 3 objectInit ∈ Gw := gw (i := 216) (by decide +kernel) rfl
theorem w172 : Cond.fieldLink RX1 15 RX1 "leaked" "I" ∈ Gw := gw (i := 217) (by decide +kernel) rfl
theorem w173 : Cond.fieldLink RX9 304 RX1 "leaked" "I" ∈ Gw := gw (i := 218) (by decide +kernel) rfl
theorem w174 : Cond.fieldLink RX1 9 RX1 "firstLeak" "I" ∈ Gw := gw (i := 219) (by decide +kernel) rfl
theorem w175 : Cond.fieldLink RX0 194 RX1 "firstLeak" "I" ∈ Gw := gw (i := 220) (by decide +kernel) rfl
theorem w176 : Cond.fieldLink RX0 108 RX1 "air" "I" ∈ Gw := gw (i := 221) (by decide +kernel) rfl
theorem w177 : Cond.fieldLink RX9 316 RX1 "air" "I" ∈ Gw := gw (i := 222) (by decide +kernel) rfl
theorem w178 : Cond.fieldLink RX0 114 RX1 "sunk" "I" ∈ Gw := gw (i := 223) (by decide +kernel) rfl
theorem w179 : Cond.fieldLink RX9 319 RX1 "sunk" "I" ∈ Gw := gw (i := 224) (by decide +kernel) rfl
theorem w180 : Cond.fieldLink RX0 155 RX1 "out" "I" ∈ Gw := gw (i := 225) (by decide +kernel) rfl
theorem w181 : Cond.fieldLink RX9 322 RX1 "out" "I" ∈ Gw := gw (i := 226) (by decide +kernel) rfl
theorem w182 : Cond.fieldLink RX0 188 RX1 "deep" "I" ∈ Gw := gw (i := 227) (by decide +kernel) rfl
theorem w183 : Cond.fieldLink RX9 331 RX1 "deep" "I" ∈ Gw := gw (i := 228) (by decide +kernel) rfl
theorem w184 : Cond.fieldLink RX0 191 RX1 "burnt" "I" ∈ Gw := gw (i := 229) (by decide +kernel) rfl
theorem w185 : Cond.fieldLink RX9 334 RX1 "burnt" "I" ∈ Gw := gw (i := 230) (by decide +kernel) rfl
theorem w201 : Cond.fieldLink RX0 12 RX0 "cells" "LSlickboom$Cells;" ∈ Gw := gw (i := 246) (by decide +kernel) rfl
theorem w202 : Cond.fieldLink RX7 15 RX0 "cells" "LSlickboom$Cells;" ∈ Gw := gw (i := 247) (by decide +kernel) rfl
theorem w203 : Cond.fieldLink RX9 89 RX0 "cells" "LSlickboom$Cells;" ∈ Gw := gw (i := 248) (by decide +kernel) rfl
theorem w204 : Cond.fieldLink RX5 56 RX0 "cells" "LSlickboom$Cells;" ∈ Gw := gw (i := 249) (by decide +kernel) rfl
theorem w205 : Cond.fieldLink RX0 21 RX0 "ships" "LSlickboom$Ships;" ∈ Gw := gw (i := 250) (by decide +kernel) rfl
theorem w206 : Cond.fieldLink RX9 68 RX0 "ships" "LSlickboom$Ships;" ∈ Gw := gw (i := 251) (by decide +kernel) rfl
theorem w207 : Cond.fieldLink RX5 108 RX0 "ships" "LSlickboom$Ships;" ∈ Gw := gw (i := 252) (by decide +kernel) rfl
theorem w208 : Cond.fieldLink RX0 28 RX0 "means" "LSlickboom$Means;" ∈ Gw := gw (i := 253) (by decide +kernel) rfl
theorem w209 : Cond.fieldLink RX9 78 RX0 "means" "LSlickboom$Means;" ∈ Gw := gw (i := 254) (by decide +kernel) rfl
theorem w210 : Cond.fieldLink RX5 84 RX0 "means" "LSlickboom$Means;" ∈ Gw := gw (i := 255) (by decide +kernel) rfl
theorem w211 : Cond.fieldLink RX0 35 RX0 "books" "LSlickboom$Books;" ∈ Gw := gw (i := 256) (by decide +kernel) rfl
theorem w212 : Cond.fieldLink RX9 300 RX0 "books" "LSlickboom$Books;" ∈ Gw := gw (i := 257) (by decide +kernel) rfl
theorem w213 : Cond.fieldLink RX9 57 RX0 "hour" "I" ∈ Gw := gw (i := 258) (by decide +kernel) rfl
theorem w214 : Cond.fieldLink RX0 60 RX0 "hour" "I" ∈ Gw := gw (i := 259) (by decide +kernel) rfl
theorem w215 : Cond.fieldLink RX5 68 RX0 "hour" "I" ∈ Gw := gw (i := 260) (by decide +kernel) rfl
theorem w216 : Cond.fieldLink RX0 39 RX0 "windWay" "I" ∈ Gw := gw (i := 261) (by decide +kernel) rfl
theorem w217 : Cond.fieldLink RX9 109 RX0 "windWay" "I" ∈ Gw := gw (i := 262) (by decide +kernel) rfl
theorem w218 : Cond.fieldLink RX5 88 RX0 "windWay" "I" ∈ Gw := gw (i := 263) (by decide +kernel) rfl
theorem w219 : Cond.fieldLink RX0 63 RX0 "windStrength" "I" ∈ Gw := gw (i := 264) (by decide +kernel) rfl
theorem w220 : Cond.fieldLink RX7 37 RX0 "windStrength" "I" ∈ Gw := gw (i := 265) (by decide +kernel) rfl
theorem w221 : Cond.fieldLink RX9 112 RX0 "windStrength" "I" ∈ Gw := gw (i := 266) (by decide +kernel) rfl
theorem w222 : Cond.fieldLink RX5 99 RX0 "windStrength" "I" ∈ Gw := gw (i := 267) (by decide +kernel) rfl
theorem w223 : Cond.fieldLink RX0 43 RX0 "freshGoes" "[I" ∈ Gw := gw (i := 268) (by decide +kernel) rfl
theorem w224 : Cond.fieldLink RX0 47 RX0 "thickGoes" "[I" ∈ Gw := gw (i := 269) (by decide +kernel) rfl
theorem w244 : Cond.classLink RX9 19 RX5 ∈ Gw := gw (i := 289) (by decide +kernel) rfl
theorem w245 : Cond.instantiable RX5 5 ∈ Gw := gw (i := 290) (by decide +kernel) rfl
theorem w246 : Cond.methodLink RX9 21 yX5_init ∈ Gw := gw (i := 291) (by decide +kernel) rfl
theorem w247 : Cond.instanceMethod yX5_init ∈ Gw := gw (i := 292) (by decide +kernel) rfl
theorem w248 : Cond.code yX5_init cX5_init 2 (some .:) ∈ Gw := gw (i := 293) (by decide +kernel) rfl
theorem w249 : Cond.methodLink RX5 3 objectInit ∈ Gw := gw (i := 294) (by decide +kernel) rfl
theorem w250 : Cond.fieldLink RX5 9 RX5 "bay" "LSlickboom$Bay;" ∈ Gw := gw (i := 295) (by decide +kernel) rfl
theorem w251 : Cond.fieldLink RX5 19 RX5 "freshHas" "I" ∈ Gw := gw (i := 296) (by decide +kernel) rfl
theorem w252 : Cond.fieldLink RX5 26 RX5 "thickHas" "I" ∈ Gw := gw (i := 297) (by decide +kernel) rfl
theorem w253 : Cond.fieldLink RX5 23 RX5 "freshGoes" "I" ∈ Gw := gw (i := 298) (by decide +kernel) rfl
theorem w254 : Cond.fieldLink RX5 29 RX5 "thickGoes" "I" ∈ Gw := gw (i := 299) (by decide +kernel) rfl
theorem w266 : Cond.classLink RX9 28 RX7 ∈ Gw := gw (i := 311) (by decide +kernel) rfl
theorem w267 : Cond.instantiable RX7 1 ∈ Gw := gw (i := 312) (by decide +kernel) rfl
theorem w268 : Cond.methodLink RX9 30 yX7_init ∈ Gw := gw (i := 313) (by decide +kernel) rfl
theorem w269 : Cond.instanceMethod yX7_init ∈ Gw := gw (i := 314) (by decide +kernel) rfl
theorem w270 : Cond.code yX7_init cX7_init 2 (some .:) ∈ Gw := gw (i := 315) (by decide +kernel) rfl
theorem w271 : Cond.methodLink RX7 3 objectInit ∈ Gw := gw (i := 316) (by decide +kernel) rfl
theorem w272 : Cond.fieldLink RX7 9 RX7 "bay" "LSlickboom$Bay;" ∈ Gw := gw (i := 317) (by decide +kernel) rfl
theorem w276 : Cond.classLink RX9 35 RX3 ∈ Gw := gw (i := 321) (by decide +kernel) rfl
theorem w277 : Cond.instantiable RX3 4 ∈ Gw := gw (i := 322) (by decide +kernel) rfl
theorem w278 : Cond.methodLink RX9 37 yX3_init ∈ Gw := gw (i := 323) (by decide +kernel) rfl
theorem w279 : Cond.instanceMethod yX3_init ∈ Gw := gw (i := 324) (by decide +kernel) rfl
theorem w280 : Cond.code yX3_init cX3_init 1 (some .:) ∈ Gw := gw (i := 325) (by decide +kernel) rfl
theorem w281 : Cond.methodLink RX3 3 objectInit ∈ Gw := gw (i := 326) (by decide +kernel) rfl
theorem w282 : Cond.fieldLink RX3 18 RX3 "sites" "I" ∈ Gw := gw (i := 327) (by decide +kernel) rfl
theorem w283 : Cond.fieldLink RX9 248 RX3 "sites" "I" ∈ Gw := gw (i := 328) (by decide +kernel) rfl
theorem w284 : Cond.fieldLink RX3 9 RX3 "waste" "[I" ∈ Gw := gw (i := 329) (by decide +kernel) rfl
theorem w285 : Cond.fieldLink RX9 195 RX3 "waste" "[I" ∈ Gw := gw (i := 330) (by decide +kernel) rfl
theorem w286 : Cond.fieldLink RX3 15 RX3 "room" "[I" ∈ Gw := gw (i := 331) (by decide +kernel) rfl
theorem w287 : Cond.fieldLink RX3 22 RX3 "delivered" "I" ∈ Gw := gw (i := 332) (by decide +kernel) rfl
theorem w297 : Cond.classLink RX9 42 RX6 ∈ Gw := gw (i := 342) (by decide +kernel) rfl
theorem w298 : Cond.instantiable RX6 5 ∈ Gw := gw (i := 343) (by decide +kernel) rfl
theorem w299 : Cond.methodLink RX9 44 yX6_init ∈ Gw := gw (i := 344) (by decide +kernel) rfl
theorem w300 : Cond.instanceMethod yX6_init ∈ Gw := gw (i := 345) (by decide +kernel) rfl
theorem w301 : Cond.code yX6_init cX6_init 1 (some .:) ∈ Gw := gw (i := 346) (by decide +kernel) rfl
theorem w302 : Cond.methodLink RX6 3 objectInit ∈ Gw := gw (i := 347) (by decide +kernel) rfl
theorem w303 : Cond.fieldLink RX6 15 RX6 "count" "I" ∈ Gw := gw (i := 348) (by decide +kernel) rfl
theorem w304 : Cond.fieldLink RX9 265 RX6 "count" "I" ∈ Gw := gw (i := 349) (by decide +kernel) rfl
theorem w305 : Cond.fieldLink RX6 23 RX6 "owner" "I" ∈ Gw := gw (i := 350) (by decide +kernel) rfl
theorem w306 : Cond.fieldLink RX9 271 RX6 "owner" "I" ∈ Gw := gw (i := 351) (by decide +kernel) rfl
theorem w307 : Cond.fieldLink RX6 26 RX6 "fund" "I" ∈ Gw := gw (i := 352) (by decide +kernel) rfl
theorem w308 : Cond.fieldLink RX9 274 RX6 "fund" "I" ∈ Gw := gw (i := 353) (by decide +kernel) rfl
theorem w309 : Cond.fieldLink RX6 19 RX6 "all" "J" ∈ Gw := gw (i := 354) (by decide +kernel) rfl
theorem w310 : Cond.fieldLink RX6 9 RX6 "cents" "[I" ∈ Gw := gw (i := 355) (by decide +kernel) rfl
theorem w322 : Cond.fieldLink RX9 12 RX9 "bay" "LSlickboom$Bay;" ∈ Gw := gw (i := 367) (by decide +kernel) rfl
theorem w323 : Cond.fieldLink RX9 16 RX9 "trial" "LSlickboom$Bay;" ∈ Gw := gw (i := 368) (by decide +kernel) rfl
theorem w324 : Cond.fieldLink RX9 24 RX9 "nextHour" "LSlickboom$NextHour;" ∈ Gw := gw (i := 369) (by decide +kernel) rfl
theorem w325 : Cond.fieldLink RX9 31 RX9 "rules" "LSlickboom$Rules;" ∈ Gw := gw (i := 370) (by decide +kernel) rfl
theorem w326 : Cond.fieldLink RX9 38 RX9 "dump" "LSlickboom$Dump;" ∈ Gw := gw (i := 371) (by decide +kernel) rfl
theorem w327 : Cond.fieldLink RX9 45 RX9 "payers" "LSlickboom$Payers;" ∈ Gw := gw (i := 372) (by decide +kernel) rfl
theorem w341 : Cond.methodLink RL 118 yL_shore ∈ Gw := gw (i := 386) (by decide +kernel) rfl
theorem w342 : Cond.static yL_shore ∈ Gw := gw (i := 387) (by decide +kernel) rfl
theorem w344 : Cond.classLink RL 13 "java/lang/IndexOutOfBoundsException" ∈ Gw := gw (i := 389) (by decide +kernel) rfl
theorem w345 : Cond.classLink RL 15 "java/lang/IllegalArgumentException" ∈ Gw := gw (i := 390) (by decide +kernel) rfl
theorem w346 : Cond.classLink RL 17 "java/lang/IllegalStateException" ∈ Gw := gw (i := 391) (by decide +kernel) rfl
theorem w347 : Cond.methodLink RL 7 yX9_shore ∈ Gw := gw (i := 392) (by decide +kernel) rfl
theorem w348 : Cond.instanceMethod yX9_shore ∈ Gw := gw (i := 393) (by decide +kernel) rfl
theorem w349 : Cond.selects RX9 yX9_shore yX9_shore ∈ Gw := gw (i := 394) (by decide +kernel) rfl
theorem w350 : Cond.code yX9_shore cX9_shore 4 (some .int) ∈ Gw := gw (i := 395) (by decide +kernel) rfl
theorem w351 : Cond.methodLink RX9 49 yX9_needNumber ∈ Gw := gw (i := 396) (by decide +kernel) rfl
theorem w352 : Cond.static yX9_needNumber ∈ Gw := gw (i := 397) (by decide +kernel) rfl
theorem w353 : Cond.code yX9_needNumber cX9_needNumber 2 (some .:) ∈ Gw := gw (i := 398) (by decide +kernel) rfl
theorem w354 : Cond.classLink RX9 340 "java/lang/IndexOutOfBoundsException" ∈ Gw := gw (i := 399) (by decide +kernel) rfl
theorem w355 : Cond.instantiable "java/lang/IndexOutOfBoundsException" 6 ∈ Gw := gw (i := 400) (by decide +kernel) rfl
theorem w375 : Cond.fieldLink "java/lang/Throwable" 198 "java/lang/Throwable" "backtrace" "Ljava/lang/Object;" ∈ Gw := gw (i := 420) (by decide +kernel) rfl
theorem w377 : Cond.instanceMethod ⟨"java/lang/Throwable", "<init>", "()V"⟩ ∈ Gw := gw (i := 422) (by decide +kernel) rfl
theorem w379 : Cond.methodLink "java/lang/Throwable" 1 objectInit ∈ Gw := gw (i := 424) (by decide +kernel) rfl
theorem w380 : Cond.fieldLink "java/lang/Throwable" 13 "java/lang/Throwable" "UNASSIGNED_STACK" "[Ljava/lang/StackTraceElement;" ∈ Gw := gw (i := 425) (by decide +kernel) rfl
theorem w382 : Cond.fieldLink "java/lang/Throwable" 20 "java/lang/Throwable" "SUPPRESSED_SENTINEL" "Ljava/util/List;" ∈ Gw := gw (i := 427) (by decide +kernel) rfl
theorem w384 : Cond.methodLink "java/lang/Throwable" 27 ⟨"java/lang/Throwable", "fillInStackTrace", "()Ljava/lang/Throwable;"⟩ ∈ Gw := gw (i := 429) (by decide +kernel) rfl
theorem w385 : Cond.instanceMethod ⟨"java/lang/Throwable", "fillInStackTrace", "()Ljava/lang/Throwable;"⟩ ∈ Gw := gw (i := 430) (by decide +kernel) rfl
theorem w390 : Cond.methodLink "java/lang/Throwable" 202 ⟨"java/lang/Throwable", "fillInStackTrace", "(I)Ljava/lang/Throwable;"⟩ ∈ Gw := gw (i := 435) (by decide +kernel) rfl
theorem w392 : Cond.instanceMethod ⟨"java/lang/Throwable", "fillInStackTrace", "(I)Ljava/lang/Throwable;"⟩ ∈ Gw := gw (i := 437) (by decide +kernel) rfl
theorem w393 : Cond.instantiable "java/lang/Throwable" 6 ∈ Gw := gw (i := 438) (by decide +kernel) rfl
theorem w394 : Cond.native ⟨"java/lang/Throwable", "fillInStackTrace", "(I)Ljava/lang/Throwable;"⟩ ∈ Gw := gw (i := 439) (by decide +kernel) rfl
theorem w396 : Cond.methodLink RX9 344 ⟨"java/lang/IndexOutOfBoundsException", "<init>", "(Ljava/lang/String;)V"⟩ ∈ Gw := gw (i := 441) (by decide +kernel) rfl
theorem w397 : Cond.instanceMethod ⟨"java/lang/IndexOutOfBoundsException", "<init>", "(Ljava/lang/String;)V"⟩ ∈ Gw := gw (i := 442) (by decide +kernel) rfl
theorem w399 : Cond.methodLink "java/lang/IndexOutOfBoundsException" 7 ⟨"java/lang/RuntimeException", "<init>", "(Ljava/lang/String;)V"⟩ ∈ Gw := gw (i := 444) (by decide +kernel) rfl
theorem w400 : Cond.instanceMethod ⟨"java/lang/RuntimeException", "<init>", "(Ljava/lang/String;)V"⟩ ∈ Gw := gw (i := 445) (by decide +kernel) rfl
theorem w402 : Cond.methodLink "java/lang/RuntimeException" 7 ⟨"java/lang/Exception", "<init>", "(Ljava/lang/String;)V"⟩ ∈ Gw := gw (i := 447) (by decide +kernel) rfl
theorem w403 : Cond.instanceMethod ⟨"java/lang/Exception", "<init>", "(Ljava/lang/String;)V"⟩ ∈ Gw := gw (i := 448) (by decide +kernel) rfl
theorem w405 : Cond.methodLink "java/lang/Exception" 7 ⟨"java/lang/Throwable", "<init>", "(Ljava/lang/String;)V"⟩ ∈ Gw := gw (i := 450) (by decide +kernel) rfl
theorem w406 : Cond.instanceMethod ⟨"java/lang/Throwable", "<init>", "(Ljava/lang/String;)V"⟩ ∈ Gw := gw (i := 451) (by decide +kernel) rfl
theorem w409 : Cond.fieldLink "java/lang/Throwable" 31 "java/lang/Throwable" "detailMessage" "Ljava/lang/String;" ∈ Gw := gw (i := 454) (by decide +kernel) rfl
theorem w410 : Cond.fieldLink "java/lang/Throwable" 7 "java/lang/Throwable" "cause" "Ljava/lang/Throwable;" ∈ Gw := gw (i := 455) (by decide +kernel) rfl
theorem w411 : Cond.fieldLink "java/lang/Throwable" 17 "java/lang/Throwable" "stackTrace" "[Ljava/lang/StackTraceElement;" ∈ Gw := gw (i := 456) (by decide +kernel) rfl
theorem w412 : Cond.fieldLink "java/lang/Throwable" 24 "java/lang/Throwable" "suppressedExceptions" "Ljava/util/List;" ∈ Gw := gw (i := 457) (by decide +kernel) rfl
theorem w421 : Cond.arrayClass .byte ∈ Gw := gw (i := 466) (by decide +kernel) rfl
theorem w422 : Cond.methodLink RX9 53 yX9_needRange ∈ Gw := gw (i := 467) (by decide +kernel) rfl
theorem w423 : Cond.static yX9_needRange ∈ Gw := gw (i := 468) (by decide +kernel) rfl
theorem w424 : Cond.code yX9_needRange cX9_needRange 3 (some .:) ∈ Gw := gw (i := 469) (by decide +kernel) rfl
theorem w425 : Cond.classLink RX9 128 "java/lang/IllegalArgumentException" ∈ Gw := gw (i := 470) (by decide +kernel) rfl
theorem w426 : Cond.instantiable "java/lang/IllegalArgumentException" 6 ∈ Gw := gw (i := 471) (by decide +kernel) rfl
theorem w435 : Cond.methodLink RX9 132 ⟨"java/lang/IllegalArgumentException", "<init>", "(Ljava/lang/String;)V"⟩ ∈ Gw := gw (i := 480) (by decide +kernel) rfl
theorem w436 : Cond.instanceMethod ⟨"java/lang/IllegalArgumentException", "<init>", "(Ljava/lang/String;)V"⟩ ∈ Gw := gw (i := 481) (by decide +kernel) rfl
theorem w438 : Cond.methodLink "java/lang/IllegalArgumentException" 7 ⟨"java/lang/RuntimeException", "<init>", "(Ljava/lang/String;)V"⟩ ∈ Gw := gw (i := 483) (by decide +kernel) rfl
theorem w441 : Cond.classLink RX9 61 "java/lang/IllegalStateException" ∈ Gw := gw (i := 486) (by decide +kernel) rfl
theorem w442 : Cond.instantiable "java/lang/IllegalStateException" 6 ∈ Gw := gw (i := 487) (by decide +kernel) rfl
theorem w451 : Cond.methodLink RX9 65 ⟨"java/lang/IllegalStateException", "<init>", "(Ljava/lang/String;)V"⟩ ∈ Gw := gw (i := 496) (by decide +kernel) rfl
theorem w452 : Cond.instanceMethod ⟨"java/lang/IllegalStateException", "<init>", "(Ljava/lang/String;)V"⟩ ∈ Gw := gw (i := 497) (by decide +kernel) rfl
theorem w454 : Cond.methodLink "java/lang/IllegalStateException" 7 ⟨"java/lang/RuntimeException", "<init>", "(Ljava/lang/String;)V"⟩ ∈ Gw := gw (i := 499) (by decide +kernel) rfl
theorem w457 : Cond.methodLink RX9 72 yX8_isAnyAt ∈ Gw := gw (i := 502) (by decide +kernel) rfl
theorem w458 : Cond.instanceMethod yX8_isAnyAt ∈ Gw := gw (i := 503) (by decide +kernel) rfl
theorem w459 : Cond.selects RX8 yX8_isAnyAt yX8_isAnyAt ∈ Gw := gw (i := 504) (by decide +kernel) rfl
theorem w460 : Cond.code yX8_isAnyAt cX8_isAnyAt 3 (some .boolean) ∈ Gw := gw (i := 505) (by decide +kernel) rfl
theorem w461 : Cond.methodLink RX9 82 yX4_isSkimmerAt ∈ Gw := gw (i := 506) (by decide +kernel) rfl
theorem w462 : Cond.instanceMethod yX4_isSkimmerAt ∈ Gw := gw (i := 507) (by decide +kernel) rfl
theorem w463 : Cond.selects RX4 yX4_isSkimmerAt yX4_isSkimmerAt ∈ Gw := gw (i := 508) (by decide +kernel) rfl
theorem w464 : Cond.code yX4_isSkimmerAt cX4_isSkimmerAt 3 (some .boolean) ∈ Gw := gw (i := 509) (by decide +kernel) rfl
theorem w465 : Cond.methodLink RX4 41 yX4_isSkimmer ∈ Gw := gw (i := 510) (by decide +kernel) rfl
theorem w466 : Cond.instanceMethod yX4_isSkimmer ∈ Gw := gw (i := 511) (by decide +kernel) rfl
theorem w467 : Cond.selects RX4 yX4_isSkimmer yX4_isSkimmer ∈ Gw := gw (i := 512) (by decide +kernel) rfl
theorem w468 : Cond.code yX4_isSkimmer cX4_isSkimmer 3 (some .boolean) ∈ Gw := gw (i := 513) (by decide +kernel) rfl
theorem w470 : Cond.methodLink RX9 99 yX2_become ∈ Gw := gw (i := 515) (by decide +kernel) rfl
theorem w471 : Cond.instanceMethod yX2_become ∈ Gw := gw (i := 516) (by decide +kernel) rfl
theorem w472 : Cond.selects RX2 yX2_become yX2_become ∈ Gw := gw (i := 517) (by decide +kernel) rfl
theorem w473 : Cond.code yX2_become cX2_become 3 (some .:) ∈ Gw := gw (i := 518) (by decide +kernel) rfl
theorem w474 : Cond.methodLink RL 128 yL_depth ∈ Gw := gw (i := 519) (by decide +kernel) rfl
theorem w475 : Cond.static yL_depth ∈ Gw := gw (i := 520) (by decide +kernel) rfl
theorem w477 : Cond.methodLink RL 19 yX9_depth ∈ Gw := gw (i := 522) (by decide +kernel) rfl
theorem w478 : Cond.instanceMethod yX9_depth ∈ Gw := gw (i := 523) (by decide +kernel) rfl
theorem w479 : Cond.selects RX9 yX9_depth yX9_depth ∈ Gw := gw (i := 524) (by decide +kernel) rfl
theorem w480 : Cond.code yX9_depth cX9_depth 4 (some .int) ∈ Gw := gw (i := 525) (by decide +kernel) rfl
theorem w481 : Cond.methodLink RX9 102 yX9_needWater ∈ Gw := gw (i := 526) (by decide +kernel) rfl
theorem w483 : Cond.instanceMethod yX9_needWater ∈ Gw := gw (i := 528) (by decide +kernel) rfl
theorem w484 : Cond.code yX9_needWater cX9_needWater 2 (some .:) ∈ Gw := gw (i := 529) (by decide +kernel) rfl
theorem w485 : Cond.methodLink RX9 291 yX2_isWater ∈ Gw := gw (i := 530) (by decide +kernel) rfl
theorem w486 : Cond.instanceMethod yX2_isWater ∈ Gw := gw (i := 531) (by decide +kernel) rfl
theorem w487 : Cond.selects RX2 yX2_isWater yX2_isWater ∈ Gw := gw (i := 532) (by decide +kernel) rfl
theorem w488 : Cond.code yX2_isWater cX2_isWater 2 (some .boolean) ∈ Gw := gw (i := 533) (by decide +kernel) rfl
theorem w490 : Cond.methodLink RL 131 yL_wind ∈ Gw := gw (i := 535) (by decide +kernel) rfl
theorem w491 : Cond.static yL_wind ∈ Gw := gw (i := 536) (by decide +kernel) rfl
theorem w493 : Cond.methodLink RL 22 yX9_wind ∈ Gw := gw (i := 538) (by decide +kernel) rfl
theorem w494 : Cond.instanceMethod yX9_wind ∈ Gw := gw (i := 539) (by decide +kernel) rfl
theorem w495 : Cond.selects RX9 yX9_wind yX9_wind ∈ Gw := gw (i := 540) (by decide +kernel) rfl
theorem w496 : Cond.code yX9_wind cX9_wind 4 (some .int) ∈ Gw := gw (i := 541) (by decide +kernel) rfl
theorem w497 : Cond.methodLink RL 134 yL_ship ∈ Gw := gw (i := 542) (by decide +kernel) rfl
theorem w498 : Cond.static yL_ship ∈ Gw := gw (i := 543) (by decide +kernel) rfl
theorem w500 : Cond.methodLink RL 25 yX9_ship ∈ Gw := gw (i := 545) (by decide +kernel) rfl
theorem w501 : Cond.instanceMethod yX9_ship ∈ Gw := gw (i := 546) (by decide +kernel) rfl
theorem w502 : Cond.selects RX9 yX9_ship yX9_ship ∈ Gw := gw (i := 547) (by decide +kernel) rfl
theorem w503 : Cond.code yX9_ship cX9_ship 3 (some .int) ∈ Gw := gw (i := 548) (by decide +kernel) rfl
theorem w504 : Cond.constant RX9 115 100000 ∈ Gw := gw (i := 549) (by decide +kernel) rfl
theorem w506 : Cond.methodLink RX9 121 yX8_add ∈ Gw := gw (i := 551) (by decide +kernel) rfl
theorem w507 : Cond.instanceMethod yX8_add ∈ Gw := gw (i := 552) (by decide +kernel) rfl
theorem w508 : Cond.selects RX8 yX8_add yX8_add ∈ Gw := gw (i := 553) (by decide +kernel) rfl
theorem w509 : Cond.code yX8_add cX8_add 4 (some .int) ∈ Gw := gw (i := 554) (by decide +kernel) rfl
theorem w510 : Cond.methodLink RL 137 yL_hole ∈ Gw := gw (i := 555) (by decide +kernel) rfl
theorem w511 : Cond.static yL_hole ∈ Gw := gw (i := 556) (by decide +kernel) rfl
theorem w513 : Cond.methodLink RL 28 yX9_hole ∈ Gw := gw (i := 558) (by decide +kernel) rfl
theorem w514 : Cond.instanceMethod yX9_hole ∈ Gw := gw (i := 559) (by decide +kernel) rfl
theorem w515 : Cond.selects RX9 yX9_hole yX9_hole ∈ Gw := gw (i := 560) (by decide +kernel) rfl
theorem w516 : Cond.code yX9_hole cX9_hole 4 (some .int) ∈ Gw := gw (i := 561) (by decide +kernel) rfl
theorem w517 : Cond.methodLink RL 140 yL_pump ∈ Gw := gw (i := 562) (by decide +kernel) rfl
theorem w518 : Cond.static yL_pump ∈ Gw := gw (i := 563) (by decide +kernel) rfl
theorem w520 : Cond.methodLink RL 31 yX9_pump ∈ Gw := gw (i := 565) (by decide +kernel) rfl
theorem w521 : Cond.instanceMethod yX9_pump ∈ Gw := gw (i := 566) (by decide +kernel) rfl
theorem w522 : Cond.selects RX9 yX9_pump yX9_pump ∈ Gw := gw (i := 567) (by decide +kernel) rfl
theorem w523 : Cond.code yX9_pump cX9_pump 5 (some .int) ∈ Gw := gw (i := 568) (by decide +kernel) rfl
theorem w526 : Cond.methodLink RL 144 yL_shipHas ∈ Gw := gw (i := 571) (by decide +kernel) rfl
theorem w527 : Cond.static yL_shipHas ∈ Gw := gw (i := 572) (by decide +kernel) rfl
theorem w529 : Cond.methodLink RL 35 yX9_shipHas ∈ Gw := gw (i := 574) (by decide +kernel) rfl
theorem w530 : Cond.instanceMethod yX9_shipHas ∈ Gw := gw (i := 575) (by decide +kernel) rfl
theorem w531 : Cond.selects RX9 yX9_shipHas yX9_shipHas ∈ Gw := gw (i := 576) (by decide +kernel) rfl
theorem w532 : Cond.code yX9_shipHas cX9_shipHas 2 (some .int) ∈ Gw := gw (i := 577) (by decide +kernel) rfl
theorem w533 : Cond.methodLink RL 148 yL_pass ∈ Gw := gw (i := 578) (by decide +kernel) rfl
theorem w534 : Cond.static yL_pass ∈ Gw := gw (i := 579) (by decide +kernel) rfl
theorem w536 : Cond.methodLink RL 39 yX9_pass ∈ Gw := gw (i := 581) (by decide +kernel) rfl
theorem w537 : Cond.instanceMethod yX9_pass ∈ Gw := gw (i := 582) (by decide +kernel) rfl
theorem w538 : Cond.selects RX9 yX9_pass yX9_pass ∈ Gw := gw (i := 583) (by decide +kernel) rfl
theorem w539 : Cond.code yX9_pass cX9_pass 2 (some .int) ∈ Gw := gw (i := 584) (by decide +kernel) rfl
theorem w541 : Cond.methodLink RX9 140 yX0_letPass ∈ Gw := gw (i := 586) (by decide +kernel) rfl
theorem w542 : Cond.instanceMethod yX0_letPass ∈ Gw := gw (i := 587) (by decide +kernel) rfl
theorem w543 : Cond.selects RX0 yX0_letPass yX0_letPass ∈ Gw := gw (i := 588) (by decide +kernel) rfl
theorem w544 : Cond.code yX0_letPass cX0_letPass 3 (some .:) ∈ Gw := gw (i := 589) (by decide +kernel) rfl
theorem w545 : Cond.methodLink RX0 66 yX0_leak ∈ Gw := gw (i := 590) (by decide +kernel) rfl
theorem w547 : Cond.instanceMethod yX0_leak ∈ Gw := gw (i := 592) (by decide +kernel) rfl
theorem w548 : Cond.code yX0_leak cX0_leak 4 (some .:) ∈ Gw := gw (i := 593) (by decide +kernel) rfl
theorem w549 : Cond.methodLink RX0 75 yX0_tideOf ∈ Gw := gw (i := 594) (by decide +kernel) rfl
theorem w550 : Cond.static yX0_tideOf ∈ Gw := gw (i := 595) (by decide +kernel) rfl
theorem w551 : Cond.code yX0_tideOf cX0_tideOf 2 (some .int) ∈ Gw := gw (i := 596) (by decide +kernel) rfl
theorem w552 : Cond.methodLink RX0 91 yX8_leakOf ∈ Gw := gw (i := 597) (by decide +kernel) rfl
theorem w553 : Cond.instanceMethod yX8_leakOf ∈ Gw := gw (i := 598) (by decide +kernel) rfl
theorem w554 : Cond.selects RX8 yX8_leakOf yX8_leakOf ∈ Gw := gw (i := 599) (by decide +kernel) rfl
theorem w555 : Cond.code yX8_leakOf cX8_leakOf 4 (some .int) ∈ Gw := gw (i := 600) (by decide +kernel) rfl
theorem w556 : Cond.methodLink RX8 25 Lib.Math.min.name ∈ Gw := gw (i := 601) (by decide +kernel) rfl
theorem w557 : Cond.static Lib.Math.min.name ∈ Gw := gw (i := 602) (by decide +kernel) rfl
theorem w558 : Cond.code Lib.Math.min.name Lib.Math.min.code 2 (some .int) ∈ Gw := gw (i := 603) (by decide +kernel) rfl
theorem w559 : Cond.methodLink RX0 104 yX1_noteLeak ∈ Gw := gw (i := 604) (by decide +kernel) rfl
theorem w560 : Cond.instanceMethod yX1_noteLeak ∈ Gw := gw (i := 605) (by decide +kernel) rfl
theorem w561 : Cond.selects RX1 yX1_noteLeak yX1_noteLeak ∈ Gw := gw (i := 606) (by decide +kernel) rfl
theorem w562 : Cond.code yX1_noteLeak cX1_noteLeak 3 (some .:) ∈ Gw := gw (i := 607) (by decide +kernel) rfl
theorem w563 : Cond.methodLink RX0 69 yX0_weather ∈ Gw := gw (i := 608) (by decide +kernel) rfl
theorem w565 : Cond.instanceMethod yX0_weather ∈ Gw := gw (i := 610) (by decide +kernel) rfl
theorem w566 : Cond.code yX0_weather cX0_weather 5 (some .:) ∈ Gw := gw (i := 611) (by decide +kernel) rfl
theorem w567 : Cond.methodLink RX0 72 yX0_drift ∈ Gw := gw (i := 612) (by decide +kernel) rfl
theorem w569 : Cond.instanceMethod yX0_drift ∈ Gw := gw (i := 614) (by decide +kernel) rfl
theorem w570 : Cond.code yX0_drift cX0_drift 2 (some .:) ∈ Gw := gw (i := 615) (by decide +kernel) rfl
theorem w571 : Cond.methodLink RX0 117 yX0_findWhatGoes ∈ Gw := gw (i := 616) (by decide +kernel) rfl
theorem w573 : Cond.instanceMethod yX0_findWhatGoes ∈ Gw := gw (i := 618) (by decide +kernel) rfl
theorem w574 : Cond.code yX0_findWhatGoes cX0_findWhatGoes 6 (some .:) ∈ Gw := gw (i := 619) (by decide +kernel) rfl
theorem w575 : Cond.methodLink RX0 127 yX0_roomBehind ∈ Gw := gw (i := 620) (by decide +kernel) rfl
theorem w576 : Cond.instanceMethod yX0_roomBehind ∈ Gw := gw (i := 621) (by decide +kernel) rfl
theorem w577 : Cond.selects RX0 yX0_roomBehind yX0_roomBehind ∈ Gw := gw (i := 622) (by decide +kernel) rfl
theorem w578 : Cond.code yX0_roomBehind cX0_roomBehind 3 (some .int) ∈ Gw := gw (i := 623) (by decide +kernel) rfl
theorem w579 : Cond.methodLink RX0 121 yX2_beside ∈ Gw := gw (i := 624) (by decide +kernel) rfl
theorem w580 : Cond.static yX2_beside ∈ Gw := gw (i := 625) (by decide +kernel) rfl
theorem w581 : Cond.code yX2_beside cX2_beside 4 (some .int) ∈ Gw := gw (i := 626) (by decide +kernel) rfl
theorem w582 : Cond.methodLink RX0 147 yX2_isWater ∈ Gw := gw (i := 627) (by decide +kernel) rfl
theorem w583 : Cond.constant RX0 151 1000000 ∈ Gw := gw (i := 628) (by decide +kernel) rfl
theorem w584 : Cond.methodLink RX0 152 yX2_roomOf ∈ Gw := gw (i := 629) (by decide +kernel) rfl
theorem w585 : Cond.instanceMethod yX2_roomOf ∈ Gw := gw (i := 630) (by decide +kernel) rfl
theorem w586 : Cond.selects RX2 yX2_roomOf yX2_roomOf ∈ Gw := gw (i := 631) (by decide +kernel) rfl
theorem w587 : Cond.code yX2_roomOf cX2_roomOf 2 (some .int) ∈ Gw := gw (i := 632) (by decide +kernel) rfl
theorem w590 : Cond.methodLink RX0 130 yX0_blown ∈ Gw := gw (i := 635) (by decide +kernel) rfl
theorem w591 : Cond.instanceMethod yX0_blown ∈ Gw := gw (i := 636) (by decide +kernel) rfl
theorem w592 : Cond.selects RX0 yX0_blown yX0_blown ∈ Gw := gw (i := 637) (by decide +kernel) rfl
theorem w593 : Cond.code yX0_blown cX0_blown 3 (some .int) ∈ Gw := gw (i := 638) (by decide +kernel) rfl
theorem w594 : Cond.methodLink RX0 142 Lib.Math.min.name ∈ Gw := gw (i := 639) (by decide +kernel) rfl
theorem w595 : Cond.methodLink RX0 133 yX4_boomOn ∈ Gw := gw (i := 640) (by decide +kernel) rfl
theorem w596 : Cond.instanceMethod yX4_boomOn ∈ Gw := gw (i := 641) (by decide +kernel) rfl
theorem w597 : Cond.selects RX4 yX4_boomOn yX4_boomOn ∈ Gw := gw (i := 642) (by decide +kernel) rfl
theorem w598 : Cond.code yX4_boomOn cX4_boomOn 6 (some .int) ∈ Gw := gw (i := 643) (by decide +kernel) rfl
theorem w599 : Cond.methodLink RX4 45 yX2_beside ∈ Gw := gw (i := 644) (by decide +kernel) rfl
theorem w600 : Cond.methodLink RX4 51 yX2_opposite ∈ Gw := gw (i := 645) (by decide +kernel) rfl
theorem w601 : Cond.static yX2_opposite ∈ Gw := gw (i := 646) (by decide +kernel) rfl
theorem w602 : Cond.code yX2_opposite cX2_opposite 1 (some .int) ∈ Gw := gw (i := 647) (by decide +kernel) rfl
theorem w603 : Cond.methodLink RX0 124 yX0_letGo ∈ Gw := gw (i := 648) (by decide +kernel) rfl
theorem w605 : Cond.instanceMethod yX0_letGo ∈ Gw := gw (i := 650) (by decide +kernel) rfl
theorem w606 : Cond.code yX0_letGo cX0_letGo 5 (some .:) ∈ Gw := gw (i := 651) (by decide +kernel) rfl
theorem w607 : Cond.methodLink RX0 79 yX0_giveBack ∈ Gw := gw (i := 652) (by decide +kernel) rfl
theorem w609 : Cond.instanceMethod yX0_giveBack ∈ Gw := gw (i := 654) (by decide +kernel) rfl
theorem w610 : Cond.code yX0_giveBack cX0_giveBack 4 (some .:) ∈ Gw := gw (i := 655) (by decide +kernel) rfl
theorem w611 : Cond.methodLink RX0 161 yX2_lowestWaterBeside ∈ Gw := gw (i := 656) (by decide +kernel) rfl
theorem w612 : Cond.instanceMethod yX2_lowestWaterBeside ∈ Gw := gw (i := 657) (by decide +kernel) rfl
theorem w613 : Cond.selects RX2 yX2_lowestWaterBeside yX2_lowestWaterBeside ∈ Gw := gw (i := 658) (by decide +kernel) rfl
theorem w614 : Cond.code yX2_lowestWaterBeside cX2_lowestWaterBeside 5 (some .int) ∈ Gw := gw (i := 659) (by decide +kernel) rfl
theorem w615 : Cond.methodLink RX2 42 yX2_beside ∈ Gw := gw (i := 660) (by decide +kernel) rfl
theorem w616 : Cond.methodLink RX2 46 yX2_isWater ∈ Gw := gw (i := 661) (by decide +kernel) rfl
theorem w617 : Cond.methodLink RX0 164 yX2_backOf ∈ Gw := gw (i := 662) (by decide +kernel) rfl
theorem w618 : Cond.instanceMethod yX2_backOf ∈ Gw := gw (i := 663) (by decide +kernel) rfl
theorem w619 : Cond.selects RX2 yX2_backOf yX2_backOf ∈ Gw := gw (i := 664) (by decide +kernel) rfl
theorem w620 : Cond.code yX2_backOf cX2_backOf 4 (some .int) ∈ Gw := gw (i := 665) (by decide +kernel) rfl
theorem w623 : Cond.methodLink RX0 82 yX0_skim ∈ Gw := gw (i := 668) (by decide +kernel) rfl
theorem w625 : Cond.instanceMethod yX0_skim ∈ Gw := gw (i := 670) (by decide +kernel) rfl
theorem w626 : Cond.code yX0_skim cX0_skim 5 (some .:) ∈ Gw := gw (i := 671) (by decide +kernel) rfl
theorem w627 : Cond.methodLink RX0 172 yX4_freshTaken ∈ Gw := gw (i := 672) (by decide +kernel) rfl
theorem w628 : Cond.instanceMethod yX4_freshTaken ∈ Gw := gw (i := 673) (by decide +kernel) rfl
theorem w629 : Cond.selects RX4 yX4_freshTaken yX4_freshTaken ∈ Gw := gw (i := 674) (by decide +kernel) rfl
theorem w630 : Cond.code yX4_freshTaken cX4_freshTaken 4 (some .int) ∈ Gw := gw (i := 675) (by decide +kernel) rfl
theorem w631 : Cond.methodLink RX4 55 Lib.Math.min.name ∈ Gw := gw (i := 676) (by decide +kernel) rfl
theorem w632 : Cond.methodLink RX0 175 yX4_thickTaken ∈ Gw := gw (i := 677) (by decide +kernel) rfl
theorem w633 : Cond.instanceMethod yX4_thickTaken ∈ Gw := gw (i := 678) (by decide +kernel) rfl
theorem w634 : Cond.selects RX4 yX4_thickTaken yX4_thickTaken ∈ Gw := gw (i := 679) (by decide +kernel) rfl
theorem w635 : Cond.code yX4_thickTaken cX4_thickTaken 5 (some .int) ∈ Gw := gw (i := 680) (by decide +kernel) rfl
theorem w636 : Cond.methodLink RX0 85 yX0_harmShores ∈ Gw := gw (i := 681) (by decide +kernel) rfl
theorem w638 : Cond.instanceMethod yX0_harmShores ∈ Gw := gw (i := 683) (by decide +kernel) rfl
theorem w639 : Cond.code yX0_harmShores cX0_harmShores 2 (some .:) ∈ Gw := gw (i := 684) (by decide +kernel) rfl
theorem w640 : Cond.methodLink RX0 179 yX2_oilBirds ∈ Gw := gw (i := 685) (by decide +kernel) rfl
theorem w641 : Cond.instanceMethod yX2_oilBirds ∈ Gw := gw (i := 686) (by decide +kernel) rfl
theorem w642 : Cond.selects RX2 yX2_oilBirds yX2_oilBirds ∈ Gw := gw (i := 687) (by decide +kernel) rfl
theorem w643 : Cond.code yX2_oilBirds cX2_oilBirds 3 (some .:) ∈ Gw := gw (i := 688) (by decide +kernel) rfl
theorem w644 : Cond.methodLink RX2 62 Lib.Math.min.name ∈ Gw := gw (i := 689) (by decide +kernel) rfl
theorem w645 : Cond.methodLink RX0 182 yX2_isTooDirty ∈ Gw := gw (i := 690) (by decide +kernel) rfl
theorem w646 : Cond.instanceMethod yX2_isTooDirty ∈ Gw := gw (i := 691) (by decide +kernel) rfl
theorem w647 : Cond.selects RX2 yX2_isTooDirty yX2_isTooDirty ∈ Gw := gw (i := 692) (by decide +kernel) rfl
theorem w648 : Cond.code yX2_isTooDirty cX2_isTooDirty 2 (some .boolean) ∈ Gw := gw (i := 693) (by decide +kernel) rfl
theorem w649 : Cond.methodLink RL 151 yL_at ∈ Gw := gw (i := 694) (by decide +kernel) rfl
theorem w650 : Cond.static yL_at ∈ Gw := gw (i := 695) (by decide +kernel) rfl
theorem w652 : Cond.methodLink RL 42 yX9_at ∈ Gw := gw (i := 697) (by decide +kernel) rfl
theorem w653 : Cond.instanceMethod yX9_at ∈ Gw := gw (i := 698) (by decide +kernel) rfl
theorem w654 : Cond.selects RX9 yX9_at yX9_at ∈ Gw := gw (i := 699) (by decide +kernel) rfl
theorem w655 : Cond.code yX9_at cX9_at 4 (some .int) ∈ Gw := gw (i := 700) (by decide +kernel) rfl
theorem w656 : Cond.methodLink RX9 161 yX2_isClean ∈ Gw := gw (i := 701) (by decide +kernel) rfl
theorem w657 : Cond.instanceMethod yX2_isClean ∈ Gw := gw (i := 702) (by decide +kernel) rfl
theorem w658 : Cond.selects RX2 yX2_isClean yX2_isClean ∈ Gw := gw (i := 703) (by decide +kernel) rfl
theorem w659 : Cond.code yX2_isClean cX2_isClean 2 (some .boolean) ∈ Gw := gw (i := 704) (by decide +kernel) rfl
theorem w660 : Cond.methodLink RX2 56 yJ6_bitCount_0f7a4 ∈ Gw := gw (i := 705) (by decide +kernel) rfl
theorem w661 : Cond.static yJ6_bitCount_0f7a4 ∈ Gw := gw (i := 706) (by decide +kernel) rfl
theorem w662 : Cond.code yJ6_bitCount_0f7a4 cJ6_bitCount_0f7a4 1 (some .int) ∈ Gw := gw (i := 707) (by decide +kernel) rfl
theorem w663 : Cond.constant RJ6 265 1431655765 ∈ Gw := gw (i := 708) (by decide +kernel) rfl
theorem w664 : Cond.constant RJ6 266 858993459 ∈ Gw := gw (i := 709) (by decide +kernel) rfl
theorem w665 : Cond.constant RJ6 267 252645135 ∈ Gw := gw (i := 710) (by decide +kernel) rfl
theorem w666 : Cond.methodLink RL 154 yL_boom ∈ Gw := gw (i := 711) (by decide +kernel) rfl
theorem w667 : Cond.static yL_boom ∈ Gw := gw (i := 712) (by decide +kernel) rfl
theorem w669 : Cond.methodLink RL 45 yX9_boom ∈ Gw := gw (i := 714) (by decide +kernel) rfl
theorem w670 : Cond.instanceMethod yX9_boom ∈ Gw := gw (i := 715) (by decide +kernel) rfl
theorem w671 : Cond.selects RX9 yX9_boom yX9_boom ∈ Gw := gw (i := 716) (by decide +kernel) rfl
theorem w672 : Cond.code yX9_boom cX9_boom 5 (some .int) ∈ Gw := gw (i := 717) (by decide +kernel) rfl
theorem w673 : Cond.methodLink RX9 164 yX4_boomOn ∈ Gw := gw (i := 718) (by decide +kernel) rfl
theorem w675 : Cond.methodLink RX9 169 yX9_needRoomForMeans ∈ Gw := gw (i := 720) (by decide +kernel) rfl
theorem w677 : Cond.instanceMethod yX9_needRoomForMeans ∈ Gw := gw (i := 722) (by decide +kernel) rfl
theorem w678 : Cond.code yX9_needRoomForMeans cX9_needRoomForMeans 1 (some .:) ∈ Gw := gw (i := 723) (by decide +kernel) rfl
theorem w680 : Cond.methodLink RX9 172 yX4_add ∈ Gw := gw (i := 725) (by decide +kernel) rfl
theorem w681 : Cond.instanceMethod yX4_add ∈ Gw := gw (i := 726) (by decide +kernel) rfl
theorem w682 : Cond.selects RX4 yX4_add yX4_add ∈ Gw := gw (i := 727) (by decide +kernel) rfl
theorem w683 : Cond.code yX4_add cX4_add 5 (some .int) ∈ Gw := gw (i := 728) (by decide +kernel) rfl
theorem w684 : Cond.methodLink RL 157 yL_skimmer ∈ Gw := gw (i := 729) (by decide +kernel) rfl
theorem w685 : Cond.static yL_skimmer ∈ Gw := gw (i := 730) (by decide +kernel) rfl
theorem w687 : Cond.methodLink RL 48 yX9_skimmer ∈ Gw := gw (i := 732) (by decide +kernel) rfl
theorem w688 : Cond.instanceMethod yX9_skimmer ∈ Gw := gw (i := 733) (by decide +kernel) rfl
theorem w689 : Cond.selects RX9 yX9_skimmer yX9_skimmer ∈ Gw := gw (i := 734) (by decide +kernel) rfl
theorem w690 : Cond.code yX9_skimmer cX9_skimmer 5 (some .int) ∈ Gw := gw (i := 735) (by decide +kernel) rfl
theorem w691 : Cond.methodLink RL 160 yL_team ∈ Gw := gw (i := 736) (by decide +kernel) rfl
theorem w692 : Cond.static yL_team ∈ Gw := gw (i := 737) (by decide +kernel) rfl
theorem w694 : Cond.methodLink RL 51 yX9_team ∈ Gw := gw (i := 739) (by decide +kernel) rfl
theorem w695 : Cond.instanceMethod yX9_team ∈ Gw := gw (i := 740) (by decide +kernel) rfl
theorem w696 : Cond.selects RX9 yX9_team yX9_team ∈ Gw := gw (i := 741) (by decide +kernel) rfl
theorem w697 : Cond.code yX9_team cX9_team 4 (some .int) ∈ Gw := gw (i := 742) (by decide +kernel) rfl
theorem w698 : Cond.methodLink RL 164 yL_move ∈ Gw := gw (i := 743) (by decide +kernel) rfl
theorem w699 : Cond.static yL_move ∈ Gw := gw (i := 744) (by decide +kernel) rfl
theorem w701 : Cond.methodLink RL 55 yX9_move ∈ Gw := gw (i := 746) (by decide +kernel) rfl
theorem w702 : Cond.instanceMethod yX9_move ∈ Gw := gw (i := 747) (by decide +kernel) rfl
theorem w703 : Cond.selects RX9 yX9_move yX9_move ∈ Gw := gw (i := 748) (by decide +kernel) rfl
theorem w704 : Cond.code yX9_move cX9_move 4 (some .int) ∈ Gw := gw (i := 749) (by decide +kernel) rfl
theorem w705 : Cond.methodLink RX9 186 yX9_needSort ∈ Gw := gw (i := 750) (by decide +kernel) rfl
theorem w707 : Cond.instanceMethod yX9_needSort ∈ Gw := gw (i := 752) (by decide +kernel) rfl
theorem w708 : Cond.code yX9_needSort cX9_needSort 3 (some .:) ∈ Gw := gw (i := 753) (by decide +kernel) rfl
theorem w710 : Cond.methodLink RL 167 yL_carry ∈ Gw := gw (i := 755) (by decide +kernel) rfl
theorem w711 : Cond.static yL_carry ∈ Gw := gw (i := 756) (by decide +kernel) rfl
theorem w713 : Cond.methodLink RL 58 yX9_carry ∈ Gw := gw (i := 758) (by decide +kernel) rfl
theorem w714 : Cond.instanceMethod yX9_carry ∈ Gw := gw (i := 759) (by decide +kernel) rfl
theorem w715 : Cond.selects RX9 yX9_carry yX9_carry ∈ Gw := gw (i := 760) (by decide +kernel) rfl
theorem w716 : Cond.code yX9_carry cX9_carry 3 (some .int) ∈ Gw := gw (i := 761) (by decide +kernel) rfl
theorem w717 : Cond.methodLink RL 170 yL_teach ∈ Gw := gw (i := 762) (by decide +kernel) rfl
theorem w718 : Cond.static yL_teach ∈ Gw := gw (i := 763) (by decide +kernel) rfl
theorem w720 : Cond.methodLink RL 61 yX9_teach ∈ Gw := gw (i := 765) (by decide +kernel) rfl
theorem w721 : Cond.instanceMethod yX9_teach ∈ Gw := gw (i := 766) (by decide +kernel) rfl
theorem w722 : Cond.selects RX9 yX9_teach yX9_teach ∈ Gw := gw (i := 767) (by decide +kernel) rfl
theorem w723 : Cond.code yX9_teach cX9_teach 3 (some .boolean) ∈ Gw := gw (i := 768) (by decide +kernel) rfl
theorem w724 : Cond.methodLink RL 173 yL_clean ∈ Gw := gw (i := 769) (by decide +kernel) rfl
theorem w725 : Cond.static yL_clean ∈ Gw := gw (i := 770) (by decide +kernel) rfl
theorem w727 : Cond.methodLink RL 65 yX9_clean ∈ Gw := gw (i := 772) (by decide +kernel) rfl
theorem w728 : Cond.instanceMethod yX9_clean ∈ Gw := gw (i := 773) (by decide +kernel) rfl
theorem w729 : Cond.selects RX9 yX9_clean yX9_clean ∈ Gw := gw (i := 774) (by decide +kernel) rfl
theorem w730 : Cond.code yX9_clean cX9_clean 4 (some .int) ∈ Gw := gw (i := 775) (by decide +kernel) rfl
theorem w731 : Cond.methodLink RX9 198 yX9_needShore ∈ Gw := gw (i := 776) (by decide +kernel) rfl
theorem w733 : Cond.instanceMethod yX9_needShore ∈ Gw := gw (i := 778) (by decide +kernel) rfl
theorem w734 : Cond.code yX9_needShore cX9_needShore 2 (some .:) ∈ Gw := gw (i := 779) (by decide +kernel) rfl
theorem w736 : Cond.methodLink RX9 201 yX4_canWork ∈ Gw := gw (i := 781) (by decide +kernel) rfl
theorem w737 : Cond.instanceMethod yX4_canWork ∈ Gw := gw (i := 782) (by decide +kernel) rfl
theorem w738 : Cond.selects RX4 yX4_canWork yX4_canWork ∈ Gw := gw (i := 783) (by decide +kernel) rfl
theorem w739 : Cond.code yX4_canWork cX4_canWork 3 (some .boolean) ∈ Gw := gw (i := 784) (by decide +kernel) rfl
theorem w740 : Cond.methodLink RX4 60 yX4_hasRested ∈ Gw := gw (i := 785) (by decide +kernel) rfl
theorem w742 : Cond.instanceMethod yX4_hasRested ∈ Gw := gw (i := 787) (by decide +kernel) rfl
theorem w743 : Cond.code yX4_hasRested cX4_hasRested 3 (some .boolean) ∈ Gw := gw (i := 788) (by decide +kernel) rfl
theorem w745 : Cond.methodLink RX9 207 yX4_noteWork ∈ Gw := gw (i := 790) (by decide +kernel) rfl
theorem w746 : Cond.instanceMethod yX4_noteWork ∈ Gw := gw (i := 791) (by decide +kernel) rfl
theorem w747 : Cond.selects RX4 yX4_noteWork yX4_noteWork ∈ Gw := gw (i := 792) (by decide +kernel) rfl
theorem w748 : Cond.code yX4_noteWork cX4_noteWork 3 (some .:) ∈ Gw := gw (i := 793) (by decide +kernel) rfl
theorem w749 : Cond.methodLink RX9 213 Lib.Math.min.name ∈ Gw := gw (i := 794) (by decide +kernel) rfl
theorem w750 : Cond.methodLink RL 176 yL_meanIs ∈ Gw := gw (i := 795) (by decide +kernel) rfl
theorem w751 : Cond.static yL_meanIs ∈ Gw := gw (i := 796) (by decide +kernel) rfl
theorem w753 : Cond.methodLink RL 68 yX9_meanIs ∈ Gw := gw (i := 798) (by decide +kernel) rfl
theorem w754 : Cond.instanceMethod yX9_meanIs ∈ Gw := gw (i := 799) (by decide +kernel) rfl
theorem w755 : Cond.selects RX9 yX9_meanIs yX9_meanIs ∈ Gw := gw (i := 800) (by decide +kernel) rfl
theorem w756 : Cond.code yX9_meanIs cX9_meanIs 3 (some .int) ∈ Gw := gw (i := 801) (by decide +kernel) rfl
theorem w757 : Cond.methodLink RL 179 yL_use ∈ Gw := gw (i := 802) (by decide +kernel) rfl
theorem w758 : Cond.static yL_use ∈ Gw := gw (i := 803) (by decide +kernel) rfl
theorem w760 : Cond.methodLink RL 71 yX9_use ∈ Gw := gw (i := 805) (by decide +kernel) rfl
theorem w761 : Cond.instanceMethod yX9_use ∈ Gw := gw (i := 806) (by decide +kernel) rfl
theorem w762 : Cond.selects RX9 yX9_use yX9_use ∈ Gw := gw (i := 807) (by decide +kernel) rfl
theorem w763 : Cond.code yX9_use cX9_use 3 (some .int) ∈ Gw := gw (i := 808) (by decide +kernel) rfl
theorem w764 : Cond.methodLink RX9 221 yX7_howMany ∈ Gw := gw (i := 809) (by decide +kernel) rfl
theorem w765 : Cond.instanceMethod yX7_howMany ∈ Gw := gw (i := 810) (by decide +kernel) rfl
theorem w766 : Cond.selects RX7 yX7_howMany yX7_howMany ∈ Gw := gw (i := 811) (by decide +kernel) rfl
theorem w767 : Cond.code yX7_howMany cX7_howMany 5 (some .int) ∈ Gw := gw (i := 812) (by decide +kernel) rfl
theorem w768 : Cond.methodLink RX7 45 yX7_isAgainst ∈ Gw := gw (i := 813) (by decide +kernel) rfl
theorem w770 : Cond.instanceMethod yX7_isAgainst ∈ Gw := gw (i := 815) (by decide +kernel) rfl
theorem w771 : Cond.code yX7_isAgainst cX7_isAgainst 6 (some .boolean) ∈ Gw := gw (i := 816) (by decide +kernel) rfl
theorem w772 : Cond.methodLink RX7 30 yX0_hasLeakedWithin ∈ Gw := gw (i := 817) (by decide +kernel) rfl
theorem w773 : Cond.instanceMethod yX0_hasLeakedWithin ∈ Gw := gw (i := 818) (by decide +kernel) rfl
theorem w774 : Cond.selects RX0 yX0_hasLeakedWithin yX0_hasLeakedWithin ∈ Gw := gw (i := 819) (by decide +kernel) rfl
theorem w775 : Cond.code yX0_hasLeakedWithin cX0_hasLeakedWithin 2 (some .boolean) ∈ Gw := gw (i := 820) (by decide +kernel) rfl
theorem w776 : Cond.methodLink RX7 41 yX2_isKindBeside ∈ Gw := gw (i := 821) (by decide +kernel) rfl
theorem w777 : Cond.instanceMethod yX2_isKindBeside ∈ Gw := gw (i := 822) (by decide +kernel) rfl
theorem w778 : Cond.selects RX2 yX2_isKindBeside yX2_isKindBeside ∈ Gw := gw (i := 823) (by decide +kernel) rfl
theorem w779 : Cond.code yX2_isKindBeside cX2_isKindBeside 6 (some .boolean) ∈ Gw := gw (i := 824) (by decide +kernel) rfl
theorem w781 : Cond.methodLink RX9 226 yX0_disperse ∈ Gw := gw (i := 826) (by decide +kernel) rfl
theorem w782 : Cond.instanceMethod yX0_disperse ∈ Gw := gw (i := 827) (by decide +kernel) rfl
theorem w783 : Cond.selects RX0 yX0_disperse yX0_disperse ∈ Gw := gw (i := 828) (by decide +kernel) rfl
theorem w784 : Cond.code yX0_disperse cX0_disperse 3 (some .int) ∈ Gw := gw (i := 829) (by decide +kernel) rfl
theorem w785 : Cond.methodLink RX9 230 yX0_burn ∈ Gw := gw (i := 830) (by decide +kernel) rfl
theorem w786 : Cond.instanceMethod yX0_burn ∈ Gw := gw (i := 831) (by decide +kernel) rfl
theorem w787 : Cond.selects RX0 yX0_burn yX0_burn ∈ Gw := gw (i := 832) (by decide +kernel) rfl
theorem w788 : Cond.code yX0_burn cX0_burn 3 (some .int) ∈ Gw := gw (i := 833) (by decide +kernel) rfl
theorem w789 : Cond.methodLink RL 182 yL_why ∈ Gw := gw (i := 834) (by decide +kernel) rfl
theorem w790 : Cond.static yL_why ∈ Gw := gw (i := 835) (by decide +kernel) rfl
theorem w792 : Cond.methodLink RL 74 yX9_why ∈ Gw := gw (i := 837) (by decide +kernel) rfl
theorem w793 : Cond.instanceMethod yX9_why ∈ Gw := gw (i := 838) (by decide +kernel) rfl
theorem w794 : Cond.selects RX9 yX9_why yX9_why ∈ Gw := gw (i := 839) (by decide +kernel) rfl
theorem w795 : Cond.code yX9_why cX9_why 4 (some .int) ∈ Gw := gw (i := 840) (by decide +kernel) rfl
theorem w796 : Cond.methodLink RX9 233 yX7_first ∈ Gw := gw (i := 841) (by decide +kernel) rfl
theorem w797 : Cond.instanceMethod yX7_first ∈ Gw := gw (i := 842) (by decide +kernel) rfl
theorem w798 : Cond.selects RX7 yX7_first yX7_first ∈ Gw := gw (i := 843) (by decide +kernel) rfl
theorem w799 : Cond.code yX7_first cX7_first 4 (some .int) ∈ Gw := gw (i := 844) (by decide +kernel) rfl
theorem w800 : Cond.methodLink RX9 236 yX7_last ∈ Gw := gw (i := 845) (by decide +kernel) rfl
theorem w801 : Cond.instanceMethod yX7_last ∈ Gw := gw (i := 846) (by decide +kernel) rfl
theorem w802 : Cond.selects RX7 yX7_last yX7_last ∈ Gw := gw (i := 847) (by decide +kernel) rfl
theorem w803 : Cond.code yX7_last cX7_last 4 (some .int) ∈ Gw := gw (i := 848) (by decide +kernel) rfl
theorem w804 : Cond.methodLink RL 185 yL_birds ∈ Gw := gw (i := 849) (by decide +kernel) rfl
theorem w805 : Cond.static yL_birds ∈ Gw := gw (i := 850) (by decide +kernel) rfl
theorem w807 : Cond.methodLink RL 77 yX9_birds ∈ Gw := gw (i := 852) (by decide +kernel) rfl
theorem w808 : Cond.instanceMethod yX9_birds ∈ Gw := gw (i := 853) (by decide +kernel) rfl
theorem w809 : Cond.selects RX9 yX9_birds yX9_birds ∈ Gw := gw (i := 854) (by decide +kernel) rfl
theorem w810 : Cond.code yX9_birds cX9_birds 3 (some .int) ∈ Gw := gw (i := 855) (by decide +kernel) rfl
theorem w812 : Cond.methodLink RL 188 yL_wash ∈ Gw := gw (i := 857) (by decide +kernel) rfl
theorem w813 : Cond.static yL_wash ∈ Gw := gw (i := 858) (by decide +kernel) rfl
theorem w815 : Cond.methodLink RL 80 yX9_wash ∈ Gw := gw (i := 860) (by decide +kernel) rfl
theorem w816 : Cond.instanceMethod yX9_wash ∈ Gw := gw (i := 861) (by decide +kernel) rfl
theorem w817 : Cond.selects RX9 yX9_wash yX9_wash ∈ Gw := gw (i := 862) (by decide +kernel) rfl
theorem w818 : Cond.code yX9_wash cX9_wash 4 (some .int) ∈ Gw := gw (i := 863) (by decide +kernel) rfl
theorem w819 : Cond.methodLink RL 191 yL_sign ∈ Gw := gw (i := 864) (by decide +kernel) rfl
theorem w820 : Cond.static yL_sign ∈ Gw := gw (i := 865) (by decide +kernel) rfl
theorem w822 : Cond.methodLink RL 83 yX9_sign ∈ Gw := gw (i := 867) (by decide +kernel) rfl
theorem w823 : Cond.instanceMethod yX9_sign ∈ Gw := gw (i := 868) (by decide +kernel) rfl
theorem w824 : Cond.selects RX9 yX9_sign yX9_sign ∈ Gw := gw (i := 869) (by decide +kernel) rfl
theorem w825 : Cond.code yX9_sign cX9_sign 4 (some .boolean) ∈ Gw := gw (i := 870) (by decide +kernel) rfl
theorem w826 : Cond.methodLink RX9 241 yX2_isTooDirty ∈ Gw := gw (i := 871) (by decide +kernel) rfl
theorem w829 : Cond.methodLink RL 194 yL_site ∈ Gw := gw (i := 874) (by decide +kernel) rfl
theorem w830 : Cond.static yL_site ∈ Gw := gw (i := 875) (by decide +kernel) rfl
theorem w832 : Cond.methodLink RL 87 yX9_site ∈ Gw := gw (i := 877) (by decide +kernel) rfl
theorem w833 : Cond.instanceMethod yX9_site ∈ Gw := gw (i := 878) (by decide +kernel) rfl
theorem w834 : Cond.selects RX9 yX9_site yX9_site ∈ Gw := gw (i := 879) (by decide +kernel) rfl
theorem w835 : Cond.code yX9_site cX9_site 3 (some .int) ∈ Gw := gw (i := 880) (by decide +kernel) rfl
theorem w837 : Cond.methodLink RX9 253 yX3_addSite ∈ Gw := gw (i := 882) (by decide +kernel) rfl
theorem w838 : Cond.instanceMethod yX3_addSite ∈ Gw := gw (i := 883) (by decide +kernel) rfl
theorem w839 : Cond.selects RX3 yX3_addSite yX3_addSite ∈ Gw := gw (i := 884) (by decide +kernel) rfl
theorem w840 : Cond.code yX3_addSite cX3_addSite 4 (some .int) ∈ Gw := gw (i := 885) (by decide +kernel) rfl
theorem w841 : Cond.methodLink RL 197 yL_deliver ∈ Gw := gw (i := 886) (by decide +kernel) rfl
theorem w842 : Cond.static yL_deliver ∈ Gw := gw (i := 887) (by decide +kernel) rfl
theorem w844 : Cond.methodLink RL 90 yX9_deliver ∈ Gw := gw (i := 889) (by decide +kernel) rfl
theorem w845 : Cond.instanceMethod yX9_deliver ∈ Gw := gw (i := 890) (by decide +kernel) rfl
theorem w846 : Cond.selects RX9 yX9_deliver yX9_deliver ∈ Gw := gw (i := 891) (by decide +kernel) rfl
theorem w847 : Cond.code yX9_deliver cX9_deliver 4 (some .int) ∈ Gw := gw (i := 892) (by decide +kernel) rfl
theorem w848 : Cond.methodLink RX9 256 yX3_roomFor ∈ Gw := gw (i := 893) (by decide +kernel) rfl
theorem w849 : Cond.instanceMethod yX3_roomFor ∈ Gw := gw (i := 894) (by decide +kernel) rfl
theorem w850 : Cond.selects RX3 yX3_roomFor yX3_roomFor ∈ Gw := gw (i := 895) (by decide +kernel) rfl
theorem w851 : Cond.code yX3_roomFor cX3_roomFor 3 (some .int) ∈ Gw := gw (i := 896) (by decide +kernel) rfl
theorem w853 : Cond.methodLink RX9 261 yX3_take ∈ Gw := gw (i := 898) (by decide +kernel) rfl
theorem w854 : Cond.instanceMethod yX3_take ∈ Gw := gw (i := 899) (by decide +kernel) rfl
theorem w855 : Cond.selects RX3 yX3_take yX3_take ∈ Gw := gw (i := 900) (by decide +kernel) rfl
theorem w856 : Cond.code yX3_take cX3_take 4 (some .:) ∈ Gw := gw (i := 901) (by decide +kernel) rfl
theorem w857 : Cond.methodLink RL 200 yL_waste ∈ Gw := gw (i := 902) (by decide +kernel) rfl
theorem w858 : Cond.static yL_waste ∈ Gw := gw (i := 903) (by decide +kernel) rfl
theorem w860 : Cond.methodLink RL 93 yX9_waste ∈ Gw := gw (i := 905) (by decide +kernel) rfl
theorem w861 : Cond.instanceMethod yX9_waste ∈ Gw := gw (i := 906) (by decide +kernel) rfl
theorem w862 : Cond.selects RX9 yX9_waste yX9_waste ∈ Gw := gw (i := 907) (by decide +kernel) rfl
theorem w863 : Cond.code yX9_waste cX9_waste 2 (some .int) ∈ Gw := gw (i := 908) (by decide +kernel) rfl
theorem w864 : Cond.methodLink RL 203 yL_claim ∈ Gw := gw (i := 909) (by decide +kernel) rfl
theorem w865 : Cond.static yL_claim ∈ Gw := gw (i := 910) (by decide +kernel) rfl
theorem w867 : Cond.methodLink RL 96 yX9_claim ∈ Gw := gw (i := 912) (by decide +kernel) rfl
theorem w868 : Cond.instanceMethod yX9_claim ∈ Gw := gw (i := 913) (by decide +kernel) rfl
theorem w869 : Cond.selects RX9 yX9_claim yX9_claim ∈ Gw := gw (i := 914) (by decide +kernel) rfl
theorem w870 : Cond.code yX9_claim cX9_claim 2 (some .int) ∈ Gw := gw (i := 915) (by decide +kernel) rfl
theorem w871 : Cond.constant RX9 264 1000000 ∈ Gw := gw (i := 916) (by decide +kernel) rfl
theorem w873 : Cond.methodLink RX9 268 yX6_add ∈ Gw := gw (i := 918) (by decide +kernel) rfl
theorem w874 : Cond.instanceMethod yX6_add ∈ Gw := gw (i := 919) (by decide +kernel) rfl
theorem w875 : Cond.selects RX6 yX6_add yX6_add ∈ Gw := gw (i := 920) (by decide +kernel) rfl
theorem w876 : Cond.code yX6_add cX6_add 3 (some .int) ∈ Gw := gw (i := 921) (by decide +kernel) rfl
theorem w877 : Cond.methodLink RL 206 yL_layers ∈ Gw := gw (i := 922) (by decide +kernel) rfl
theorem w878 : Cond.static yL_layers ∈ Gw := gw (i := 923) (by decide +kernel) rfl
theorem w880 : Cond.methodLink RL 99 yX9_layers ∈ Gw := gw (i := 925) (by decide +kernel) rfl
theorem w881 : Cond.instanceMethod yX9_layers ∈ Gw := gw (i := 926) (by decide +kernel) rfl
theorem w882 : Cond.selects RX9 yX9_layers yX9_layers ∈ Gw := gw (i := 927) (by decide +kernel) rfl
theorem w883 : Cond.code yX9_layers cX9_layers 4 (some .int) ∈ Gw := gw (i := 928) (by decide +kernel) rfl
theorem w884 : Cond.constant RX9 270 10000000 ∈ Gw := gw (i := 929) (by decide +kernel) rfl
theorem w885 : Cond.methodLink RL 209 yL_due ∈ Gw := gw (i := 930) (by decide +kernel) rfl
theorem w886 : Cond.static yL_due ∈ Gw := gw (i := 931) (by decide +kernel) rfl
theorem w888 : Cond.methodLink RL 102 yX9_due ∈ Gw := gw (i := 933) (by decide +kernel) rfl
theorem w889 : Cond.instanceMethod yX9_due ∈ Gw := gw (i := 934) (by decide +kernel) rfl
theorem w890 : Cond.selects RX9 yX9_due yX9_due ∈ Gw := gw (i := 935) (by decide +kernel) rfl
theorem w891 : Cond.code yX9_due cX9_due 7 (some .int) ∈ Gw := gw (i := 936) (by decide +kernel) rfl
theorem w892 : Cond.methodLink RX9 277 yX6_getsOf ∈ Gw := gw (i := 937) (by decide +kernel) rfl
theorem w893 : Cond.instanceMethod yX6_getsOf ∈ Gw := gw (i := 938) (by decide +kernel) rfl
theorem w894 : Cond.selects RX6 yX6_getsOf yX6_getsOf ∈ Gw := gw (i := 939) (by decide +kernel) rfl
theorem w895 : Cond.code yX6_getsOf cX6_getsOf 2 (some .long) ∈ Gw := gw (i := 940) (by decide +kernel) rfl
theorem w896 : Cond.methodLink RX6 35 yX6_allGet ∈ Gw := gw (i := 941) (by decide +kernel) rfl
theorem w898 : Cond.instanceMethod yX6_allGet ∈ Gw := gw (i := 943) (by decide +kernel) rfl
theorem w899 : Cond.code yX6_allGet cX6_allGet 1 (some .long) ∈ Gw := gw (i := 944) (by decide +kernel) rfl
theorem w900 : Cond.methodLink RX6 29 Lib.MathLoose.min_long.x ∈ Gw := gw (i := 945) (by decide +kernel) rfl
theorem w901 : Cond.static Lib.MathLoose.min_long.x ∈ Gw := gw (i := 946) (by decide +kernel) rfl
theorem w902 : Cond.code Lib.MathLoose.min_long.x Lib.MathLoose.min_long.code 4 (some .long) ∈ Gw := gw (i := 947) (by decide +kernel) rfl
theorem w903 : Cond.methodLink RX9 281 yX6_ownersPartOf ∈ Gw := gw (i := 948) (by decide +kernel) rfl
theorem w904 : Cond.instanceMethod yX6_ownersPartOf ∈ Gw := gw (i := 949) (by decide +kernel) rfl
theorem w905 : Cond.selects RX6 yX6_ownersPartOf yX6_ownersPartOf ∈ Gw := gw (i := 950) (by decide +kernel) rfl
theorem w906 : Cond.code yX6_ownersPartOf cX6_ownersPartOf 5 (some .long) ∈ Gw := gw (i := 951) (by decide +kernel) rfl
theorem w907 : Cond.methodLink RL 212 yL_ahead ∈ Gw := gw (i := 952) (by decide +kernel) rfl
theorem w908 : Cond.static yL_ahead ∈ Gw := gw (i := 953) (by decide +kernel) rfl
theorem w910 : Cond.methodLink RL 105 yX9_ahead ∈ Gw := gw (i := 955) (by decide +kernel) rfl
theorem w911 : Cond.instanceMethod yX9_ahead ∈ Gw := gw (i := 956) (by decide +kernel) rfl
theorem w912 : Cond.selects RX9 yX9_ahead yX9_ahead ∈ Gw := gw (i := 957) (by decide +kernel) rfl
theorem w913 : Cond.code yX9_ahead cX9_ahead 3 (some .int) ∈ Gw := gw (i := 958) (by decide +kernel) rfl
theorem w914 : Cond.methodLink RX9 285 yX0_becomeLike ∈ Gw := gw (i := 959) (by decide +kernel) rfl
theorem w915 : Cond.instanceMethod yX0_becomeLike ∈ Gw := gw (i := 960) (by decide +kernel) rfl
theorem w916 : Cond.selects RX0 yX0_becomeLike yX0_becomeLike ∈ Gw := gw (i := 961) (by decide +kernel) rfl
theorem w917 : Cond.code yX0_becomeLike cX0_becomeLike 2 (some .:) ∈ Gw := gw (i := 962) (by decide +kernel) rfl
theorem w918 : Cond.methodLink RX0 50 yX2_becomeLike ∈ Gw := gw (i := 963) (by decide +kernel) rfl
theorem w919 : Cond.instanceMethod yX2_becomeLike ∈ Gw := gw (i := 964) (by decide +kernel) rfl
theorem w920 : Cond.selects RX2 yX2_becomeLike yX2_becomeLike ∈ Gw := gw (i := 965) (by decide +kernel) rfl
theorem w921 : Cond.code yX2_becomeLike cX2_becomeLike 2 (some .:) ∈ Gw := gw (i := 966) (by decide +kernel) rfl
theorem w922 : Cond.methodLink RX2 67 arraycopyName ∈ Gw := gw (i := 967) (by decide +kernel) rfl
theorem w923 : Cond.static arraycopyName ∈ Gw := gw (i := 968) (by decide +kernel) rfl
theorem w924 : Cond.native arraycopyName ∈ Gw := gw (i := 969) (by decide +kernel) rfl
theorem w925 : Cond.methodLink RX0 54 yX8_becomeLike ∈ Gw := gw (i := 970) (by decide +kernel) rfl
theorem w926 : Cond.instanceMethod yX8_becomeLike ∈ Gw := gw (i := 971) (by decide +kernel) rfl
theorem w927 : Cond.selects RX8 yX8_becomeLike yX8_becomeLike ∈ Gw := gw (i := 972) (by decide +kernel) rfl
theorem w928 : Cond.code yX8_becomeLike cX8_becomeLike 2 (some .:) ∈ Gw := gw (i := 973) (by decide +kernel) rfl
theorem w929 : Cond.methodLink RX8 31 arraycopyName ∈ Gw := gw (i := 974) (by decide +kernel) rfl
theorem w930 : Cond.methodLink RX0 57 yX4_becomeLike ∈ Gw := gw (i := 975) (by decide +kernel) rfl
theorem w931 : Cond.instanceMethod yX4_becomeLike ∈ Gw := gw (i := 976) (by decide +kernel) rfl
theorem w932 : Cond.selects RX4 yX4_becomeLike yX4_becomeLike ∈ Gw := gw (i := 977) (by decide +kernel) rfl
theorem w933 : Cond.code yX4_becomeLike cX4_becomeLike 2 (some .:) ∈ Gw := gw (i := 978) (by decide +kernel) rfl
theorem w934 : Cond.methodLink RX4 63 arraycopyName ∈ Gw := gw (i := 979) (by decide +kernel) rfl
theorem w935 : Cond.methodLink RX9 288 yX2_oilOf ∈ Gw := gw (i := 980) (by decide +kernel) rfl
theorem w936 : Cond.instanceMethod yX2_oilOf ∈ Gw := gw (i := 981) (by decide +kernel) rfl
theorem w937 : Cond.selects RX2 yX2_oilOf yX2_oilOf ∈ Gw := gw (i := 982) (by decide +kernel) rfl
theorem w938 : Cond.code yX2_oilOf cX2_oilOf 2 (some .int) ∈ Gw := gw (i := 983) (by decide +kernel) rfl
theorem w939 : Cond.methodLink RL 215 yL_nextAnew ∈ Gw := gw (i := 984) (by decide +kernel) rfl
theorem w940 : Cond.static yL_nextAnew ∈ Gw := gw (i := 985) (by decide +kernel) rfl
theorem w942 : Cond.methodLink RL 108 yX9_nextAnew ∈ Gw := gw (i := 987) (by decide +kernel) rfl
theorem w943 : Cond.instanceMethod yX9_nextAnew ∈ Gw := gw (i := 988) (by decide +kernel) rfl
theorem w944 : Cond.selects RX9 yX9_nextAnew yX9_nextAnew ∈ Gw := gw (i := 989) (by decide +kernel) rfl
theorem w945 : Cond.code yX9_nextAnew cX9_nextAnew 2 (some .int) ∈ Gw := gw (i := 990) (by decide +kernel) rfl
theorem w946 : Cond.methodLink RX9 294 yX5_floatingOf ∈ Gw := gw (i := 991) (by decide +kernel) rfl
theorem w947 : Cond.instanceMethod yX5_floatingOf ∈ Gw := gw (i := 992) (by decide +kernel) rfl
theorem w948 : Cond.selects RX5 yX5_floatingOf yX5_floatingOf ∈ Gw := gw (i := 993) (by decide +kernel) rfl
theorem w949 : Cond.code yX5_floatingOf cX5_floatingOf 6 (some .int) ∈ Gw := gw (i := 994) (by decide +kernel) rfl
theorem w950 : Cond.methodLink RX5 15 yX5_weigh ∈ Gw := gw (i := 995) (by decide +kernel) rfl
theorem w952 : Cond.instanceMethod yX5_weigh ∈ Gw := gw (i := 997) (by decide +kernel) rfl
theorem w953 : Cond.code yX5_weigh cX5_weigh 8 (some .:) ∈ Gw := gw (i := 998) (by decide +kernel) rfl
theorem w954 : Cond.methodLink RX5 78 yX5_leaksInto ∈ Gw := gw (i := 999) (by decide +kernel) rfl
theorem w956 : Cond.instanceMethod yX5_leaksInto ∈ Gw := gw (i := 1001) (by decide +kernel) rfl
theorem w957 : Cond.code yX5_leaksInto cX5_leaksInto 5 (some .int) ∈ Gw := gw (i := 1002) (by decide +kernel) rfl
theorem w958 : Cond.methodLink RX5 71 yX0_tideOf ∈ Gw := gw (i := 1003) (by decide +kernel) rfl
theorem w959 : Cond.methodLink RX5 120 yX8_leakOf ∈ Gw := gw (i := 1004) (by decide +kernel) rfl
theorem w960 : Cond.methodLink RX5 91 yX4_boomOn ∈ Gw := gw (i := 1005) (by decide +kernel) rfl
theorem w961 : Cond.methodLink RX5 102 yX0_roomBehind ∈ Gw := gw (i := 1006) (by decide +kernel) rfl
theorem w962 : Cond.methodLink RX5 105 yX0_blown ∈ Gw := gw (i := 1007) (by decide +kernel) rfl
theorem w963 : Cond.methodLink RX5 32 yX5_waterAgainstWind ∈ Gw := gw (i := 1008) (by decide +kernel) rfl
theorem w965 : Cond.instanceMethod yX5_waterAgainstWind ∈ Gw := gw (i := 1010) (by decide +kernel) rfl
theorem w966 : Cond.code yX5_waterAgainstWind cX5_waterAgainstWind 3 (some .int) ∈ Gw := gw (i := 1011) (by decide +kernel) rfl
theorem w967 : Cond.methodLink RX5 123 yX2_opposite ∈ Gw := gw (i := 1012) (by decide +kernel) rfl
theorem w968 : Cond.methodLink RX5 36 yX2_beside ∈ Gw := gw (i := 1013) (by decide +kernel) rfl
theorem w969 : Cond.methodLink RX5 126 yX2_isWater ∈ Gw := gw (i := 1014) (by decide +kernel) rfl
theorem w970 : Cond.methodLink RX5 42 yX5_givenBackTo ∈ Gw := gw (i := 1015) (by decide +kernel) rfl
theorem w972 : Cond.instanceMethod yX5_givenBackTo ∈ Gw := gw (i := 1017) (by decide +kernel) rfl
theorem w973 : Cond.code yX5_givenBackTo cX5_givenBackTo 3 (some .int) ∈ Gw := gw (i := 1018) (by decide +kernel) rfl
theorem w974 : Cond.methodLink RX5 52 yX5_isHighTide ∈ Gw := gw (i := 1019) (by decide +kernel) rfl
theorem w976 : Cond.instanceMethod yX5_isHighTide ∈ Gw := gw (i := 1021) (by decide +kernel) rfl
theorem w977 : Cond.code yX5_isHighTide cX5_isHighTide 1 (some .boolean) ∈ Gw := gw (i := 1022) (by decide +kernel) rfl
theorem w978 : Cond.methodLink RX5 62 yX2_lowestWaterBeside ∈ Gw := gw (i := 1023) (by decide +kernel) rfl
theorem w979 : Cond.methodLink RX5 49 yX5_landedOn ∈ Gw := gw (i := 1024) (by decide +kernel) rfl
theorem w981 : Cond.instanceMethod yX5_landedOn ∈ Gw := gw (i := 1026) (by decide +kernel) rfl
theorem w982 : Cond.code yX5_landedOn cX5_landedOn 4 (some .int) ∈ Gw := gw (i := 1027) (by decide +kernel) rfl
theorem w983 : Cond.methodLink RX5 65 yX2_backOf ∈ Gw := gw (i := 1028) (by decide +kernel) rfl
theorem w984 : Cond.methodLink RX5 45 yX5_leftBySkimmers ∈ Gw := gw (i := 1029) (by decide +kernel) rfl
theorem w986 : Cond.instanceMethod yX5_leftBySkimmers ∈ Gw := gw (i := 1031) (by decide +kernel) rfl
theorem w987 : Cond.code yX5_leftBySkimmers cX5_leftBySkimmers 8 (some .int) ∈ Gw := gw (i := 1032) (by decide +kernel) rfl
theorem w988 : Cond.methodLink RX5 134 yX4_isSkimmer ∈ Gw := gw (i := 1033) (by decide +kernel) rfl
theorem w989 : Cond.methodLink RX5 138 yX4_freshTaken ∈ Gw := gw (i := 1034) (by decide +kernel) rfl
theorem w990 : Cond.methodLink RX5 141 yX4_thickTaken ∈ Gw := gw (i := 1035) (by decide +kernel) rfl
theorem w991 : Cond.methodLink RX9 297 yX5_strandedOf ∈ Gw := gw (i := 1036) (by decide +kernel) rfl
theorem w992 : Cond.instanceMethod yX5_strandedOf ∈ Gw := gw (i := 1037) (by decide +kernel) rfl
theorem w993 : Cond.selects RX5 yX5_strandedOf yX5_strandedOf ∈ Gw := gw (i := 1038) (by decide +kernel) rfl
theorem w994 : Cond.code yX5_strandedOf cX5_strandedOf 4 (some .int) ∈ Gw := gw (i := 1039) (by decide +kernel) rfl
theorem w995 : Cond.methodLink RL 218 yL_sum ∈ Gw := gw (i := 1040) (by decide +kernel) rfl
theorem w996 : Cond.static yL_sum ∈ Gw := gw (i := 1041) (by decide +kernel) rfl
theorem w998 : Cond.methodLink RL 111 yX9_sum ∈ Gw := gw (i := 1043) (by decide +kernel) rfl
theorem w999 : Cond.instanceMethod yX9_sum ∈ Gw := gw (i := 1044) (by decide +kernel) rfl
theorem w1000 : Cond.selects RX9 yX9_sum yX9_sum ∈ Gw := gw (i := 1045) (by decide +kernel) rfl
theorem w1001 : Cond.code yX9_sum cX9_sum 3 (some .int) ∈ Gw := gw (i := 1046) (by decide +kernel) rfl
theorem w1002 : Cond.methodLink RX9 309 yX8_allLitres ∈ Gw := gw (i := 1047) (by decide +kernel) rfl
theorem w1003 : Cond.instanceMethod yX8_allLitres ∈ Gw := gw (i := 1048) (by decide +kernel) rfl
theorem w1004 : Cond.selects RX8 yX8_allLitres yX8_allLitres ∈ Gw := gw (i := 1049) (by decide +kernel) rfl
theorem w1005 : Cond.code yX8_allLitres cX8_allLitres 3 (some .int) ∈ Gw := gw (i := 1050) (by decide +kernel) rfl
theorem w1006 : Cond.methodLink RX9 313 yX2_allFloating ∈ Gw := gw (i := 1051) (by decide +kernel) rfl
theorem w1007 : Cond.instanceMethod yX2_allFloating ∈ Gw := gw (i := 1052) (by decide +kernel) rfl
theorem w1008 : Cond.selects RX2 yX2_allFloating yX2_allFloating ∈ Gw := gw (i := 1053) (by decide +kernel) rfl
theorem w1009 : Cond.code yX2_allFloating cX2_allFloating 3 (some .int) ∈ Gw := gw (i := 1054) (by decide +kernel) rfl
theorem w1010 : Cond.methodLink RX9 325 yX2_allStranded ∈ Gw := gw (i := 1055) (by decide +kernel) rfl
theorem w1011 : Cond.instanceMethod yX2_allStranded ∈ Gw := gw (i := 1056) (by decide +kernel) rfl
theorem w1012 : Cond.selects RX2 yX2_allStranded yX2_allStranded ∈ Gw := gw (i := 1057) (by decide +kernel) rfl
theorem w1013 : Cond.code yX2_allStranded cX2_allStranded 3 (some .int) ∈ Gw := gw (i := 1058) (by decide +kernel) rfl
theorem w1014 : Cond.methodLink RX9 328 yX4_allInStores ∈ Gw := gw (i := 1059) (by decide +kernel) rfl
theorem w1015 : Cond.instanceMethod yX4_allInStores ∈ Gw := gw (i := 1060) (by decide +kernel) rfl
theorem w1016 : Cond.selects RX4 yX4_allInStores yX4_allInStores ∈ Gw := gw (i := 1061) (by decide +kernel) rfl
theorem w1017 : Cond.code yX4_allInStores cX4_allInStores 3 (some .int) ∈ Gw := gw (i := 1062) (by decide +kernel) rfl
theorem w1018 : Cond.methodLink RX9 337 yX3_allWaste ∈ Gw := gw (i := 1063) (by decide +kernel) rfl
theorem w1019 : Cond.instanceMethod yX3_allWaste ∈ Gw := gw (i := 1064) (by decide +kernel) rfl
theorem w1020 : Cond.selects RX3 yX3_allWaste yX3_allWaste ∈ Gw := gw (i := 1065) (by decide +kernel) rfl
theorem w1021 : Cond.code yX3_allWaste cX3_allWaste 1 (some .int) ∈ Gw := gw (i := 1066) (by decide +kernel) rfl
theorem w1022 : Cond.classLink RL 115 RX10 ∈ Gw := gw (i := 1067) (by decide +kernel) rfl
theorem w1023 : Cond.instantiable RX10 29 ∈ Gw := gw (i := 1068) (by decide +kernel) rfl
theorem w1024 : Cond.methodLink RL 117 yX10_init ∈ Gw := gw (i := 1069) (by decide +kernel) rfl
theorem w1025 : Cond.instanceMethod yX10_init ∈ Gw := gw (i := 1070) (by decide +kernel) rfl
theorem w1026 : Cond.code yX10_init cX10_init 2 (some .:) ∈ Gw := gw (i := 1071) (by decide +kernel) rfl
theorem w1027 : Cond.methodLink RX10 1 objectInit ∈ Gw := gw (i := 1072) (by decide +kernel) rfl
theorem w1028 : Cond.fieldLink RX10 7 RX10 "now" "[I" ∈ Gw := gw (i := 1073) (by decide +kernel) rfl
theorem w1029 : Cond.fieldLink RX10 13 RX10 "kept" "[I" ∈ Gw := gw (i := 1074) (by decide +kernel) rfl
theorem w1030 : Cond.fieldLink RX10 16 RX10 "kind" "[I" ∈ Gw := gw (i := 1075) (by decide +kernel) rfl
theorem w1031 : Cond.fieldLink RX10 19 RX10 "depth" "[I" ∈ Gw := gw (i := 1076) (by decide +kernel) rfl
theorem w1032 : Cond.fieldLink RX10 22 RX10 "going" "[I" ∈ Gw := gw (i := 1077) (by decide +kernel) rfl
theorem w1033 : Cond.fieldLink RX10 91 RX10 "way" "I" ∈ Gw := gw (i := 1078) (by decide +kernel) rfl
theorem w1034 : Cond.fieldLink RX10 94 RX10 "strength" "I" ∈ Gw := gw (i := 1079) (by decide +kernel) rfl
theorem w1035 : Cond.fieldLink RX10 70 RX10 "ships" "I" ∈ Gw := gw (i := 1080) (by decide +kernel) rfl
theorem w1036 : Cond.fieldLink RX10 25 RX10 "shipCell" "[I" ∈ Gw := gw (i := 1081) (by decide +kernel) rfl
theorem w1037 : Cond.fieldLink RX10 28 RX10 "rate" "[I" ∈ Gw := gw (i := 1082) (by decide +kernel) rfl
theorem w1038 : Cond.fieldLink RX10 73 RX10 "means" "I" ∈ Gw := gw (i := 1083) (by decide +kernel) rfl
theorem w1039 : Cond.fieldLink RX10 31 RX10 "sort" "[I" ∈ Gw := gw (i := 1084) (by decide +kernel) rfl
theorem w1040 : Cond.fieldLink RX10 34 RX10 "meanCell" "[I" ∈ Gw := gw (i := 1085) (by decide +kernel) rfl
theorem w1041 : Cond.fieldLink RX10 37 RX10 "border" "[I" ∈ Gw := gw (i := 1086) (by decide +kernel) rfl
theorem w1042 : Cond.fieldLink RX10 40 RX10 "force" "[I" ∈ Gw := gw (i := 1087) (by decide +kernel) rfl
theorem w1043 : Cond.fieldLink RX10 43 RX10 "store" "[I" ∈ Gw := gw (i := 1088) (by decide +kernel) rfl
theorem w1044 : Cond.fieldLink RX10 46 RX10 "taught" "[Z" ∈ Gw := gw (i := 1089) (by decide +kernel) rfl
theorem w1045 : Cond.fieldLink RX10 50 RX10 "last" "[I" ∈ Gw := gw (i := 1090) (by decide +kernel) rfl
theorem w1046 : Cond.fieldLink RX10 159 RX10 "deep" "I" ∈ Gw := gw (i := 1091) (by decide +kernel) rfl
theorem w1047 : Cond.fieldLink RX10 162 RX10 "burnt" "I" ∈ Gw := gw (i := 1092) (by decide +kernel) rfl
theorem w1048 : Cond.fieldLink RX10 53 RX10 "waste" "[I" ∈ Gw := gw (i := 1093) (by decide +kernel) rfl
theorem w1049 : Cond.fieldLink RX10 168 RX10 "delivered" "I" ∈ Gw := gw (i := 1094) (by decide +kernel) rfl
theorem w1050 : Cond.fieldLink RX10 165 RX10 "sites" "I" ∈ Gw := gw (i := 1095) (by decide +kernel) rfl
theorem w1051 : Cond.fieldLink RX10 56 RX10 "room" "[I" ∈ Gw := gw (i := 1096) (by decide +kernel) rfl
theorem w1052 : Cond.fieldLink RX10 172 RX10 "claims" "I" ∈ Gw := gw (i := 1097) (by decide +kernel) rfl
theorem w1053 : Cond.fieldLink RX10 59 RX10 "cents" "[I" ∈ Gw := gw (i := 1098) (by decide +kernel) rfl
theorem w1054 : Cond.fieldLink RX10 176 RX10 "owner" "I" ∈ Gw := gw (i := 1099) (by decide +kernel) rfl
theorem w1055 : Cond.fieldLink RX10 179 RX10 "fund" "I" ∈ Gw := gw (i := 1100) (by decide +kernel) rfl
theorem w1056 : Cond.fieldLink RX10 62 RX10 "thrown" "I" ∈ Gw := gw (i := 1101) (by decide +kernel) rfl
theorem w1116 : Cond.methodLink RL 124 yX10_thrown ∈ Gw := gw (i := 1161) (by decide +kernel) rfl
theorem w1117 : Cond.instanceMethod yX10_thrown ∈ Gw := gw (i := 1162) (by decide +kernel) rfl
theorem w1118 : Cond.selects RX10 yX10_thrown yX10_thrown ∈ Gw := gw (i := 1163) (by decide +kernel) rfl
theorem w1119 : Cond.code yX10_thrown cX10_thrown 1 (some .int) ∈ Gw := gw (i := 1164) (by decide +kernel) rfl
theorem w1120 : Cond.methodLink RL 123 yX10_shore ∈ Gw := gw (i := 1165) (by decide +kernel) rfl
theorem w1121 : Cond.instanceMethod yX10_shore ∈ Gw := gw (i := 1166) (by decide +kernel) rfl
theorem w1122 : Cond.selects RX10 yX10_shore yX10_shore ∈ Gw := gw (i := 1167) (by decide +kernel) rfl
theorem w1123 : Cond.code yX10_shore cX10_shore 5 (some .int) ∈ Gw := gw (i := 1168) (by decide +kernel) rfl
theorem w1124 : Cond.methodLink RX10 76 yX10_isCell ∈ Gw := gw (i := 1169) (by decide +kernel) rfl
theorem w1125 : Cond.static yX10_isCell ∈ Gw := gw (i := 1170) (by decide +kernel) rfl
theorem w1126 : Cond.code yX10_isCell cX10_isCell 1 (some .boolean) ∈ Gw := gw (i := 1171) (by decide +kernel) rfl
theorem w1127 : Cond.methodLink RX10 66 yX10_in ∈ Gw := gw (i := 1172) (by decide +kernel) rfl
theorem w1128 : Cond.static yX10_in ∈ Gw := gw (i := 1173) (by decide +kernel) rfl
theorem w1129 : Cond.code yX10_in cX10_in 3 (some .boolean) ∈ Gw := gw (i := 1174) (by decide +kernel) rfl
theorem w1130 : Cond.methodLink RX10 131 yX10_fails ∈ Gw := gw (i := 1175) (by decide +kernel) rfl
theorem w1132 : Cond.instanceMethod yX10_fails ∈ Gw := gw (i := 1177) (by decide +kernel) rfl
theorem w1133 : Cond.code yX10_fails cX10_fails 3 (some .boolean) ∈ Gw := gw (i := 1178) (by decide +kernel) rfl
theorem w1134 : Cond.methodLink RL 130 yX10_depth ∈ Gw := gw (i := 1179) (by decide +kernel) rfl
theorem w1135 : Cond.instanceMethod yX10_depth ∈ Gw := gw (i := 1180) (by decide +kernel) rfl
theorem w1136 : Cond.selects RX10 yX10_depth yX10_depth ∈ Gw := gw (i := 1181) (by decide +kernel) rfl
theorem w1137 : Cond.code yX10_depth cX10_depth 4 (some .int) ∈ Gw := gw (i := 1182) (by decide +kernel) rfl
theorem w1138 : Cond.methodLink RL 133 yX10_wind ∈ Gw := gw (i := 1183) (by decide +kernel) rfl
theorem w1139 : Cond.instanceMethod yX10_wind ∈ Gw := gw (i := 1184) (by decide +kernel) rfl
theorem w1140 : Cond.selects RX10 yX10_wind yX10_wind ∈ Gw := gw (i := 1185) (by decide +kernel) rfl
theorem w1141 : Cond.code yX10_wind cX10_wind 4 (some .int) ∈ Gw := gw (i := 1186) (by decide +kernel) rfl
theorem w1142 : Cond.methodLink RL 136 yX10_ship ∈ Gw := gw (i := 1187) (by decide +kernel) rfl
theorem w1143 : Cond.instanceMethod yX10_ship ∈ Gw := gw (i := 1188) (by decide +kernel) rfl
theorem w1144 : Cond.selects RX10 yX10_ship yX10_ship ∈ Gw := gw (i := 1189) (by decide +kernel) rfl
theorem w1145 : Cond.code yX10_ship cX10_ship 3 (some .int) ∈ Gw := gw (i := 1190) (by decide +kernel) rfl
theorem w1146 : Cond.constant RX10 135 100000 ∈ Gw := gw (i := 1191) (by decide +kernel) rfl
theorem w1147 : Cond.methodLink RL 139 yX10_hole ∈ Gw := gw (i := 1192) (by decide +kernel) rfl
theorem w1148 : Cond.instanceMethod yX10_hole ∈ Gw := gw (i := 1193) (by decide +kernel) rfl
theorem w1149 : Cond.selects RX10 yX10_hole yX10_hole ∈ Gw := gw (i := 1194) (by decide +kernel) rfl
theorem w1150 : Cond.code yX10_hole cX10_hole 4 (some .int) ∈ Gw := gw (i := 1195) (by decide +kernel) rfl
theorem w1151 : Cond.methodLink RX10 136 yX10_isShip ∈ Gw := gw (i := 1196) (by decide +kernel) rfl
theorem w1153 : Cond.instanceMethod yX10_isShip ∈ Gw := gw (i := 1198) (by decide +kernel) rfl
theorem w1154 : Cond.code yX10_isShip cX10_isShip 2 (some .boolean) ∈ Gw := gw (i := 1199) (by decide +kernel) rfl
theorem w1155 : Cond.methodLink RL 143 yX10_pump ∈ Gw := gw (i := 1200) (by decide +kernel) rfl
theorem w1156 : Cond.instanceMethod yX10_pump ∈ Gw := gw (i := 1201) (by decide +kernel) rfl
theorem w1157 : Cond.selects RX10 yX10_pump yX10_pump ∈ Gw := gw (i := 1202) (by decide +kernel) rfl
theorem w1158 : Cond.code yX10_pump cX10_pump 4 (some .int) ∈ Gw := gw (i := 1203) (by decide +kernel) rfl
theorem w1159 : Cond.methodLink RL 147 yX10_shipHas ∈ Gw := gw (i := 1204) (by decide +kernel) rfl
theorem w1160 : Cond.instanceMethod yX10_shipHas ∈ Gw := gw (i := 1205) (by decide +kernel) rfl
theorem w1161 : Cond.selects RX10 yX10_shipHas yX10_shipHas ∈ Gw := gw (i := 1206) (by decide +kernel) rfl
theorem w1162 : Cond.code yX10_shipHas cX10_shipHas 2 (some .int) ∈ Gw := gw (i := 1207) (by decide +kernel) rfl
theorem w1163 : Cond.methodLink RL 150 yX10_pass ∈ Gw := gw (i := 1208) (by decide +kernel) rfl
theorem w1164 : Cond.instanceMethod yX10_pass ∈ Gw := gw (i := 1209) (by decide +kernel) rfl
theorem w1165 : Cond.selects RX10 yX10_pass yX10_pass ∈ Gw := gw (i := 1210) (by decide +kernel) rfl
theorem w1166 : Cond.code yX10_pass cX10_pass 3 (some .int) ∈ Gw := gw (i := 1211) (by decide +kernel) rfl
theorem w1167 : Cond.methodLink RX10 139 yX10_hour ∈ Gw := gw (i := 1212) (by decide +kernel) rfl
theorem w1169 : Cond.instanceMethod yX10_hour ∈ Gw := gw (i := 1214) (by decide +kernel) rfl
theorem w1170 : Cond.code yX10_hour cX10_hour 4 (some .:) ∈ Gw := gw (i := 1215) (by decide +kernel) rfl
theorem w1171 : Cond.methodLink RX10 106 yX10_leak ∈ Gw := gw (i := 1216) (by decide +kernel) rfl
theorem w1173 : Cond.instanceMethod yX10_leak ∈ Gw := gw (i := 1218) (by decide +kernel) rfl
theorem w1174 : Cond.code yX10_leak cX10_leak 4 (some .int) ∈ Gw := gw (i := 1219) (by decide +kernel) rfl
theorem w1175 : Cond.methodLink RX10 84 yX10_tide ∈ Gw := gw (i := 1220) (by decide +kernel) rfl
theorem w1176 : Cond.static yX10_tide ∈ Gw := gw (i := 1221) (by decide +kernel) rfl
theorem w1177 : Cond.code yX10_tide cX10_tide 2 (some .int) ∈ Gw := gw (i := 1222) (by decide +kernel) rfl
theorem w1178 : Cond.methodLink RX10 88 yX10_least ∈ Gw := gw (i := 1223) (by decide +kernel) rfl
theorem w1179 : Cond.static yX10_least ∈ Gw := gw (i := 1224) (by decide +kernel) rfl
theorem w1180 : Cond.code yX10_least cX10_least 2 (some .int) ∈ Gw := gw (i := 1225) (by decide +kernel) rfl
theorem w1181 : Cond.methodLink RX10 109 yX10_weather ∈ Gw := gw (i := 1226) (by decide +kernel) rfl
theorem w1183 : Cond.instanceMethod yX10_weather ∈ Gw := gw (i := 1228) (by decide +kernel) rfl
theorem w1184 : Cond.code yX10_weather cX10_weather 5 (some .:) ∈ Gw := gw (i := 1229) (by decide +kernel) rfl
theorem w1185 : Cond.methodLink RX10 113 yX10_look ∈ Gw := gw (i := 1230) (by decide +kernel) rfl
theorem w1187 : Cond.instanceMethod yX10_look ∈ Gw := gw (i := 1232) (by decide +kernel) rfl
theorem w1188 : Cond.code yX10_look cX10_look 7 (some .:) ∈ Gw := gw (i := 1233) (by decide +kernel) rfl
theorem w1189 : Cond.methodLink RX10 80 yX10_beside ∈ Gw := gw (i := 1234) (by decide +kernel) rfl
theorem w1190 : Cond.static yX10_beside ∈ Gw := gw (i := 1235) (by decide +kernel) rfl
theorem w1191 : Cond.code yX10_beside cX10_beside 3 (some .int) ∈ Gw := gw (i := 1236) (by decide +kernel) rfl
theorem w1192 : Cond.methodLink RX10 97 yX10_holds ∈ Gw := gw (i := 1237) (by decide +kernel) rfl
theorem w1194 : Cond.instanceMethod yX10_holds ∈ Gw := gw (i := 1239) (by decide +kernel) rfl
theorem w1195 : Cond.code yX10_holds cX10_holds 2 (some .int) ∈ Gw := gw (i := 1240) (by decide +kernel) rfl
theorem w1196 : Cond.methodLink RX10 100 yX10_borderOf ∈ Gw := gw (i := 1241) (by decide +kernel) rfl
theorem w1197 : Cond.static yX10_borderOf ∈ Gw := gw (i := 1242) (by decide +kernel) rfl
theorem w1198 : Cond.code yX10_borderOf cX10_borderOf 3 (some .int) ∈ Gw := gw (i := 1243) (by decide +kernel) rfl
theorem w1199 : Cond.methodLink RX10 103 yX10_boomOn ∈ Gw := gw (i := 1244) (by decide +kernel) rfl
theorem w1201 : Cond.instanceMethod yX10_boomOn ∈ Gw := gw (i := 1246) (by decide +kernel) rfl
theorem w1202 : Cond.code yX10_boomOn cX10_boomOn 3 (some .int) ∈ Gw := gw (i := 1247) (by decide +kernel) rfl
theorem w1203 : Cond.methodLink RX10 116 yX10_drift ∈ Gw := gw (i := 1248) (by decide +kernel) rfl
theorem w1205 : Cond.instanceMethod yX10_drift ∈ Gw := gw (i := 1250) (by decide +kernel) rfl
theorem w1206 : Cond.code yX10_drift cX10_drift 5 (some .:) ∈ Gw := gw (i := 1251) (by decide +kernel) rfl
theorem w1207 : Cond.methodLink RX10 119 yX10_lowestWater ∈ Gw := gw (i := 1252) (by decide +kernel) rfl
theorem w1209 : Cond.instanceMethod yX10_lowestWater ∈ Gw := gw (i := 1254) (by decide +kernel) rfl
theorem w1210 : Cond.code yX10_lowestWater cX10_lowestWater 5 (some .int) ∈ Gw := gw (i := 1255) (by decide +kernel) rfl
theorem w1211 : Cond.methodLink RX10 122 yX10_back ∈ Gw := gw (i := 1256) (by decide +kernel) rfl
theorem w1213 : Cond.instanceMethod yX10_back ∈ Gw := gw (i := 1258) (by decide +kernel) rfl
theorem w1214 : Cond.code yX10_back cX10_back 3 (some .int) ∈ Gw := gw (i := 1259) (by decide +kernel) rfl
theorem w1215 : Cond.methodLink RX10 125 yX10_skim ∈ Gw := gw (i := 1260) (by decide +kernel) rfl
theorem w1217 : Cond.instanceMethod yX10_skim ∈ Gw := gw (i := 1262) (by decide +kernel) rfl
theorem w1218 : Cond.code yX10_skim cX10_skim 6 (some .:) ∈ Gw := gw (i := 1263) (by decide +kernel) rfl
theorem w1219 : Cond.methodLink RX10 128 yX10_suffer ∈ Gw := gw (i := 1264) (by decide +kernel) rfl
theorem w1221 : Cond.instanceMethod yX10_suffer ∈ Gw := gw (i := 1266) (by decide +kernel) rfl
theorem w1222 : Cond.code yX10_suffer cX10_suffer 4 (some .:) ∈ Gw := gw (i := 1267) (by decide +kernel) rfl
theorem w1223 : Cond.methodLink RL 153 yX10_at ∈ Gw := gw (i := 1268) (by decide +kernel) rfl
theorem w1224 : Cond.instanceMethod yX10_at ∈ Gw := gw (i := 1269) (by decide +kernel) rfl
theorem w1225 : Cond.selects RX10 yX10_at yX10_at ∈ Gw := gw (i := 1270) (by decide +kernel) rfl
theorem w1226 : Cond.code yX10_at cX10_at 3 (some .int) ∈ Gw := gw (i := 1271) (by decide +kernel) rfl
theorem w1227 : Cond.methodLink RX10 142 yX10_signatures ∈ Gw := gw (i := 1272) (by decide +kernel) rfl
theorem w1229 : Cond.instanceMethod yX10_signatures ∈ Gw := gw (i := 1274) (by decide +kernel) rfl
theorem w1230 : Cond.code yX10_signatures cX10_signatures 3 (some .int) ∈ Gw := gw (i := 1275) (by decide +kernel) rfl
theorem w1231 : Cond.methodLink RL 156 yX10_boom ∈ Gw := gw (i := 1276) (by decide +kernel) rfl
theorem w1232 : Cond.instanceMethod yX10_boom ∈ Gw := gw (i := 1277) (by decide +kernel) rfl
theorem w1233 : Cond.selects RX10 yX10_boom yX10_boom ∈ Gw := gw (i := 1278) (by decide +kernel) rfl
theorem w1234 : Cond.code yX10_boom cX10_boom 5 (some .int) ∈ Gw := gw (i := 1279) (by decide +kernel) rfl
theorem w1235 : Cond.methodLink RX10 145 yX10_mean ∈ Gw := gw (i := 1280) (by decide +kernel) rfl
theorem w1237 : Cond.instanceMethod yX10_mean ∈ Gw := gw (i := 1282) (by decide +kernel) rfl
theorem w1238 : Cond.code yX10_mean cX10_mean 5 (some .int) ∈ Gw := gw (i := 1283) (by decide +kernel) rfl
theorem w1239 : Cond.methodLink RL 159 yX10_skimmer ∈ Gw := gw (i := 1284) (by decide +kernel) rfl
theorem w1240 : Cond.instanceMethod yX10_skimmer ∈ Gw := gw (i := 1285) (by decide +kernel) rfl
theorem w1241 : Cond.selects RX10 yX10_skimmer yX10_skimmer ∈ Gw := gw (i := 1286) (by decide +kernel) rfl
theorem w1242 : Cond.code yX10_skimmer cX10_skimmer 4 (some .int) ∈ Gw := gw (i := 1287) (by decide +kernel) rfl
theorem w1243 : Cond.methodLink RL 163 yX10_team ∈ Gw := gw (i := 1288) (by decide +kernel) rfl
theorem w1244 : Cond.instanceMethod yX10_team ∈ Gw := gw (i := 1289) (by decide +kernel) rfl
theorem w1245 : Cond.selects RX10 yX10_team yX10_team ∈ Gw := gw (i := 1290) (by decide +kernel) rfl
theorem w1246 : Cond.code yX10_team cX10_team 3 (some .int) ∈ Gw := gw (i := 1291) (by decide +kernel) rfl
theorem w1247 : Cond.methodLink RL 166 yX10_move ∈ Gw := gw (i := 1292) (by decide +kernel) rfl
theorem w1248 : Cond.instanceMethod yX10_move ∈ Gw := gw (i := 1293) (by decide +kernel) rfl
theorem w1249 : Cond.selects RX10 yX10_move yX10_move ∈ Gw := gw (i := 1294) (by decide +kernel) rfl
theorem w1250 : Cond.code yX10_move cX10_move 4 (some .int) ∈ Gw := gw (i := 1295) (by decide +kernel) rfl
theorem w1251 : Cond.methodLink RX10 149 yX10_isMean ∈ Gw := gw (i := 1296) (by decide +kernel) rfl
theorem w1253 : Cond.instanceMethod yX10_isMean ∈ Gw := gw (i := 1298) (by decide +kernel) rfl
theorem w1254 : Cond.code yX10_isMean cX10_isMean 2 (some .boolean) ∈ Gw := gw (i := 1299) (by decide +kernel) rfl
theorem w1255 : Cond.methodLink RL 169 yX10_carry ∈ Gw := gw (i := 1300) (by decide +kernel) rfl
theorem w1256 : Cond.instanceMethod yX10_carry ∈ Gw := gw (i := 1301) (by decide +kernel) rfl
theorem w1257 : Cond.selects RX10 yX10_carry yX10_carry ∈ Gw := gw (i := 1302) (by decide +kernel) rfl
theorem w1258 : Cond.code yX10_carry cX10_carry 3 (some .int) ∈ Gw := gw (i := 1303) (by decide +kernel) rfl
theorem w1259 : Cond.methodLink RL 172 yX10_teach ∈ Gw := gw (i := 1304) (by decide +kernel) rfl
theorem w1260 : Cond.instanceMethod yX10_teach ∈ Gw := gw (i := 1305) (by decide +kernel) rfl
theorem w1261 : Cond.selects RX10 yX10_teach yX10_teach ∈ Gw := gw (i := 1306) (by decide +kernel) rfl
theorem w1262 : Cond.code yX10_teach cX10_teach 3 (some .boolean) ∈ Gw := gw (i := 1307) (by decide +kernel) rfl
theorem w1263 : Cond.methodLink RL 175 yX10_clean ∈ Gw := gw (i := 1308) (by decide +kernel) rfl
theorem w1264 : Cond.instanceMethod yX10_clean ∈ Gw := gw (i := 1309) (by decide +kernel) rfl
theorem w1265 : Cond.selects RX10 yX10_clean yX10_clean ∈ Gw := gw (i := 1310) (by decide +kernel) rfl
theorem w1266 : Cond.code yX10_clean cX10_clean 7 (some .int) ∈ Gw := gw (i := 1311) (by decide +kernel) rfl
theorem w1267 : Cond.methodLink RL 178 yX10_meanIs ∈ Gw := gw (i := 1312) (by decide +kernel) rfl
theorem w1268 : Cond.instanceMethod yX10_meanIs ∈ Gw := gw (i := 1313) (by decide +kernel) rfl
theorem w1269 : Cond.selects RX10 yX10_meanIs yX10_meanIs ∈ Gw := gw (i := 1314) (by decide +kernel) rfl
theorem w1270 : Cond.code yX10_meanIs cX10_meanIs 3 (some .int) ∈ Gw := gw (i := 1315) (by decide +kernel) rfl
theorem w1271 : Cond.methodLink RL 181 yX10_use ∈ Gw := gw (i := 1316) (by decide +kernel) rfl
theorem w1272 : Cond.instanceMethod yX10_use ∈ Gw := gw (i := 1317) (by decide +kernel) rfl
theorem w1273 : Cond.selects RX10 yX10_use yX10_use ∈ Gw := gw (i := 1318) (by decide +kernel) rfl
theorem w1274 : Cond.code yX10_use cX10_use 4 (some .int) ∈ Gw := gw (i := 1319) (by decide +kernel) rfl
theorem w1275 : Cond.methodLink RX10 155 yX10_rules ∈ Gw := gw (i := 1320) (by decide +kernel) rfl
theorem w1277 : Cond.instanceMethod yX10_rules ∈ Gw := gw (i := 1322) (by decide +kernel) rfl
theorem w1278 : Cond.code yX10_rules cX10_rules 8 (some .int) ∈ Gw := gw (i := 1323) (by decide +kernel) rfl
theorem w1279 : Cond.methodLink RX10 152 yX10_isAgainst ∈ Gw := gw (i := 1324) (by decide +kernel) rfl
theorem w1281 : Cond.instanceMethod yX10_isAgainst ∈ Gw := gw (i := 1326) (by decide +kernel) rfl
theorem w1282 : Cond.code yX10_isAgainst cX10_isAgainst 8 (some .boolean) ∈ Gw := gw (i := 1327) (by decide +kernel) rfl
theorem w1283 : Cond.methodLink RL 184 yX10_why ∈ Gw := gw (i := 1328) (by decide +kernel) rfl
theorem w1284 : Cond.instanceMethod yX10_why ∈ Gw := gw (i := 1329) (by decide +kernel) rfl
theorem w1285 : Cond.selects RX10 yX10_why yX10_why ∈ Gw := gw (i := 1330) (by decide +kernel) rfl
theorem w1286 : Cond.code yX10_why cX10_why 4 (some .int) ∈ Gw := gw (i := 1331) (by decide +kernel) rfl
theorem w1287 : Cond.methodLink RL 187 yX10_birds ∈ Gw := gw (i := 1332) (by decide +kernel) rfl
theorem w1288 : Cond.instanceMethod yX10_birds ∈ Gw := gw (i := 1333) (by decide +kernel) rfl
theorem w1289 : Cond.selects RX10 yX10_birds yX10_birds ∈ Gw := gw (i := 1334) (by decide +kernel) rfl
theorem w1290 : Cond.code yX10_birds cX10_birds 3 (some .int) ∈ Gw := gw (i := 1335) (by decide +kernel) rfl
theorem w1291 : Cond.methodLink RL 190 yX10_wash ∈ Gw := gw (i := 1336) (by decide +kernel) rfl
theorem w1292 : Cond.instanceMethod yX10_wash ∈ Gw := gw (i := 1337) (by decide +kernel) rfl
theorem w1293 : Cond.selects RX10 yX10_wash yX10_wash ∈ Gw := gw (i := 1338) (by decide +kernel) rfl
theorem w1294 : Cond.code yX10_wash cX10_wash 4 (some .int) ∈ Gw := gw (i := 1339) (by decide +kernel) rfl
theorem w1295 : Cond.methodLink RL 193 yX10_sign ∈ Gw := gw (i := 1340) (by decide +kernel) rfl
theorem w1296 : Cond.instanceMethod yX10_sign ∈ Gw := gw (i := 1341) (by decide +kernel) rfl
theorem w1297 : Cond.selects RX10 yX10_sign yX10_sign ∈ Gw := gw (i := 1342) (by decide +kernel) rfl
theorem w1298 : Cond.code yX10_sign cX10_sign 4 (some .boolean) ∈ Gw := gw (i := 1343) (by decide +kernel) rfl
theorem w1299 : Cond.methodLink RL 196 yX10_site ∈ Gw := gw (i := 1344) (by decide +kernel) rfl
theorem w1300 : Cond.instanceMethod yX10_site ∈ Gw := gw (i := 1345) (by decide +kernel) rfl
theorem w1301 : Cond.selects RX10 yX10_site yX10_site ∈ Gw := gw (i := 1346) (by decide +kernel) rfl
theorem w1302 : Cond.code yX10_site cX10_site 3 (some .int) ∈ Gw := gw (i := 1347) (by decide +kernel) rfl
theorem w1303 : Cond.methodLink RL 199 yX10_deliver ∈ Gw := gw (i := 1348) (by decide +kernel) rfl
theorem w1304 : Cond.instanceMethod yX10_deliver ∈ Gw := gw (i := 1349) (by decide +kernel) rfl
theorem w1305 : Cond.selects RX10 yX10_deliver yX10_deliver ∈ Gw := gw (i := 1350) (by decide +kernel) rfl
theorem w1306 : Cond.code yX10_deliver cX10_deliver 4 (some .int) ∈ Gw := gw (i := 1351) (by decide +kernel) rfl
theorem w1307 : Cond.methodLink RL 202 yX10_waste ∈ Gw := gw (i := 1352) (by decide +kernel) rfl
theorem w1308 : Cond.instanceMethod yX10_waste ∈ Gw := gw (i := 1353) (by decide +kernel) rfl
theorem w1309 : Cond.selects RX10 yX10_waste yX10_waste ∈ Gw := gw (i := 1354) (by decide +kernel) rfl
theorem w1310 : Cond.code yX10_waste cX10_waste 2 (some .int) ∈ Gw := gw (i := 1355) (by decide +kernel) rfl
theorem w1311 : Cond.methodLink RL 205 yX10_claim ∈ Gw := gw (i := 1356) (by decide +kernel) rfl
theorem w1312 : Cond.instanceMethod yX10_claim ∈ Gw := gw (i := 1357) (by decide +kernel) rfl
theorem w1313 : Cond.selects RX10 yX10_claim yX10_claim ∈ Gw := gw (i := 1358) (by decide +kernel) rfl
theorem w1314 : Cond.code yX10_claim cX10_claim 2 (some .int) ∈ Gw := gw (i := 1359) (by decide +kernel) rfl
theorem w1315 : Cond.constant RX10 171 1000000 ∈ Gw := gw (i := 1360) (by decide +kernel) rfl
theorem w1316 : Cond.methodLink RL 208 yX10_layers ∈ Gw := gw (i := 1361) (by decide +kernel) rfl
theorem w1317 : Cond.instanceMethod yX10_layers ∈ Gw := gw (i := 1362) (by decide +kernel) rfl
theorem w1318 : Cond.selects RX10 yX10_layers yX10_layers ∈ Gw := gw (i := 1363) (by decide +kernel) rfl
theorem w1319 : Cond.code yX10_layers cX10_layers 4 (some .int) ∈ Gw := gw (i := 1364) (by decide +kernel) rfl
theorem w1320 : Cond.constant RX10 175 10000000 ∈ Gw := gw (i := 1365) (by decide +kernel) rfl
theorem w1321 : Cond.methodLink RL 211 yX10_due ∈ Gw := gw (i := 1366) (by decide +kernel) rfl
theorem w1322 : Cond.instanceMethod yX10_due ∈ Gw := gw (i := 1367) (by decide +kernel) rfl
theorem w1323 : Cond.selects RX10 yX10_due yX10_due ∈ Gw := gw (i := 1368) (by decide +kernel) rfl
theorem w1324 : Cond.code yX10_due cX10_due 7 (some .int) ∈ Gw := gw (i := 1369) (by decide +kernel) rfl
theorem w1325 : Cond.methodLink RL 214 yX10_ahead ∈ Gw := gw (i := 1370) (by decide +kernel) rfl
theorem w1326 : Cond.instanceMethod yX10_ahead ∈ Gw := gw (i := 1371) (by decide +kernel) rfl
theorem w1327 : Cond.selects RX10 yX10_ahead yX10_ahead ∈ Gw := gw (i := 1372) (by decide +kernel) rfl
theorem w1328 : Cond.code yX10_ahead cX10_ahead 5 (some .int) ∈ Gw := gw (i := 1373) (by decide +kernel) rfl
theorem w1329 : Cond.methodLink RL 217 yX10_nextAnew ∈ Gw := gw (i := 1374) (by decide +kernel) rfl
theorem w1330 : Cond.instanceMethod yX10_nextAnew ∈ Gw := gw (i := 1375) (by decide +kernel) rfl
theorem w1331 : Cond.selects RX10 yX10_nextAnew yX10_nextAnew ∈ Gw := gw (i := 1376) (by decide +kernel) rfl
theorem w1332 : Cond.code yX10_nextAnew cX10_nextAnew 10 (some .int) ∈ Gw := gw (i := 1377) (by decide +kernel) rfl
theorem w1333 : Cond.methodLink RX10 189 yX10_strands ∈ Gw := gw (i := 1378) (by decide +kernel) rfl
theorem w1335 : Cond.instanceMethod yX10_strands ∈ Gw := gw (i := 1380) (by decide +kernel) rfl
theorem w1336 : Cond.code yX10_strands cX10_strands 3 (some .int) ∈ Gw := gw (i := 1381) (by decide +kernel) rfl
theorem w1337 : Cond.methodLink RX10 186 yX10_goes ∈ Gw := gw (i := 1382) (by decide +kernel) rfl
theorem w1339 : Cond.instanceMethod yX10_goes ∈ Gw := gw (i := 1384) (by decide +kernel) rfl
theorem w1340 : Cond.code yX10_goes cX10_goes 8 (some .int) ∈ Gw := gw (i := 1385) (by decide +kernel) rfl
theorem w1341 : Cond.methodLink RX10 182 yX10_floats ∈ Gw := gw (i := 1386) (by decide +kernel) rfl
theorem w1343 : Cond.instanceMethod yX10_floats ∈ Gw := gw (i := 1388) (by decide +kernel) rfl
theorem w1344 : Cond.code yX10_floats cX10_floats 5 (some .int) ∈ Gw := gw (i := 1389) (by decide +kernel) rfl
theorem w1345 : Cond.methodLink RL 220 yX10_sum ∈ Gw := gw (i := 1390) (by decide +kernel) rfl
theorem w1346 : Cond.instanceMethod yX10_sum ∈ Gw := gw (i := 1391) (by decide +kernel) rfl
theorem w1347 : Cond.selects RX10 yX10_sum yX10_sum ∈ Gw := gw (i := 1392) (by decide +kernel) rfl
theorem w1348 : Cond.code yX10_sum cX10_sum 4 (some .int) ∈ Gw := gw (i := 1393) (by decide +kernel) rfl
theorem w1349 : Cond.methodLink RX10 192 yX10_over ∈ Gw := gw (i := 1394) (by decide +kernel) rfl
theorem w1351 : Cond.instanceMethod yX10_over ∈ Gw := gw (i := 1396) (by decide +kernel) rfl
theorem w1352 : Cond.code yX10_over cX10_over 5 (some .int) ∈ Gw := gw (i := 1397) (by decide +kernel) rfl
theorem w1353 : Cond.arrayClass .long ∈ Gw := gw (i := 1398) (by decide +kernel) rfl
theorem wp0 : Cond.selects "java/lang/Throwable" ⟨"java/lang/Throwable", "fillInStackTrace", "(I)Ljava/lang/Throwable;"⟩ ⟨"java/lang/Throwable", "fillInStackTrace", "(I)Ljava/lang/Throwable;"⟩ ∈ Gw := gw (i := 0) (by decide +kernel) rfl
theorem wp1 : Cond.selects RX9 yX9_needWater yX9_needWater ∈ Gw := gw (i := 1) (by decide +kernel) rfl
theorem wp2 : Cond.selects RX0 yX0_leak yX0_leak ∈ Gw := gw (i := 2) (by decide +kernel) rfl
theorem wp3 : Cond.selects RX0 yX0_weather yX0_weather ∈ Gw := gw (i := 3) (by decide +kernel) rfl
theorem wp4 : Cond.selects RX0 yX0_drift yX0_drift ∈ Gw := gw (i := 4) (by decide +kernel) rfl
theorem wp5 : Cond.selects RX0 yX0_findWhatGoes yX0_findWhatGoes ∈ Gw := gw (i := 5) (by decide +kernel) rfl
theorem wp6 : Cond.selects RX0 yX0_letGo yX0_letGo ∈ Gw := gw (i := 6) (by decide +kernel) rfl
theorem wp7 : Cond.selects RX0 yX0_giveBack yX0_giveBack ∈ Gw := gw (i := 7) (by decide +kernel) rfl
theorem wp8 : Cond.selects RX0 yX0_skim yX0_skim ∈ Gw := gw (i := 8) (by decide +kernel) rfl
theorem wp9 : Cond.selects RX0 yX0_harmShores yX0_harmShores ∈ Gw := gw (i := 9) (by decide +kernel) rfl
theorem wp10 : Cond.selects RX9 yX9_needRoomForMeans yX9_needRoomForMeans ∈ Gw := gw (i := 10) (by decide +kernel) rfl
theorem wp11 : Cond.selects RX9 yX9_needSort yX9_needSort ∈ Gw := gw (i := 11) (by decide +kernel) rfl
theorem wp12 : Cond.selects RX9 yX9_needShore yX9_needShore ∈ Gw := gw (i := 12) (by decide +kernel) rfl
theorem wp13 : Cond.selects RX4 yX4_hasRested yX4_hasRested ∈ Gw := gw (i := 13) (by decide +kernel) rfl
theorem wp14 : Cond.selects RX7 yX7_isAgainst yX7_isAgainst ∈ Gw := gw (i := 14) (by decide +kernel) rfl
theorem wp15 : Cond.selects RX6 yX6_allGet yX6_allGet ∈ Gw := gw (i := 15) (by decide +kernel) rfl
theorem wp16 : Cond.selects RX5 yX5_weigh yX5_weigh ∈ Gw := gw (i := 16) (by decide +kernel) rfl
theorem wp17 : Cond.selects RX5 yX5_leaksInto yX5_leaksInto ∈ Gw := gw (i := 17) (by decide +kernel) rfl
theorem wp18 : Cond.selects RX5 yX5_waterAgainstWind yX5_waterAgainstWind ∈ Gw := gw (i := 18) (by decide +kernel) rfl
theorem wp19 : Cond.selects RX5 yX5_givenBackTo yX5_givenBackTo ∈ Gw := gw (i := 19) (by decide +kernel) rfl
theorem wp20 : Cond.selects RX5 yX5_isHighTide yX5_isHighTide ∈ Gw := gw (i := 20) (by decide +kernel) rfl
theorem wp21 : Cond.selects RX5 yX5_landedOn yX5_landedOn ∈ Gw := gw (i := 21) (by decide +kernel) rfl
theorem wp22 : Cond.selects RX5 yX5_leftBySkimmers yX5_leftBySkimmers ∈ Gw := gw (i := 22) (by decide +kernel) rfl
theorem wp23 : Cond.selects RX10 yX10_fails yX10_fails ∈ Gw := gw (i := 23) (by decide +kernel) rfl
theorem wp24 : Cond.selects RX10 yX10_isShip yX10_isShip ∈ Gw := gw (i := 24) (by decide +kernel) rfl
theorem wp25 : Cond.selects RX10 yX10_hour yX10_hour ∈ Gw := gw (i := 25) (by decide +kernel) rfl
theorem wp26 : Cond.selects RX10 yX10_leak yX10_leak ∈ Gw := gw (i := 26) (by decide +kernel) rfl
theorem wp27 : Cond.selects RX10 yX10_weather yX10_weather ∈ Gw := gw (i := 27) (by decide +kernel) rfl
theorem wp28 : Cond.selects RX10 yX10_look yX10_look ∈ Gw := gw (i := 28) (by decide +kernel) rfl
theorem wp29 : Cond.selects RX10 yX10_holds yX10_holds ∈ Gw := gw (i := 29) (by decide +kernel) rfl
theorem wp30 : Cond.selects RX10 yX10_boomOn yX10_boomOn ∈ Gw := gw (i := 30) (by decide +kernel) rfl
theorem wp31 : Cond.selects RX10 yX10_drift yX10_drift ∈ Gw := gw (i := 31) (by decide +kernel) rfl
theorem wp32 : Cond.selects RX10 yX10_lowestWater yX10_lowestWater ∈ Gw := gw (i := 32) (by decide +kernel) rfl
theorem wp33 : Cond.selects RX10 yX10_back yX10_back ∈ Gw := gw (i := 33) (by decide +kernel) rfl
theorem wp34 : Cond.selects RX10 yX10_skim yX10_skim ∈ Gw := gw (i := 34) (by decide +kernel) rfl
theorem wp35 : Cond.selects RX10 yX10_suffer yX10_suffer ∈ Gw := gw (i := 35) (by decide +kernel) rfl
theorem wp36 : Cond.selects RX10 yX10_signatures yX10_signatures ∈ Gw := gw (i := 36) (by decide +kernel) rfl
theorem wp37 : Cond.selects RX10 yX10_mean yX10_mean ∈ Gw := gw (i := 37) (by decide +kernel) rfl
theorem wp38 : Cond.selects RX10 yX10_isMean yX10_isMean ∈ Gw := gw (i := 38) (by decide +kernel) rfl
theorem wp39 : Cond.selects RX10 yX10_rules yX10_rules ∈ Gw := gw (i := 39) (by decide +kernel) rfl
theorem wp40 : Cond.selects RX10 yX10_isAgainst yX10_isAgainst ∈ Gw := gw (i := 40) (by decide +kernel) rfl
theorem wp41 : Cond.selects RX10 yX10_strands yX10_strands ∈ Gw := gw (i := 41) (by decide +kernel) rfl
theorem wp42 : Cond.selects RX10 yX10_goes yX10_goes ∈ Gw := gw (i := 42) (by decide +kernel) rfl
theorem wp43 : Cond.selects RX10 yX10_floats yX10_floats ∈ Gw := gw (i := 43) (by decide +kernel) rfl
theorem wp44 : Cond.selects RX10 yX10_over yX10_over ∈ Gw := gw (i := 44) (by decide +kernel) rfl
theorem gwX0 : ∀ w ∈ u_ws RX0 TX0 9, w ∈ Gw := gw_r _ [270, 272, 274, 276, 278, 280, 282, 284, 286] (by decide +kernel) (by decide +kernel)
theorem gwX1 : ∀ w ∈ u_ws RX1 TX1 7, w ∈ Gw := gw_r _ [231, 233, 235, 237, 239, 241, 243] (by decide +kernel) (by decide +kernel)
theorem gwX2 : ∀ w ∈ u_ws RX2 TX2 8, w ∈ Gw := gw_r _ [116, 118, 120, 122, 124, 126, 128, 130] (by decide +kernel) (by decide +kernel)
theorem gwX3 : ∀ w ∈ u_ws RX3 TX3 4, w ∈ Gw := gw_r _ [333, 335, 337, 339] (by decide +kernel) (by decide +kernel)
theorem gwX4 : ∀ w ∈ u_ws RX4 TX4 9, w ∈ Gw := gw_r _ [191, 193, 195, 197, 199, 201, 203, 205, 207] (by decide +kernel) (by decide +kernel)
theorem gwX5 : ∀ w ∈ u_ws RX5 TX5 5, w ∈ Gw := gw_r _ [300, 302, 304, 306, 308] (by decide +kernel) (by decide +kernel)
theorem gwX6 : ∀ w ∈ u_ws RX6 TX6 5, w ∈ Gw := gw_r _ [356, 358, 360, 362, 364] (by decide +kernel) (by decide +kernel)
theorem gwX7 : ∀ w ∈ u_ws RX7 TX7 1, w ∈ Gw := gw_r _ [318] (by decide +kernel) (by decide +kernel)
theorem gwX8 : ∀ w ∈ u_ws RX8 TX8 4, w ∈ Gw := gw_r _ [152, 154, 156, 158] (by decide +kernel) (by decide +kernel)
theorem gwX9 : ∀ w ∈ u_ws RX9 TX9 6, w ∈ Gw := gw_r _ [373, 375, 377, 379, 381, 383] (by decide +kernel) (by decide +kernel)
theorem gwX10 : ∀ w ∈ u_ws RX10 TX10 29, w ∈ Gw := gw_r _ [1102, 1104, 1106, 1108, 1110, 1112, 1114, 1116, 1118, 1120, 1122, 1124, 1126, 1128, 1130, 1132, 1134, 1136, 1138, 1140, 1142, 1144, 1146, 1148, 1150, 1152, 1154, 1156, 1158] (by decide +kernel) (by decide +kernel)
