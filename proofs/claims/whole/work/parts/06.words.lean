def Gw : List Cond := lw_tbl.filter goodWord
theorem gw {w : Cond} {i : Nat} (h : lw_tbl[i]? = some w) (g : goodWord w = true) : w ∈ Gw := List.mem_filter.mpr ⟨List.mem_of_getElem? h, g⟩
theorem gwc {c : List Cond} (h : ∀ w ∈ c, w ∈ lw_tbl) {w : Cond} {i : Nat} (hi : c[i]? = some w) (g : goodWord w = true) : w ∈ Gw := List.mem_filter.mpr ⟨h w (List.mem_of_getElem? hi), g⟩
theorem gw_good {w : Cond} (h : w ∈ Gw) : (w.onTables && w.keeps) = true ∨ ∃ ty, w = .arrayClass ty := good_of_word (List.mem_filter.mp h).2
theorem gw_r (ws : List Cond) (ps : List Nat) (hp : ws = ps.filterMap (fun i => lw_tbl[i]?)) (h : ws.all goodWord = true) : ∀ w ∈ ws, w ∈ Gw := by
  intro w hw
  have h1 := List.all_eq_true.mp h w hw
  rw [hp] at hw
  obtain ⟨i, -, hi⟩ := List.mem_filterMap.mp hw
  exact gw hi h1
def gc_0_0 : List Cond := [Cond.initialized RL, Cond.initialized RX9, Cond.initialized RX0, Cond.initialized RX2, Cond.initialized RJ7, Cond.initialized RX8, Cond.initialized RX4, Cond.initialized RX1, Cond.initialized RX5, Cond.initialized RX7, Cond.initialized RX3, Cond.initialized RX6, Cond.initialized RX10, Cond.initialized "java/lang/Throwable", Cond.initialized "java/lang/Exception", Cond.initialized "java/lang/RuntimeException", Cond.initialized "java/lang/IndexOutOfBoundsException", Cond.initialized "java/lang/IllegalArgumentException", Cond.initialized "java/lang/IllegalStateException", Cond.initialized "java/lang/Math", Cond.initialized RJ6, Cond.initialized "java/lang/System", Cond.classLink RL 8 RX9, Cond.instantiable RX9 6, Cond.methodLink RL 114 yX9_init, Cond.instanceMethod yX9_init, Cond.code yX9_init cX9_init 1 none, Cond.methodLink RX9 3 objectInit, Cond.instanceMethod objectInit, Cond.code objectInit ⟨#[0xb1]⟩ 1 none, Cond.classLink RX9 9 RX0, Cond.instantiable RX0 9, Cond.methodLink RX9 11 yX0_init, Cond.instanceMethod yX0_init, Cond.code yX0_init cX0_init 1 none, Cond.methodLink RX0 3 objectInit, Cond.classLink RX0 9 RX2, Cond.instantiable RX2 8, Cond.methodLink RX0 11 yX2_init, Cond.instanceMethod yX2_init]
def gc_0_1 : List Cond := [Cond.code yX2_init cX2_init 1 none, Cond.methodLink RX2 3 objectInit, Cond.methodLink RX2 18 yJ7_fill_53178, Cond.static yJ7_fill_53178, Cond.code yJ7_fill_53178 cJ7_fill_53178 4 none, Cond.fieldLink RX2 9 RX2 "kind" "[I", Cond.fieldLink RX9 93 RX2 "kind" "[I", Cond.fieldLink RX2 15 RX2 "depth" "[I", Cond.fieldLink RX7 21 RX2 "depth" "[I", Cond.fieldLink RX9 106 RX2 "depth" "[I", Cond.fieldLink RX2 24 RX2 "fresh" "[I", Cond.fieldLink RX7 27 RX2 "fresh" "[I", Cond.fieldLink RX5 74 RX2 "fresh" "[I", Cond.fieldLink RX0 98 RX2 "fresh" "[I", Cond.fieldLink RX9 143 RX2 "fresh" "[I", Cond.fieldLink RX2 27 RX2 "thick" "[I", Cond.fieldLink RX7 34 RX2 "thick" "[I", Cond.fieldLink RX5 81 RX2 "thick" "[I", Cond.fieldLink RX0 111 RX2 "thick" "[I", Cond.fieldLink RX9 146 RX2 "thick" "[I", Cond.fieldLink RX2 30 RX2 "stranded" "[I", Cond.fieldLink RX5 130 RX2 "stranded" "[I", Cond.fieldLink RX9 149 RX2 "stranded" "[I", Cond.fieldLink RX0 158 RX2 "stranded" "[I", Cond.fieldLink RX2 33 RX2 "birds" "[I", Cond.fieldLink RX9 152 RX2 "birds" "[I", Cond.fieldLink RX2 36 RX2 "oiled" "[I", Cond.fieldLink RX9 155 RX2 "oiled" "[I", Cond.fieldLink RX2 39 RX2 "signatures" "[I", Cond.fieldLink RX9 158 RX2 "signatures" "[I", Cond.fieldLink RX0 185 RX2 "signatures" "[I", (Jvm.Cond.laysFinal "Slickboom$Cells" "Slickboom$Cells" "kind" "[I"), (Jvm.Cond.soleField "Slickboom$Cells" "kind"), (Jvm.Cond.laysFinal "Slickboom$Cells" "Slickboom$Cells" "depth" "[I"), (Jvm.Cond.soleField "Slickboom$Cells" "depth"), (Jvm.Cond.laysFinal "Slickboom$Cells" "Slickboom$Cells" "fresh" "[I"), (Jvm.Cond.soleField "Slickboom$Cells" "fresh"), (Jvm.Cond.laysFinal "Slickboom$Cells" "Slickboom$Cells" "thick" "[I"), (Jvm.Cond.soleField "Slickboom$Cells" "thick"), (Jvm.Cond.laysFinal "Slickboom$Cells" "Slickboom$Cells" "stranded" "[I")]
def gc_0_2 : List Cond := [(Jvm.Cond.soleField "Slickboom$Cells" "stranded"), (Jvm.Cond.laysFinal "Slickboom$Cells" "Slickboom$Cells" "birds" "[I"), (Jvm.Cond.soleField "Slickboom$Cells" "birds"), (Jvm.Cond.laysFinal "Slickboom$Cells" "Slickboom$Cells" "oiled" "[I"), (Jvm.Cond.soleField "Slickboom$Cells" "oiled"), (Jvm.Cond.laysFinal "Slickboom$Cells" "Slickboom$Cells" "signatures" "[I"), (Jvm.Cond.soleField "Slickboom$Cells" "signatures"), (Jvm.Cond.superclass "Slickboom$Cells" "java/lang/Object"), Cond.arrayClass .int, Cond.classLink RX0 18 RX8, Cond.instantiable RX8 4, Cond.methodLink RX0 20 yX8_init, Cond.instanceMethod yX8_init, Cond.code yX8_init cX8_init 1 none, Cond.methodLink RX8 3 objectInit, Cond.fieldLink RX8 21 RX8 "count" "I", Cond.fieldLink RX0 88 RX8 "count" "I", Cond.fieldLink RX9 116 RX8 "count" "I", Cond.fieldLink RX5 112 RX8 "count" "I", Cond.fieldLink RX8 9 RX8 "cell" "[I", Cond.fieldLink RX0 101 RX8 "cell" "[I", Cond.fieldLink RX5 117 RX8 "cell" "[I", Cond.fieldLink RX8 15 RX8 "litres" "[I", Cond.fieldLink RX0 95 RX8 "litres" "[I", Cond.fieldLink RX9 133 RX8 "litres" "[I", Cond.fieldLink RX8 18 RX8 "rate" "[I", Cond.fieldLink RX9 125 RX8 "rate" "[I", (Jvm.Cond.lays "Slickboom$Ships" "Slickboom$Ships" "count" "I"), (Jvm.Cond.soleField "Slickboom$Ships" "count"), (Jvm.Cond.laysFinal "Slickboom$Ships" "Slickboom$Ships" "cell" "[I"), (Jvm.Cond.soleField "Slickboom$Ships" "cell"), (Jvm.Cond.laysFinal "Slickboom$Ships" "Slickboom$Ships" "litres" "[I"), (Jvm.Cond.soleField "Slickboom$Ships" "litres"), (Jvm.Cond.laysFinal "Slickboom$Ships" "Slickboom$Ships" "rate" "[I"), (Jvm.Cond.soleField "Slickboom$Ships" "rate"), (Jvm.Cond.superclass "Slickboom$Ships" "java/lang/Object"), Cond.classLink RX0 25 RX4, Cond.instantiable RX4 9, Cond.methodLink RX0 27 yX4_init, Cond.instanceMethod yX4_init]
def gc_0_3 : List Cond := [Cond.code yX4_init cX4_init 1 none, Cond.methodLink RX4 3 objectInit, Cond.fieldLink RX4 37 RX4 "count" "I", Cond.fieldLink RX5 133 RX4 "count" "I", Cond.fieldLink RX0 167 RX4 "count" "I", Cond.fieldLink RX9 185 RX4 "count" "I", Cond.fieldLink RX4 9 RX4 "sort" "[I", Cond.fieldLink RX0 168 RX4 "sort" "[I", Cond.fieldLink RX9 218 RX4 "sort" "[I", Cond.fieldLink RX4 15 RX4 "cell" "[I", Cond.fieldLink RX0 171 RX4 "cell" "[I", Cond.fieldLink RX9 189 RX4 "cell" "[I", Cond.fieldLink RX4 18 RX4 "way" "[I", Cond.fieldLink RX9 175 RX4 "way" "[I", Cond.fieldLink RX4 21 RX4 "power" "[I", Cond.fieldLink RX5 96 RX4 "power" "[I", Cond.fieldLink RX0 136 RX4 "power" "[I", Cond.fieldLink RX9 210 RX4 "power" "[I", Cond.fieldLink RX4 24 RX4 "store" "[I", Cond.fieldLink RX9 178 RX4 "store" "[I", Cond.fieldLink RX4 27 RX4 "tally" "[I", Cond.fieldLink RX0 139 RX4 "tally" "[I", Cond.fieldLink RX9 192 RX4 "tally" "[I", Cond.fieldLink RX4 30 RX4 "taught" "[Z", Cond.fieldLink RX9 181 RX4 "taught" "[Z", Cond.fieldLink RX4 34 RX4 "lastWork" "[I", (Jvm.Cond.lays "Slickboom$Means" "Slickboom$Means" "count" "I"), (Jvm.Cond.soleField "Slickboom$Means" "count"), (Jvm.Cond.laysFinal "Slickboom$Means" "Slickboom$Means" "sort" "[I"), (Jvm.Cond.soleField "Slickboom$Means" "sort"), (Jvm.Cond.laysFinal "Slickboom$Means" "Slickboom$Means" "cell" "[I"), (Jvm.Cond.soleField "Slickboom$Means" "cell"), (Jvm.Cond.laysFinal "Slickboom$Means" "Slickboom$Means" "way" "[I"), (Jvm.Cond.soleField "Slickboom$Means" "way"), (Jvm.Cond.laysFinal "Slickboom$Means" "Slickboom$Means" "power" "[I"), (Jvm.Cond.soleField "Slickboom$Means" "power"), (Jvm.Cond.laysFinal "Slickboom$Means" "Slickboom$Means" "store" "[I"), (Jvm.Cond.soleField "Slickboom$Means" "store"), (Jvm.Cond.laysFinal "Slickboom$Means" "Slickboom$Means" "tally" "[I"), (Jvm.Cond.soleField "Slickboom$Means" "tally")]
def gc_0_4 : List Cond := [(Jvm.Cond.laysFinal "Slickboom$Means" "Slickboom$Means" "taught" "[Z"), (Jvm.Cond.soleField "Slickboom$Means" "taught"), (Jvm.Cond.laysFinal "Slickboom$Means" "Slickboom$Means" "lastWork" "[I"), (Jvm.Cond.soleField "Slickboom$Means" "lastWork"), (Jvm.Cond.superclass "Slickboom$Means" "java/lang/Object"), Cond.arrayClass .boolean, Cond.classLink RX0 32 RX1, Cond.instantiable RX1 7, Cond.methodLink RX0 34 yX1_init, Cond.instanceMethod yX1_init, Cond.code yX1_init cX1_init 1 none, Cond.methodLink RX1 3 objectInit, Cond.fieldLink RX1 15 RX1 "leaked" "I", Cond.fieldLink RX9 304 RX1 "leaked" "I", Cond.fieldLink RX1 9 RX1 "firstLeak" "I", Cond.fieldLink RX0 194 RX1 "firstLeak" "I", Cond.fieldLink RX0 108 RX1 "air" "I", Cond.fieldLink RX9 316 RX1 "air" "I", Cond.fieldLink RX0 114 RX1 "sunk" "I", Cond.fieldLink RX9 319 RX1 "sunk" "I", Cond.fieldLink RX0 155 RX1 "out" "I", Cond.fieldLink RX9 322 RX1 "out" "I", Cond.fieldLink RX0 188 RX1 "deep" "I", Cond.fieldLink RX9 331 RX1 "deep" "I", Cond.fieldLink RX0 191 RX1 "burnt" "I", Cond.fieldLink RX9 334 RX1 "burnt" "I", (Jvm.Cond.lays "Slickboom$Books" "Slickboom$Books" "leaked" "I"), (Jvm.Cond.soleField "Slickboom$Books" "leaked"), (Jvm.Cond.lays "Slickboom$Books" "Slickboom$Books" "firstLeak" "I"), (Jvm.Cond.soleField "Slickboom$Books" "firstLeak"), (Jvm.Cond.lays "Slickboom$Books" "Slickboom$Books" "air" "I"), (Jvm.Cond.soleField "Slickboom$Books" "air"), (Jvm.Cond.lays "Slickboom$Books" "Slickboom$Books" "sunk" "I"), (Jvm.Cond.soleField "Slickboom$Books" "sunk"), (Jvm.Cond.lays "Slickboom$Books" "Slickboom$Books" "out" "I"), (Jvm.Cond.soleField "Slickboom$Books" "out"), (Jvm.Cond.lays "Slickboom$Books" "Slickboom$Books" "deep" "I"), (Jvm.Cond.soleField "Slickboom$Books" "deep"), (Jvm.Cond.lays "Slickboom$Books" "Slickboom$Books" "burnt" "I"), (Jvm.Cond.soleField "Slickboom$Books" "burnt")]
def gc_0_5 : List Cond := [(Jvm.Cond.superclass "Slickboom$Books" "java/lang/Object"), Cond.fieldLink RX0 12 RX0 "cells" "LSlickboom$Cells;", Cond.fieldLink RX7 15 RX0 "cells" "LSlickboom$Cells;", Cond.fieldLink RX9 89 RX0 "cells" "LSlickboom$Cells;", Cond.fieldLink RX5 56 RX0 "cells" "LSlickboom$Cells;", Cond.fieldLink RX0 21 RX0 "ships" "LSlickboom$Ships;", Cond.fieldLink RX9 68 RX0 "ships" "LSlickboom$Ships;", Cond.fieldLink RX5 108 RX0 "ships" "LSlickboom$Ships;", Cond.fieldLink RX0 28 RX0 "means" "LSlickboom$Means;", Cond.fieldLink RX9 78 RX0 "means" "LSlickboom$Means;", Cond.fieldLink RX5 84 RX0 "means" "LSlickboom$Means;", Cond.fieldLink RX0 35 RX0 "books" "LSlickboom$Books;", Cond.fieldLink RX9 300 RX0 "books" "LSlickboom$Books;", Cond.fieldLink RX9 57 RX0 "hour" "I", Cond.fieldLink RX0 60 RX0 "hour" "I", Cond.fieldLink RX5 68 RX0 "hour" "I", Cond.fieldLink RX0 39 RX0 "windWay" "I", Cond.fieldLink RX9 109 RX0 "windWay" "I", Cond.fieldLink RX5 88 RX0 "windWay" "I", Cond.fieldLink RX0 63 RX0 "windStrength" "I", Cond.fieldLink RX7 37 RX0 "windStrength" "I", Cond.fieldLink RX9 112 RX0 "windStrength" "I", Cond.fieldLink RX5 99 RX0 "windStrength" "I", Cond.fieldLink RX0 43 RX0 "freshGoes" "[I", Cond.fieldLink RX0 47 RX0 "thickGoes" "[I", (Jvm.Cond.laysFinal "Slickboom$Bay" "Slickboom$Bay" "cells" "LSlickboom$Cells;"), (Jvm.Cond.soleField "Slickboom$Bay" "cells"), (Jvm.Cond.laysFinal "Slickboom$Bay" "Slickboom$Bay" "ships" "LSlickboom$Ships;"), (Jvm.Cond.soleField "Slickboom$Bay" "ships"), (Jvm.Cond.laysFinal "Slickboom$Bay" "Slickboom$Bay" "means" "LSlickboom$Means;"), (Jvm.Cond.soleField "Slickboom$Bay" "means"), (Jvm.Cond.laysFinal "Slickboom$Bay" "Slickboom$Bay" "books" "LSlickboom$Books;"), (Jvm.Cond.soleField "Slickboom$Bay" "books"), (Jvm.Cond.lays "Slickboom$Bay" "Slickboom$Bay" "hour" "I"), (Jvm.Cond.soleField "Slickboom$Bay" "hour"), (Jvm.Cond.lays "Slickboom$Bay" "Slickboom$Bay" "windWay" "I"), (Jvm.Cond.soleField "Slickboom$Bay" "windWay"), (Jvm.Cond.lays "Slickboom$Bay" "Slickboom$Bay" "windStrength" "I"), (Jvm.Cond.soleField "Slickboom$Bay" "windStrength"), (Jvm.Cond.laysFinal "Slickboom$Bay" "Slickboom$Bay" "freshGoes" "[I")]
set_option maxRecDepth 100000 in
theorem tb_0 : tables_1_1 = gc_0_0 ++ (gc_0_1 ++ (gc_0_2 ++ (gc_0_3 ++ (gc_0_4 ++ (gc_0_5))))) := rfl
theorem in_0_0 : ∀ w ∈ gc_0_0, w ∈ lw_tbl := fun w h => List.mem_append_right _ (show w ∈ tables_1 from List.mem_append_left _ (show w ∈ tables_1_1 by rw [tb_0]; exact List.mem_append_left _ h))
theorem in_0_1 : ∀ w ∈ gc_0_1, w ∈ lw_tbl := fun w h => List.mem_append_right _ (show w ∈ tables_1 from List.mem_append_left _ (show w ∈ tables_1_1 by rw [tb_0]; exact List.mem_append_right _ (List.mem_append_left _ h)))
theorem in_0_2 : ∀ w ∈ gc_0_2, w ∈ lw_tbl := fun w h => List.mem_append_right _ (show w ∈ tables_1 from List.mem_append_left _ (show w ∈ tables_1_1 by rw [tb_0]; exact List.mem_append_right _ (List.mem_append_right _ (List.mem_append_left _ h))))
theorem in_0_3 : ∀ w ∈ gc_0_3, w ∈ lw_tbl := fun w h => List.mem_append_right _ (show w ∈ tables_1 from List.mem_append_left _ (show w ∈ tables_1_1 by rw [tb_0]; exact List.mem_append_right _ (List.mem_append_right _ (List.mem_append_right _ (List.mem_append_left _ h)))))
theorem in_0_4 : ∀ w ∈ gc_0_4, w ∈ lw_tbl := fun w h => List.mem_append_right _ (show w ∈ tables_1 from List.mem_append_left _ (show w ∈ tables_1_1 by rw [tb_0]; exact List.mem_append_right _ (List.mem_append_right _ (List.mem_append_right _ (List.mem_append_right _ (List.mem_append_left _ h))))))
theorem in_0_5 : ∀ w ∈ gc_0_5, w ∈ lw_tbl := fun w h => List.mem_append_right _ (show w ∈ tables_1 from List.mem_append_left _ (show w ∈ tables_1_1 by rw [tb_0]; exact List.mem_append_right _ (List.mem_append_right _ (List.mem_append_right _ (List.mem_append_right _ (List.mem_append_right _ (h)))))))
def gc_1_0 : List Cond := [(Jvm.Cond.soleField "Slickboom$Bay" "freshGoes"), (Jvm.Cond.laysFinal "Slickboom$Bay" "Slickboom$Bay" "thickGoes" "[I"), (Jvm.Cond.soleField "Slickboom$Bay" "thickGoes"), (Jvm.Cond.superclass "Slickboom$Bay" "java/lang/Object"), Cond.classLink RX9 19 RX5, Cond.instantiable RX5 5, Cond.methodLink RX9 21 yX5_init, Cond.instanceMethod yX5_init, Cond.code yX5_init cX5_init 2 none, Cond.methodLink RX5 3 objectInit, Cond.fieldLink RX5 9 RX5 "bay" "LSlickboom$Bay;", Cond.fieldLink RX5 19 RX5 "freshHas" "I", Cond.fieldLink RX5 26 RX5 "thickHas" "I", Cond.fieldLink RX5 23 RX5 "freshGoes" "I", Cond.fieldLink RX5 29 RX5 "thickGoes" "I", (Jvm.Cond.laysFinal "Slickboom$NextHour" "Slickboom$NextHour" "bay" "LSlickboom$Bay;"), (Jvm.Cond.soleField "Slickboom$NextHour" "bay"), (Jvm.Cond.lays "Slickboom$NextHour" "Slickboom$NextHour" "freshHas" "I"), (Jvm.Cond.soleField "Slickboom$NextHour" "freshHas"), (Jvm.Cond.lays "Slickboom$NextHour" "Slickboom$NextHour" "thickHas" "I"), (Jvm.Cond.soleField "Slickboom$NextHour" "thickHas"), (Jvm.Cond.lays "Slickboom$NextHour" "Slickboom$NextHour" "freshGoes" "I"), (Jvm.Cond.soleField "Slickboom$NextHour" "freshGoes"), (Jvm.Cond.lays "Slickboom$NextHour" "Slickboom$NextHour" "thickGoes" "I"), (Jvm.Cond.soleField "Slickboom$NextHour" "thickGoes"), (Jvm.Cond.superclass "Slickboom$NextHour" "java/lang/Object"), Cond.classLink RX9 28 RX7, Cond.instantiable RX7 1, Cond.methodLink RX9 30 yX7_init, Cond.instanceMethod yX7_init, Cond.code yX7_init cX7_init 2 none, Cond.methodLink RX7 3 objectInit, Cond.fieldLink RX7 9 RX7 "bay" "LSlickboom$Bay;", (Jvm.Cond.laysFinal "Slickboom$Rules" "Slickboom$Rules" "bay" "LSlickboom$Bay;"), (Jvm.Cond.soleField "Slickboom$Rules" "bay"), (Jvm.Cond.superclass "Slickboom$Rules" "java/lang/Object"), Cond.classLink RX9 35 RX3, Cond.instantiable RX3 4, Cond.methodLink RX9 37 yX3_init, Cond.instanceMethod yX3_init]
def gc_1_1 : List Cond := [Cond.code yX3_init cX3_init 1 none, Cond.methodLink RX3 3 objectInit, Cond.fieldLink RX3 18 RX3 "sites" "I", Cond.fieldLink RX9 248 RX3 "sites" "I", Cond.fieldLink RX3 9 RX3 "waste" "[I", Cond.fieldLink RX9 195 RX3 "waste" "[I", Cond.fieldLink RX3 15 RX3 "room" "[I", Cond.fieldLink RX3 22 RX3 "delivered" "I", (Jvm.Cond.lays "Slickboom$Dump" "Slickboom$Dump" "sites" "I"), (Jvm.Cond.soleField "Slickboom$Dump" "sites"), (Jvm.Cond.laysFinal "Slickboom$Dump" "Slickboom$Dump" "waste" "[I"), (Jvm.Cond.soleField "Slickboom$Dump" "waste"), (Jvm.Cond.laysFinal "Slickboom$Dump" "Slickboom$Dump" "room" "[I"), (Jvm.Cond.soleField "Slickboom$Dump" "room"), (Jvm.Cond.lays "Slickboom$Dump" "Slickboom$Dump" "delivered" "I"), (Jvm.Cond.soleField "Slickboom$Dump" "delivered"), (Jvm.Cond.superclass "Slickboom$Dump" "java/lang/Object"), Cond.classLink RX9 42 RX6, Cond.instantiable RX6 5, Cond.methodLink RX9 44 yX6_init, Cond.instanceMethod yX6_init, Cond.code yX6_init cX6_init 1 none, Cond.methodLink RX6 3 objectInit, Cond.fieldLink RX6 15 RX6 "count" "I", Cond.fieldLink RX9 265 RX6 "count" "I", Cond.fieldLink RX6 23 RX6 "owner" "I", Cond.fieldLink RX9 271 RX6 "owner" "I", Cond.fieldLink RX6 26 RX6 "fund" "I", Cond.fieldLink RX9 274 RX6 "fund" "I", Cond.fieldLink RX6 19 RX6 "all" "J", Cond.fieldLink RX6 9 RX6 "cents" "[I", (Jvm.Cond.lays "Slickboom$Payers" "Slickboom$Payers" "count" "I"), (Jvm.Cond.soleField "Slickboom$Payers" "count"), (Jvm.Cond.lays "Slickboom$Payers" "Slickboom$Payers" "owner" "I"), (Jvm.Cond.soleField "Slickboom$Payers" "owner"), (Jvm.Cond.lays "Slickboom$Payers" "Slickboom$Payers" "fund" "I"), (Jvm.Cond.soleField "Slickboom$Payers" "fund"), (Jvm.Cond.lays "Slickboom$Payers" "Slickboom$Payers" "all" "J"), (Jvm.Cond.soleField "Slickboom$Payers" "all"), (Jvm.Cond.laysFinal "Slickboom$Payers" "Slickboom$Payers" "cents" "[I")]
def gc_1_2 : List Cond := [(Jvm.Cond.soleField "Slickboom$Payers" "cents"), (Jvm.Cond.superclass "Slickboom$Payers" "java/lang/Object"), Cond.fieldLink RX9 12 RX9 "bay" "LSlickboom$Bay;", Cond.fieldLink RX9 16 RX9 "trial" "LSlickboom$Bay;", Cond.fieldLink RX9 24 RX9 "nextHour" "LSlickboom$NextHour;", Cond.fieldLink RX9 31 RX9 "rules" "LSlickboom$Rules;", Cond.fieldLink RX9 38 RX9 "dump" "LSlickboom$Dump;", Cond.fieldLink RX9 45 RX9 "payers" "LSlickboom$Payers;", (Jvm.Cond.laysFinal "Slickboom" "Slickboom" "bay" "LSlickboom$Bay;"), (Jvm.Cond.soleField "Slickboom" "bay"), (Jvm.Cond.laysFinal "Slickboom" "Slickboom" "trial" "LSlickboom$Bay;"), (Jvm.Cond.soleField "Slickboom" "trial"), (Jvm.Cond.laysFinal "Slickboom" "Slickboom" "nextHour" "LSlickboom$NextHour;"), (Jvm.Cond.soleField "Slickboom" "nextHour"), (Jvm.Cond.laysFinal "Slickboom" "Slickboom" "rules" "LSlickboom$Rules;"), (Jvm.Cond.soleField "Slickboom" "rules"), (Jvm.Cond.laysFinal "Slickboom" "Slickboom" "dump" "LSlickboom$Dump;"), (Jvm.Cond.soleField "Slickboom" "dump"), (Jvm.Cond.laysFinal "Slickboom" "Slickboom" "payers" "LSlickboom$Payers;"), (Jvm.Cond.soleField "Slickboom" "payers"), (Jvm.Cond.superclass "Slickboom" "java/lang/Object"), Cond.methodLink RL 118 yL_shore, Cond.static yL_shore, (Jvm.Cond.codeWith ({ cls := "SlickboomLaw", name := "shore", desc := "(LSlickboom;II[J)I" } : Jvm.MethodName) method_3_code (5 : Nat) (Option.some Jvm.ClassFile.FieldType.int) [((0 : Nat), (10 : Nat), (13 : Nat), (13 : Nat)), ((0 : Nat), (10 : Nat), (17 : Nat), (15 : Nat)), ((0 : Nat), (10 : Nat), (21 : Nat), (17 : Nat))]), Cond.classLink RL 13 "java/lang/IndexOutOfBoundsException", Cond.classLink RL 15 "java/lang/IllegalArgumentException", Cond.classLink RL 17 "java/lang/IllegalStateException", Cond.methodLink RL 7 yX9_shore, Cond.instanceMethod yX9_shore, Cond.selects RX9 yX9_shore yX9_shore, Cond.code yX9_shore cX9_shore 4 (some .int), Cond.methodLink RX9 49 yX9_needNumber, Cond.static yX9_needNumber, Cond.code yX9_needNumber cX9_needNumber 2 none, Cond.classLink RX9 340 "java/lang/IndexOutOfBoundsException", Cond.instantiable "java/lang/IndexOutOfBoundsException" 6, (Jvm.Cond.castable "java/lang/IndexOutOfBoundsException" "java/lang/IndexOutOfBoundsException"), (Jvm.Cond.declares ({ cls := "java/lang/RuntimeException", name := "<init>", desc := "()V" } : Jvm.MethodName)), (Jvm.Cond.declares ({ cls := "java/lang/RuntimeException", name := "<init>", desc := "(Ljava/lang/String;)V" } : Jvm.MethodName)), (Jvm.Cond.declares ({ cls := "java/lang/Exception", name := "<init>", desc := "()V" } : Jvm.MethodName))]
def gc_1_3 : List Cond := [(Jvm.Cond.declares ({ cls := "java/lang/Exception", name := "<init>", desc := "(Ljava/lang/String;)V" } : Jvm.MethodName)), (Jvm.Cond.declares ({ cls := "java/lang/Throwable", name := "<init>", desc := "()V" } : Jvm.MethodName)), (Jvm.Cond.declares ({ cls := "java/lang/Throwable", name := "<init>", desc := "(Ljava/lang/String;)V" } : Jvm.MethodName)), (Jvm.Cond.selects "java/lang/IndexOutOfBoundsException" ({ cls := "java/lang/Throwable", name := "fillInStackTrace", desc := "(I)Ljava/lang/Throwable;" } : Jvm.MethodName) ({ cls := "java/lang/Throwable", name := "fillInStackTrace", desc := "(I)Ljava/lang/Throwable;" } : Jvm.MethodName)), (Jvm.Cond.selects "java/lang/IndexOutOfBoundsException" ({ cls := "java/lang/Throwable", name := "fillInStackTrace", desc := "()Ljava/lang/Throwable;" } : Jvm.MethodName) ({ cls := "java/lang/Throwable", name := "fillInStackTrace", desc := "()Ljava/lang/Throwable;" } : Jvm.MethodName)), (Jvm.Cond.lays "java/lang/IndexOutOfBoundsException" "java/lang/Throwable" "cause" "Ljava/lang/Throwable;"), (Jvm.Cond.lays "java/lang/Throwable" "java/lang/Throwable" "cause" "Ljava/lang/Throwable;"), (Jvm.Cond.lays "java/lang/IndexOutOfBoundsException" "java/lang/Throwable" "stackTrace" "[Ljava/lang/StackTraceElement;"), (Jvm.Cond.lays "java/lang/Throwable" "java/lang/Throwable" "stackTrace" "[Ljava/lang/StackTraceElement;"), (Jvm.Cond.lays "java/lang/IndexOutOfBoundsException" "java/lang/Throwable" "suppressedExceptions" "Ljava/util/List;"), (Jvm.Cond.lays "java/lang/Throwable" "java/lang/Throwable" "suppressedExceptions" "Ljava/util/List;"), (Jvm.Cond.lays "java/lang/IndexOutOfBoundsException" "java/lang/Throwable" "detailMessage" "Ljava/lang/String;"), (Jvm.Cond.lays "java/lang/Throwable" "java/lang/Throwable" "detailMessage" "Ljava/lang/String;"), (Jvm.Cond.lays "java/lang/IndexOutOfBoundsException" "java/lang/Throwable" "backtrace" "Ljava/lang/Object;"), (Jvm.Cond.lays "java/lang/Throwable" "java/lang/Throwable" "backtrace" "Ljava/lang/Object;"), Cond.fieldLink "java/lang/Throwable" 198 "java/lang/Throwable" "backtrace" "Ljava/lang/Object;", (Jvm.Cond.superclass "java/lang/Throwable" "java/lang/Object"), Cond.instanceMethod ⟨"java/lang/Throwable", "<init>", "()V"⟩, (Jvm.Cond.code ({ cls := "java/lang/Throwable", name := "<init>", desc := "()V" } : Jvm.MethodName) prog_22_method_1_code (1 : Nat) (Option.none : Option Jvm.ClassFile.FieldType)), Cond.methodLink "java/lang/Throwable" 1 objectInit, Cond.fieldLink "java/lang/Throwable" 13 "java/lang/Throwable" "UNASSIGNED_STACK" "[Ljava/lang/StackTraceElement;", (Jvm.Cond.laysStatic "java/lang/Throwable" "UNASSIGNED_STACK" "[Ljava/lang/StackTraceElement;"), Cond.fieldLink "java/lang/Throwable" 20 "java/lang/Throwable" "SUPPRESSED_SENTINEL" "Ljava/util/List;", (Jvm.Cond.laysStatic "java/lang/Throwable" "SUPPRESSED_SENTINEL" "Ljava/util/List;"), Cond.methodLink "java/lang/Throwable" 27 ⟨"java/lang/Throwable", "fillInStackTrace", "()Ljava/lang/Throwable;"⟩, Cond.instanceMethod ⟨"java/lang/Throwable", "fillInStackTrace", "()Ljava/lang/Throwable;"⟩, (Jvm.Cond.sameMethod "java/lang/Throwable" "java/lang/Throwable" "fillInStackTrace" "()Ljava/lang/Throwable;"), (Jvm.Cond.selects "java/lang/IllegalArgumentException" ({ cls := "java/lang/Throwable", name := "fillInStackTrace", desc := "()Ljava/lang/Throwable;" } : Jvm.MethodName) ({ cls := "java/lang/Throwable", name := "fillInStackTrace", desc := "()Ljava/lang/Throwable;" } : Jvm.MethodName)), (Jvm.Cond.selects "java/lang/IllegalStateException" ({ cls := "java/lang/Throwable", name := "fillInStackTrace", desc := "()Ljava/lang/Throwable;" } : Jvm.MethodName) ({ cls := "java/lang/Throwable", name := "fillInStackTrace", desc := "()Ljava/lang/Throwable;" } : Jvm.MethodName)), (Jvm.Cond.codeSync ({ cls := "java/lang/Throwable", name := "fillInStackTrace", desc := "()Ljava/lang/Throwable;" } : Jvm.MethodName) prog_22_method_18_code (1 : Nat) (Option.some (Jvm.ClassFile.FieldType.object "java/lang/Throwable"))), Cond.methodLink "java/lang/Throwable" 202 ⟨"java/lang/Throwable", "fillInStackTrace", "(I)Ljava/lang/Throwable;"⟩, (Jvm.Cond.privateMethod ({ cls := "java/lang/Throwable", name := "fillInStackTrace", desc := "(I)Ljava/lang/Throwable;" } : Jvm.MethodName)), Cond.instanceMethod ⟨"java/lang/Throwable", "fillInStackTrace", "(I)Ljava/lang/Throwable;"⟩, Cond.instantiable "java/lang/Throwable" 6, Cond.native ⟨"java/lang/Throwable", "fillInStackTrace", "(I)Ljava/lang/Throwable;"⟩, (Jvm.Cond.stringRef "Slickboom" (342 : Nat) "there is none with such a number"), Cond.methodLink RX9 344 ⟨"java/lang/IndexOutOfBoundsException", "<init>", "(Ljava/lang/String;)V"⟩, Cond.instanceMethod ⟨"java/lang/IndexOutOfBoundsException", "<init>", "(Ljava/lang/String;)V"⟩, (Jvm.Cond.code ({ cls := "java/lang/IndexOutOfBoundsException", name := "<init>", desc := "(Ljava/lang/String;)V" } : Jvm.MethodName) prog_16_method_2_code (2 : Nat) (Option.none : Option Jvm.ClassFile.FieldType)), Cond.methodLink "java/lang/IndexOutOfBoundsException" 7 ⟨"java/lang/RuntimeException", "<init>", "(Ljava/lang/String;)V"⟩]
def gc_1_4 : List Cond := [Cond.instanceMethod ⟨"java/lang/RuntimeException", "<init>", "(Ljava/lang/String;)V"⟩, (Jvm.Cond.code ({ cls := "java/lang/RuntimeException", name := "<init>", desc := "(Ljava/lang/String;)V" } : Jvm.MethodName) prog_19_method_2_code (2 : Nat) (Option.none : Option Jvm.ClassFile.FieldType)), Cond.methodLink "java/lang/RuntimeException" 7 ⟨"java/lang/Exception", "<init>", "(Ljava/lang/String;)V"⟩, Cond.instanceMethod ⟨"java/lang/Exception", "<init>", "(Ljava/lang/String;)V"⟩, (Jvm.Cond.code ({ cls := "java/lang/Exception", name := "<init>", desc := "(Ljava/lang/String;)V" } : Jvm.MethodName) prog_13_method_2_code (2 : Nat) (Option.none : Option Jvm.ClassFile.FieldType)), Cond.methodLink "java/lang/Exception" 7 ⟨"java/lang/Throwable", "<init>", "(Ljava/lang/String;)V"⟩, Cond.instanceMethod ⟨"java/lang/Throwable", "<init>", "(Ljava/lang/String;)V"⟩, (Jvm.Cond.code ({ cls := "java/lang/Throwable", name := "<init>", desc := "(Ljava/lang/String;)V" } : Jvm.MethodName) prog_22_method_2_code (2 : Nat) (Option.none : Option Jvm.ClassFile.FieldType)), (Jvm.Cond.fieldLink "java/lang/Throwable" (198 : Nat) "java/lang/Throwable" "backtrace" "Ljava/lang/Object;"), Cond.fieldLink "java/lang/Throwable" 31 "java/lang/Throwable" "detailMessage" "Ljava/lang/String;", Cond.fieldLink "java/lang/Throwable" 7 "java/lang/Throwable" "cause" "Ljava/lang/Throwable;", Cond.fieldLink "java/lang/Throwable" 17 "java/lang/Throwable" "stackTrace" "[Ljava/lang/StackTraceElement;", Cond.fieldLink "java/lang/Throwable" 24 "java/lang/Throwable" "suppressedExceptions" "Ljava/util/List;", (Jvm.Cond.soleField "java/lang/Throwable" "backtrace"), (Jvm.Cond.soleField "java/lang/Throwable" "detailMessage"), (Jvm.Cond.soleField "java/lang/Throwable" "cause"), (Jvm.Cond.soleField "java/lang/Throwable" "stackTrace"), (Jvm.Cond.lays "java/lang/IndexOutOfBoundsException" "java/lang/Throwable" "depth" "I"), (Jvm.Cond.soleField "java/lang/Throwable" "depth"), (Jvm.Cond.soleField "java/lang/Throwable" "suppressedExceptions"), (Jvm.Cond.superclass "java/lang/IndexOutOfBoundsException" "java/lang/RuntimeException"), Cond.arrayClass .byte, Cond.methodLink RX9 53 yX9_needRange, Cond.static yX9_needRange, Cond.code yX9_needRange cX9_needRange 3 none, Cond.classLink RX9 128 "java/lang/IllegalArgumentException", Cond.instantiable "java/lang/IllegalArgumentException" 6, (Jvm.Cond.castable "java/lang/IllegalArgumentException" "java/lang/IllegalArgumentException"), (Jvm.Cond.selects "java/lang/IllegalArgumentException" ({ cls := "java/lang/Throwable", name := "fillInStackTrace", desc := "(I)Ljava/lang/Throwable;" } : Jvm.MethodName) ({ cls := "java/lang/Throwable", name := "fillInStackTrace", desc := "(I)Ljava/lang/Throwable;" } : Jvm.MethodName)), (Jvm.Cond.lays "java/lang/IllegalArgumentException" "java/lang/Throwable" "cause" "Ljava/lang/Throwable;"), (Jvm.Cond.lays "java/lang/IllegalArgumentException" "java/lang/Throwable" "stackTrace" "[Ljava/lang/StackTraceElement;"), (Jvm.Cond.lays "java/lang/IllegalArgumentException" "java/lang/Throwable" "suppressedExceptions" "Ljava/util/List;"), (Jvm.Cond.lays "java/lang/IllegalArgumentException" "java/lang/Throwable" "detailMessage" "Ljava/lang/String;"), (Jvm.Cond.lays "java/lang/IllegalArgumentException" "java/lang/Throwable" "backtrace" "Ljava/lang/Object;"), (Jvm.Cond.stringRef "Slickboom" (345 : Nat) "an argument is out of range"), Cond.methodLink RX9 132 ⟨"java/lang/IllegalArgumentException", "<init>", "(Ljava/lang/String;)V"⟩, Cond.instanceMethod ⟨"java/lang/IllegalArgumentException", "<init>", "(Ljava/lang/String;)V"⟩, (Jvm.Cond.code ({ cls := "java/lang/IllegalArgumentException", name := "<init>", desc := "(Ljava/lang/String;)V" } : Jvm.MethodName) prog_14_method_2_code (2 : Nat) (Option.none : Option Jvm.ClassFile.FieldType)), Cond.methodLink "java/lang/IllegalArgumentException" 7 ⟨"java/lang/RuntimeException", "<init>", "(Ljava/lang/String;)V"⟩, (Jvm.Cond.lays "java/lang/IllegalArgumentException" "java/lang/Throwable" "depth" "I")]
def gc_1_5 : List Cond := [(Jvm.Cond.superclass "java/lang/IllegalArgumentException" "java/lang/RuntimeException"), Cond.classLink RX9 61 "java/lang/IllegalStateException", Cond.instantiable "java/lang/IllegalStateException" 6, (Jvm.Cond.castable "java/lang/IllegalStateException" "java/lang/IllegalStateException"), (Jvm.Cond.selects "java/lang/IllegalStateException" ({ cls := "java/lang/Throwable", name := "fillInStackTrace", desc := "(I)Ljava/lang/Throwable;" } : Jvm.MethodName) ({ cls := "java/lang/Throwable", name := "fillInStackTrace", desc := "(I)Ljava/lang/Throwable;" } : Jvm.MethodName)), (Jvm.Cond.lays "java/lang/IllegalStateException" "java/lang/Throwable" "cause" "Ljava/lang/Throwable;"), (Jvm.Cond.lays "java/lang/IllegalStateException" "java/lang/Throwable" "stackTrace" "[Ljava/lang/StackTraceElement;"), (Jvm.Cond.lays "java/lang/IllegalStateException" "java/lang/Throwable" "suppressedExceptions" "Ljava/util/List;"), (Jvm.Cond.lays "java/lang/IllegalStateException" "java/lang/Throwable" "detailMessage" "Ljava/lang/String;"), (Jvm.Cond.lays "java/lang/IllegalStateException" "java/lang/Throwable" "backtrace" "Ljava/lang/Object;"), (Jvm.Cond.stringRef "Slickboom" (63 : Nat) "the HOUR is not 0"), Cond.methodLink RX9 65 ⟨"java/lang/IllegalStateException", "<init>", "(Ljava/lang/String;)V"⟩, Cond.instanceMethod ⟨"java/lang/IllegalStateException", "<init>", "(Ljava/lang/String;)V"⟩, (Jvm.Cond.code ({ cls := "java/lang/IllegalStateException", name := "<init>", desc := "(Ljava/lang/String;)V" } : Jvm.MethodName) prog_15_method_2_code (2 : Nat) (Option.none : Option Jvm.ClassFile.FieldType)), Cond.methodLink "java/lang/IllegalStateException" 7 ⟨"java/lang/RuntimeException", "<init>", "(Ljava/lang/String;)V"⟩, (Jvm.Cond.lays "java/lang/IllegalStateException" "java/lang/Throwable" "depth" "I"), (Jvm.Cond.superclass "java/lang/IllegalStateException" "java/lang/RuntimeException"), Cond.methodLink RX9 72 yX8_isAnyAt, Cond.instanceMethod yX8_isAnyAt, Cond.selects RX8 yX8_isAnyAt yX8_isAnyAt, Cond.code yX8_isAnyAt cX8_isAnyAt 3 (some .boolean), Cond.methodLink RX9 82 yX4_isSkimmerAt, Cond.instanceMethod yX4_isSkimmerAt, Cond.selects RX4 yX4_isSkimmerAt yX4_isSkimmerAt, Cond.code yX4_isSkimmerAt cX4_isSkimmerAt 3 (some .boolean), Cond.methodLink RX4 41 yX4_isSkimmer, Cond.instanceMethod yX4_isSkimmer, Cond.selects RX4 yX4_isSkimmer yX4_isSkimmer, Cond.code yX4_isSkimmer cX4_isSkimmer 3 (some .boolean), (Jvm.Cond.stringRef "Slickboom" (87 : Nat) "a SHIP or a SKIMMER is there"), Cond.methodLink RX9 99 yX2_become, Cond.instanceMethod yX2_become, Cond.selects RX2 yX2_become yX2_become, Cond.code yX2_become cX2_become 3 none, Cond.methodLink RL 128 yL_depth, Cond.static yL_depth, (Jvm.Cond.codeWith ({ cls := "SlickboomLaw", name := "depth", desc := "(LSlickboom;II[J)I" } : Jvm.MethodName) method_4_code (5 : Nat) (Option.some Jvm.ClassFile.FieldType.int) [((0 : Nat), (10 : Nat), (13 : Nat), (13 : Nat)), ((0 : Nat), (10 : Nat), (17 : Nat), (15 : Nat)), ((0 : Nat), (10 : Nat), (21 : Nat), (17 : Nat))]), Cond.methodLink RL 19 yX9_depth, Cond.instanceMethod yX9_depth, Cond.selects RX9 yX9_depth yX9_depth]
set_option maxRecDepth 100000 in
theorem tb_1 : tables_1_2 = gc_1_0 ++ (gc_1_1 ++ (gc_1_2 ++ (gc_1_3 ++ (gc_1_4 ++ (gc_1_5))))) := rfl
theorem in_1_0 : ∀ w ∈ gc_1_0, w ∈ lw_tbl := fun w h => List.mem_append_right _ (show w ∈ tables_1 from List.mem_append_right _ (List.mem_append_left _ (show w ∈ tables_1_2 by rw [tb_1]; exact List.mem_append_left _ h)))
theorem in_1_1 : ∀ w ∈ gc_1_1, w ∈ lw_tbl := fun w h => List.mem_append_right _ (show w ∈ tables_1 from List.mem_append_right _ (List.mem_append_left _ (show w ∈ tables_1_2 by rw [tb_1]; exact List.mem_append_right _ (List.mem_append_left _ h))))
theorem in_1_2 : ∀ w ∈ gc_1_2, w ∈ lw_tbl := fun w h => List.mem_append_right _ (show w ∈ tables_1 from List.mem_append_right _ (List.mem_append_left _ (show w ∈ tables_1_2 by rw [tb_1]; exact List.mem_append_right _ (List.mem_append_right _ (List.mem_append_left _ h)))))
theorem in_1_3 : ∀ w ∈ gc_1_3, w ∈ lw_tbl := fun w h => List.mem_append_right _ (show w ∈ tables_1 from List.mem_append_right _ (List.mem_append_left _ (show w ∈ tables_1_2 by rw [tb_1]; exact List.mem_append_right _ (List.mem_append_right _ (List.mem_append_right _ (List.mem_append_left _ h))))))
theorem in_1_4 : ∀ w ∈ gc_1_4, w ∈ lw_tbl := fun w h => List.mem_append_right _ (show w ∈ tables_1 from List.mem_append_right _ (List.mem_append_left _ (show w ∈ tables_1_2 by rw [tb_1]; exact List.mem_append_right _ (List.mem_append_right _ (List.mem_append_right _ (List.mem_append_right _ (List.mem_append_left _ h)))))))
theorem in_1_5 : ∀ w ∈ gc_1_5, w ∈ lw_tbl := fun w h => List.mem_append_right _ (show w ∈ tables_1 from List.mem_append_right _ (List.mem_append_left _ (show w ∈ tables_1_2 by rw [tb_1]; exact List.mem_append_right _ (List.mem_append_right _ (List.mem_append_right _ (List.mem_append_right _ (List.mem_append_right _ (h))))))))
def gc_2_0 : List Cond := [Cond.code yX9_depth cX9_depth 4 (some .int), Cond.methodLink RX9 102 yX9_needWater, (Jvm.Cond.privateMethod ({ cls := "Slickboom", name := "needWater", desc := "(I)V" } : Jvm.MethodName)), Cond.instanceMethod yX9_needWater, Cond.code yX9_needWater cX9_needWater 2 none, Cond.methodLink RX9 291 yX2_isWater, Cond.instanceMethod yX2_isWater, Cond.selects RX2 yX2_isWater yX2_isWater, Cond.code yX2_isWater cX2_isWater 2 (some .boolean), (Jvm.Cond.stringRef "Slickboom" (347 : Nat) "the CELL is a SHORE"), Cond.methodLink RL 131 yL_wind, Cond.static yL_wind, (Jvm.Cond.codeWith ({ cls := "SlickboomLaw", name := "wind", desc := "(LSlickboom;II[J)I" } : Jvm.MethodName) method_5_code (5 : Nat) (Option.some Jvm.ClassFile.FieldType.int) [((0 : Nat), (10 : Nat), (13 : Nat), (15 : Nat))]), Cond.methodLink RL 22 yX9_wind, Cond.instanceMethod yX9_wind, Cond.selects RX9 yX9_wind yX9_wind, Cond.code yX9_wind cX9_wind 4 (some .int), Cond.methodLink RL 134 yL_ship, Cond.static yL_ship, (Jvm.Cond.codeWith ({ cls := "SlickboomLaw", name := "ship", desc := "(LSlickboom;II[J)I" } : Jvm.MethodName) method_6_code (5 : Nat) (Option.some Jvm.ClassFile.FieldType.int) [((0 : Nat), (10 : Nat), (13 : Nat), (13 : Nat)), ((0 : Nat), (10 : Nat), (17 : Nat), (15 : Nat)), ((0 : Nat), (10 : Nat), (21 : Nat), (17 : Nat))]), Cond.methodLink RL 25 yX9_ship, Cond.instanceMethod yX9_ship, Cond.selects RX9 yX9_ship yX9_ship, Cond.code yX9_ship cX9_ship 3 (some .int), Cond.constant RX9 115 100000, (Jvm.Cond.stringRef "Slickboom" (119 : Nat) "there are 4 SHIPS"), Cond.methodLink RX9 121 yX8_add, Cond.instanceMethod yX8_add, Cond.selects RX8 yX8_add yX8_add, Cond.code yX8_add cX8_add 4 (some .int), Cond.methodLink RL 137 yL_hole, Cond.static yL_hole, (Jvm.Cond.codeWith ({ cls := "SlickboomLaw", name := "hole", desc := "(LSlickboom;II[J)I" } : Jvm.MethodName) method_7_code (5 : Nat) (Option.some Jvm.ClassFile.FieldType.int) [((0 : Nat), (10 : Nat), (13 : Nat), (13 : Nat)), ((0 : Nat), (10 : Nat), (17 : Nat), (15 : Nat))]), Cond.methodLink RL 28 yX9_hole, Cond.instanceMethod yX9_hole, Cond.selects RX9 yX9_hole yX9_hole, Cond.code yX9_hole cX9_hole 4 (some .int), Cond.methodLink RL 140 yL_pump, Cond.static yL_pump, (Jvm.Cond.codeWith ({ cls := "SlickboomLaw", name := "pump", desc := "(LSlickboom;III[J)I" } : Jvm.MethodName) method_8_code (6 : Nat) (Option.some Jvm.ClassFile.FieldType.int) [((0 : Nat), (12 : Nat), (15 : Nat), (13 : Nat)), ((0 : Nat), (12 : Nat), (19 : Nat), (15 : Nat)), ((0 : Nat), (12 : Nat), (23 : Nat), (17 : Nat))])]
def gc_2_1 : List Cond := [Cond.methodLink RL 31 yX9_pump, Cond.instanceMethod yX9_pump, Cond.selects RX9 yX9_pump yX9_pump, Cond.code yX9_pump cX9_pump 5 (some .int), (Jvm.Cond.stringRef "Slickboom" (130 : Nat) "both SHIPS are the same"), (Jvm.Cond.stringRef "Slickboom" (136 : Nat) "the SHIP has fewer, or the other one no room"), Cond.methodLink RL 144 yL_shipHas, Cond.static yL_shipHas, (Jvm.Cond.codeWith ({ cls := "SlickboomLaw", name := "shipHas", desc := "(LSlickboom;I[J)I" } : Jvm.MethodName) method_9_code (4 : Nat) (Option.some Jvm.ClassFile.FieldType.int) [((0 : Nat), (9 : Nat), (12 : Nat), (13 : Nat))]), Cond.methodLink RL 35 yX9_shipHas, Cond.instanceMethod yX9_shipHas, Cond.selects RX9 yX9_shipHas yX9_shipHas, Cond.code yX9_shipHas cX9_shipHas 2 (some .int), Cond.methodLink RL 148 yL_pass, Cond.static yL_pass, (Jvm.Cond.codeWith ({ cls := "SlickboomLaw", name := "pass", desc := "(LSlickboom;I[J)I" } : Jvm.MethodName) method_10_code (4 : Nat) (Option.some Jvm.ClassFile.FieldType.int) [((0 : Nat), (9 : Nat), (12 : Nat), (15 : Nat)), ((0 : Nat), (9 : Nat), (15 : Nat), (17 : Nat))]), Cond.methodLink RL 39 yX9_pass, Cond.instanceMethod yX9_pass, Cond.selects RX9 yX9_pass yX9_pass, Cond.code yX9_pass cX9_pass 2 (some .int), (Jvm.Cond.stringRef "Slickboom" (138 : Nat) "the HOUR would be above 2000"), Cond.methodLink RX9 140 yX0_letPass, Cond.instanceMethod yX0_letPass, Cond.selects RX0 yX0_letPass yX0_letPass, Cond.code yX0_letPass cX0_letPass 3 none, Cond.methodLink RX0 66 yX0_leak, (Jvm.Cond.privateMethod ({ cls := "Slickboom$Bay", name := "leak", desc := "()V" } : Jvm.MethodName)), Cond.instanceMethod yX0_leak, Cond.code yX0_leak cX0_leak 4 none, Cond.methodLink RX0 75 yX0_tideOf, Cond.static yX0_tideOf, Cond.code yX0_tideOf cX0_tideOf 2 (some .int), Cond.methodLink RX0 91 yX8_leakOf, Cond.instanceMethod yX8_leakOf, Cond.selects RX8 yX8_leakOf yX8_leakOf, Cond.code yX8_leakOf cX8_leakOf 4 (some .int), Cond.methodLink RX8 25 Lib.Math.min.name, Cond.static Lib.Math.min.name, Cond.code Lib.Math.min.name Lib.Math.min.code 2 (some .int), Cond.methodLink RX0 104 yX1_noteLeak]
def gc_2_2 : List Cond := [Cond.instanceMethod yX1_noteLeak, Cond.selects RX1 yX1_noteLeak yX1_noteLeak, Cond.code yX1_noteLeak cX1_noteLeak 3 none, Cond.methodLink RX0 69 yX0_weather, (Jvm.Cond.privateMethod ({ cls := "Slickboom$Bay", name := "weather", desc := "()V" } : Jvm.MethodName)), Cond.instanceMethod yX0_weather, Cond.code yX0_weather cX0_weather 5 none, Cond.methodLink RX0 72 yX0_drift, (Jvm.Cond.privateMethod ({ cls := "Slickboom$Bay", name := "drift", desc := "()V" } : Jvm.MethodName)), Cond.instanceMethod yX0_drift, Cond.code yX0_drift cX0_drift 2 none, Cond.methodLink RX0 117 yX0_findWhatGoes, (Jvm.Cond.privateMethod ({ cls := "Slickboom$Bay", name := "findWhatGoes", desc := "(I)V" } : Jvm.MethodName)), Cond.instanceMethod yX0_findWhatGoes, Cond.code yX0_findWhatGoes cX0_findWhatGoes 6 none, Cond.methodLink RX0 127 yX0_roomBehind, Cond.instanceMethod yX0_roomBehind, Cond.selects RX0 yX0_roomBehind yX0_roomBehind, Cond.code yX0_roomBehind cX0_roomBehind 3 (some .int), Cond.methodLink RX0 121 yX2_beside, Cond.static yX2_beside, Cond.code yX2_beside cX2_beside 4 (some .int), Cond.methodLink RX0 147 yX2_isWater, Cond.constant RX0 151 1000000, Cond.methodLink RX0 152 yX2_roomOf, Cond.instanceMethod yX2_roomOf, Cond.selects RX2 yX2_roomOf yX2_roomOf, Cond.code yX2_roomOf cX2_roomOf 2 (some .int), (Jvm.Cond.fieldLinkNest "Slickboom$Cells" (50 : Nat) "Slickboom" "HOLDS" "[I" "Slickboom"), (Jvm.Cond.laysStatic "Slickboom" "HOLDS" "[I"), Cond.methodLink RX0 130 yX0_blown, Cond.instanceMethod yX0_blown, Cond.selects RX0 yX0_blown yX0_blown, Cond.code yX0_blown cX0_blown 3 (some .int), Cond.methodLink RX0 142 Lib.Math.min.name, Cond.methodLink RX0 133 yX4_boomOn, Cond.instanceMethod yX4_boomOn, Cond.selects RX4 yX4_boomOn yX4_boomOn, Cond.code yX4_boomOn cX4_boomOn 6 (some .int), Cond.methodLink RX4 45 yX2_beside]
def gc_2_3 : List Cond := [Cond.methodLink RX4 51 yX2_opposite, Cond.static yX2_opposite, Cond.code yX2_opposite cX2_opposite 1 (some .int), Cond.methodLink RX0 124 yX0_letGo, (Jvm.Cond.privateMethod ({ cls := "Slickboom$Bay", name := "letGo", desc := "(II)V" } : Jvm.MethodName)), Cond.instanceMethod yX0_letGo, Cond.code yX0_letGo cX0_letGo 5 none, Cond.methodLink RX0 79 yX0_giveBack, (Jvm.Cond.privateMethod ({ cls := "Slickboom$Bay", name := "giveBack", desc := "()V" } : Jvm.MethodName)), Cond.instanceMethod yX0_giveBack, Cond.code yX0_giveBack cX0_giveBack 4 none, Cond.methodLink RX0 161 yX2_lowestWaterBeside, Cond.instanceMethod yX2_lowestWaterBeside, Cond.selects RX2 yX2_lowestWaterBeside yX2_lowestWaterBeside, Cond.code yX2_lowestWaterBeside cX2_lowestWaterBeside 5 (some .int), Cond.methodLink RX2 42 yX2_beside, Cond.methodLink RX2 46 yX2_isWater, Cond.methodLink RX0 164 yX2_backOf, Cond.instanceMethod yX2_backOf, Cond.selects RX2 yX2_backOf yX2_backOf, Cond.code yX2_backOf cX2_backOf 4 (some .int), (Jvm.Cond.fieldLinkNest "Slickboom$Cells" (53 : Nat) "Slickboom" "BACK_PARTS" "[I" "Slickboom"), (Jvm.Cond.laysStatic "Slickboom" "BACK_PARTS" "[I"), Cond.methodLink RX0 82 yX0_skim, (Jvm.Cond.privateMethod ({ cls := "Slickboom$Bay", name := "skim", desc := "()V" } : Jvm.MethodName)), Cond.instanceMethod yX0_skim, Cond.code yX0_skim cX0_skim 5 none, Cond.methodLink RX0 172 yX4_freshTaken, Cond.instanceMethod yX4_freshTaken, Cond.selects RX4 yX4_freshTaken yX4_freshTaken, Cond.code yX4_freshTaken cX4_freshTaken 4 (some .int), Cond.methodLink RX4 55 Lib.Math.min.name, Cond.methodLink RX0 175 yX4_thickTaken, Cond.instanceMethod yX4_thickTaken, Cond.selects RX4 yX4_thickTaken yX4_thickTaken, Cond.code yX4_thickTaken cX4_thickTaken 5 (some .int), Cond.methodLink RX0 85 yX0_harmShores, (Jvm.Cond.privateMethod ({ cls := "Slickboom$Bay", name := "harmShores", desc := "()V" } : Jvm.MethodName)), Cond.instanceMethod yX0_harmShores, Cond.code yX0_harmShores cX0_harmShores 2 none]
def gc_2_4 : List Cond := [Cond.methodLink RX0 179 yX2_oilBirds, Cond.instanceMethod yX2_oilBirds, Cond.selects RX2 yX2_oilBirds yX2_oilBirds, Cond.code yX2_oilBirds cX2_oilBirds 3 none, Cond.methodLink RX2 62 Lib.Math.min.name, Cond.methodLink RX0 182 yX2_isTooDirty, Cond.instanceMethod yX2_isTooDirty, Cond.selects RX2 yX2_isTooDirty yX2_isTooDirty, Cond.code yX2_isTooDirty cX2_isTooDirty 2 (some .boolean), Cond.methodLink RL 151 yL_at, Cond.static yL_at, (Jvm.Cond.codeWith ({ cls := "SlickboomLaw", name := "at", desc := "(LSlickboom;II[J)I" } : Jvm.MethodName) method_11_code (5 : Nat) (Option.some Jvm.ClassFile.FieldType.int) [((0 : Nat), (10 : Nat), (13 : Nat), (13 : Nat)), ((0 : Nat), (10 : Nat), (17 : Nat), (15 : Nat))]), Cond.methodLink RL 42 yX9_at, Cond.instanceMethod yX9_at, Cond.selects RX9 yX9_at yX9_at, Cond.code yX9_at cX9_at 4 (some .int), Cond.methodLink RX9 161 yX2_isClean, Cond.instanceMethod yX2_isClean, Cond.selects RX2 yX2_isClean yX2_isClean, Cond.code yX2_isClean cX2_isClean 2 (some .boolean), Cond.methodLink RX2 56 yJ6_bitCount_0f7a4, Cond.static yJ6_bitCount_0f7a4, Cond.code yJ6_bitCount_0f7a4 cJ6_bitCount_0f7a4 1 (some .int), Cond.constant RJ6 265 1431655765, Cond.constant RJ6 266 858993459, Cond.constant RJ6 267 252645135, Cond.methodLink RL 154 yL_boom, Cond.static yL_boom, (Jvm.Cond.codeWith ({ cls := "SlickboomLaw", name := "boom", desc := "(LSlickboom;III[J)I" } : Jvm.MethodName) method_12_code (6 : Nat) (Option.some Jvm.ClassFile.FieldType.int) [((0 : Nat), (12 : Nat), (15 : Nat), (13 : Nat)), ((0 : Nat), (12 : Nat), (19 : Nat), (15 : Nat)), ((0 : Nat), (12 : Nat), (23 : Nat), (17 : Nat))]), Cond.methodLink RL 45 yX9_boom, Cond.instanceMethod yX9_boom, Cond.selects RX9 yX9_boom yX9_boom, Cond.code yX9_boom cX9_boom 5 (some .int), Cond.methodLink RX9 164 yX4_boomOn, (Jvm.Cond.stringRef "Slickboom" (167 : Nat) "there is a BOOM on that border"), Cond.methodLink RX9 169 yX9_needRoomForMeans, (Jvm.Cond.privateMethod ({ cls := "Slickboom", name := "needRoomForMeans", desc := "()V" } : Jvm.MethodName)), Cond.instanceMethod yX9_needRoomForMeans, Cond.code yX9_needRoomForMeans cX9_needRoomForMeans 1 none, (Jvm.Cond.stringRef "Slickboom" (351 : Nat) "there are 20 means")]
def gc_2_5 : List Cond := [Cond.methodLink RX9 172 yX4_add, Cond.instanceMethod yX4_add, Cond.selects RX4 yX4_add yX4_add, Cond.code yX4_add cX4_add 5 (some .int), Cond.methodLink RL 157 yL_skimmer, Cond.static yL_skimmer, (Jvm.Cond.codeWith ({ cls := "SlickboomLaw", name := "skimmer", desc := "(LSlickboom;III[J)I" } : Jvm.MethodName) method_13_code (6 : Nat) (Option.some Jvm.ClassFile.FieldType.int) [((0 : Nat), (12 : Nat), (15 : Nat), (13 : Nat)), ((0 : Nat), (12 : Nat), (19 : Nat), (15 : Nat)), ((0 : Nat), (12 : Nat), (23 : Nat), (17 : Nat))]), Cond.methodLink RL 48 yX9_skimmer, Cond.instanceMethod yX9_skimmer, Cond.selects RX9 yX9_skimmer yX9_skimmer, Cond.code yX9_skimmer cX9_skimmer 5 (some .int), Cond.methodLink RL 160 yL_team, Cond.static yL_team, (Jvm.Cond.codeWith ({ cls := "SlickboomLaw", name := "team", desc := "(LSlickboom;IZ[J)I" } : Jvm.MethodName) method_14_code (5 : Nat) (Option.some Jvm.ClassFile.FieldType.int) [((0 : Nat), (10 : Nat), (13 : Nat), (15 : Nat)), ((0 : Nat), (10 : Nat), (17 : Nat), (17 : Nat))]), Cond.methodLink RL 51 yX9_team, Cond.instanceMethod yX9_team, Cond.selects RX9 yX9_team yX9_team, Cond.code yX9_team cX9_team 4 (some .int), Cond.methodLink RL 164 yL_move, Cond.static yL_move, (Jvm.Cond.codeWith ({ cls := "SlickboomLaw", name := "move", desc := "(LSlickboom;II[J)I" } : Jvm.MethodName) method_15_code (5 : Nat) (Option.some Jvm.ClassFile.FieldType.int) [((0 : Nat), (10 : Nat), (13 : Nat), (13 : Nat)), ((0 : Nat), (10 : Nat), (17 : Nat), (17 : Nat))]), Cond.methodLink RL 55 yX9_move, Cond.instanceMethod yX9_move, Cond.selects RX9 yX9_move yX9_move, Cond.code yX9_move cX9_move 4 (some .int), Cond.methodLink RX9 186 yX9_needSort, (Jvm.Cond.privateMethod ({ cls := "Slickboom", name := "needSort", desc := "(II)V" } : Jvm.MethodName)), Cond.instanceMethod yX9_needSort, Cond.code yX9_needSort cX9_needSort 3 none, (Jvm.Cond.stringRef "Slickboom" (353 : Nat) "the mean is of another sort"), Cond.methodLink RL 167 yL_carry, Cond.static yL_carry, (Jvm.Cond.codeWith ({ cls := "SlickboomLaw", name := "carry", desc := "(LSlickboom;I[J)I" } : Jvm.MethodName) method_16_code (4 : Nat) (Option.some Jvm.ClassFile.FieldType.int) [((0 : Nat), (9 : Nat), (12 : Nat), (13 : Nat)), ((0 : Nat), (9 : Nat), (15 : Nat), (17 : Nat))]), Cond.methodLink RL 58 yX9_carry, Cond.instanceMethod yX9_carry, Cond.selects RX9 yX9_carry yX9_carry, Cond.code yX9_carry cX9_carry 3 (some .int), Cond.methodLink RL 170 yL_teach, Cond.static yL_teach, (Jvm.Cond.codeWith ({ cls := "SlickboomLaw", name := "teach", desc := "(LSlickboom;I[J)I" } : Jvm.MethodName) method_17_code (4 : Nat) (Option.some Jvm.ClassFile.FieldType.int) [((0 : Nat), (16 : Nat), (19 : Nat), (13 : Nat)), ((0 : Nat), (16 : Nat), (22 : Nat), (17 : Nat))])]
set_option maxRecDepth 100000 in
theorem tb_2 : tables_1_3 = gc_2_0 ++ (gc_2_1 ++ (gc_2_2 ++ (gc_2_3 ++ (gc_2_4 ++ (gc_2_5))))) := rfl
theorem in_2_0 : ∀ w ∈ gc_2_0, w ∈ lw_tbl := fun w h => List.mem_append_right _ (show w ∈ tables_1 from List.mem_append_right _ (List.mem_append_right _ (List.mem_append_left _ (show w ∈ tables_1_3 by rw [tb_2]; exact List.mem_append_left _ h))))
theorem in_2_1 : ∀ w ∈ gc_2_1, w ∈ lw_tbl := fun w h => List.mem_append_right _ (show w ∈ tables_1 from List.mem_append_right _ (List.mem_append_right _ (List.mem_append_left _ (show w ∈ tables_1_3 by rw [tb_2]; exact List.mem_append_right _ (List.mem_append_left _ h)))))
theorem in_2_2 : ∀ w ∈ gc_2_2, w ∈ lw_tbl := fun w h => List.mem_append_right _ (show w ∈ tables_1 from List.mem_append_right _ (List.mem_append_right _ (List.mem_append_left _ (show w ∈ tables_1_3 by rw [tb_2]; exact List.mem_append_right _ (List.mem_append_right _ (List.mem_append_left _ h))))))
theorem in_2_3 : ∀ w ∈ gc_2_3, w ∈ lw_tbl := fun w h => List.mem_append_right _ (show w ∈ tables_1 from List.mem_append_right _ (List.mem_append_right _ (List.mem_append_left _ (show w ∈ tables_1_3 by rw [tb_2]; exact List.mem_append_right _ (List.mem_append_right _ (List.mem_append_right _ (List.mem_append_left _ h)))))))
theorem in_2_4 : ∀ w ∈ gc_2_4, w ∈ lw_tbl := fun w h => List.mem_append_right _ (show w ∈ tables_1 from List.mem_append_right _ (List.mem_append_right _ (List.mem_append_left _ (show w ∈ tables_1_3 by rw [tb_2]; exact List.mem_append_right _ (List.mem_append_right _ (List.mem_append_right _ (List.mem_append_right _ (List.mem_append_left _ h))))))))
theorem in_2_5 : ∀ w ∈ gc_2_5, w ∈ lw_tbl := fun w h => List.mem_append_right _ (show w ∈ tables_1 from List.mem_append_right _ (List.mem_append_right _ (List.mem_append_left _ (show w ∈ tables_1_3 by rw [tb_2]; exact List.mem_append_right _ (List.mem_append_right _ (List.mem_append_right _ (List.mem_append_right _ (List.mem_append_right _ (h)))))))))
def gc_3_0 : List Cond := [Cond.methodLink RL 61 yX9_teach, Cond.instanceMethod yX9_teach, Cond.selects RX9 yX9_teach yX9_teach, Cond.code yX9_teach cX9_teach 3 (some .boolean), Cond.methodLink RL 173 yL_clean, Cond.static yL_clean, (Jvm.Cond.codeWith ({ cls := "SlickboomLaw", name := "clean", desc := "(LSlickboom;II[J)I" } : Jvm.MethodName) method_18_code (5 : Nat) (Option.some Jvm.ClassFile.FieldType.int) [((0 : Nat), (10 : Nat), (13 : Nat), (13 : Nat)), ((0 : Nat), (10 : Nat), (17 : Nat), (17 : Nat))]), Cond.methodLink RL 65 yX9_clean, Cond.instanceMethod yX9_clean, Cond.selects RX9 yX9_clean yX9_clean, Cond.code yX9_clean cX9_clean 4 (some .int), Cond.methodLink RX9 198 yX9_needShore, (Jvm.Cond.privateMethod ({ cls := "Slickboom", name := "needShore", desc := "(I)V" } : Jvm.MethodName)), Cond.instanceMethod yX9_needShore, Cond.code yX9_needShore cX9_needShore 2 none, (Jvm.Cond.stringRef "Slickboom" (349 : Nat) "the CELL is WATER"), Cond.methodLink RX9 201 yX4_canWork, Cond.instanceMethod yX4_canWork, Cond.selects RX4 yX4_canWork yX4_canWork, Cond.code yX4_canWork cX4_canWork 3 (some .boolean), Cond.methodLink RX4 60 yX4_hasRested, (Jvm.Cond.privateMethod ({ cls := "Slickboom$Means", name := "hasRested", desc := "(II)Z" } : Jvm.MethodName)), Cond.instanceMethod yX4_hasRested, Cond.code yX4_hasRested cX4_hasRested 3 (some .boolean), (Jvm.Cond.stringRef "Slickboom" (205 : Nat) "the TEAM cannot clean"), Cond.methodLink RX9 207 yX4_noteWork, Cond.instanceMethod yX4_noteWork, Cond.selects RX4 yX4_noteWork yX4_noteWork, Cond.code yX4_noteWork cX4_noteWork 3 none, Cond.methodLink RX9 213 Lib.Math.min.name, Cond.methodLink RL 176 yL_meanIs, Cond.static yL_meanIs, (Jvm.Cond.codeWith ({ cls := "SlickboomLaw", name := "meanIs", desc := "(LSlickboom;II[J)I" } : Jvm.MethodName) method_19_code (5 : Nat) (Option.some Jvm.ClassFile.FieldType.int) [((0 : Nat), (10 : Nat), (13 : Nat), (13 : Nat)), ((0 : Nat), (10 : Nat), (17 : Nat), (15 : Nat))]), Cond.methodLink RL 68 yX9_meanIs, Cond.instanceMethod yX9_meanIs, Cond.selects RX9 yX9_meanIs yX9_meanIs, Cond.code yX9_meanIs cX9_meanIs 3 (some .int), Cond.methodLink RL 179 yL_use, Cond.static yL_use, (Jvm.Cond.codeWith ({ cls := "SlickboomLaw", name := "use", desc := "(LSlickboom;II[J)I" } : Jvm.MethodName) method_20_code (5 : Nat) (Option.some Jvm.ClassFile.FieldType.int) [((0 : Nat), (10 : Nat), (13 : Nat), (13 : Nat)), ((0 : Nat), (10 : Nat), (17 : Nat), (15 : Nat)), ((0 : Nat), (10 : Nat), (21 : Nat), (17 : Nat))])]
def gc_3_1 : List Cond := [Cond.methodLink RL 71 yX9_use, Cond.instanceMethod yX9_use, Cond.selects RX9 yX9_use yX9_use, Cond.code yX9_use cX9_use 3 (some .int), Cond.methodLink RX9 221 yX7_howMany, Cond.instanceMethod yX7_howMany, Cond.selects RX7 yX7_howMany yX7_howMany, Cond.code yX7_howMany cX7_howMany 5 (some .int), Cond.methodLink RX7 45 yX7_isAgainst, (Jvm.Cond.privateMethod ({ cls := "Slickboom$Rules", name := "isAgainst", desc := "(III)Z" } : Jvm.MethodName)), Cond.instanceMethod yX7_isAgainst, Cond.code yX7_isAgainst cX7_isAgainst 6 (some .boolean), Cond.methodLink RX7 30 yX0_hasLeakedWithin, Cond.instanceMethod yX0_hasLeakedWithin, Cond.selects RX0 yX0_hasLeakedWithin yX0_hasLeakedWithin, Cond.code yX0_hasLeakedWithin cX0_hasLeakedWithin 2 (some .boolean), Cond.methodLink RX7 41 yX2_isKindBeside, Cond.instanceMethod yX2_isKindBeside, Cond.selects RX2 yX2_isKindBeside yX2_isKindBeside, Cond.code yX2_isKindBeside cX2_isKindBeside 6 (some .boolean), (Jvm.Cond.stringRef "Slickboom" (224 : Nat) "a rule is against it"), Cond.methodLink RX9 226 yX0_disperse, Cond.instanceMethod yX0_disperse, Cond.selects RX0 yX0_disperse yX0_disperse, Cond.code yX0_disperse cX0_disperse 3 (some .int), Cond.methodLink RX9 230 yX0_burn, Cond.instanceMethod yX0_burn, Cond.selects RX0 yX0_burn yX0_burn, Cond.code yX0_burn cX0_burn 3 (some .int), Cond.methodLink RL 182 yL_why, Cond.static yL_why, (Jvm.Cond.codeWith ({ cls := "SlickboomLaw", name := "why", desc := "(LSlickboom;III[J)I" } : Jvm.MethodName) method_21_code (6 : Nat) (Option.some Jvm.ClassFile.FieldType.int) [((0 : Nat), (12 : Nat), (15 : Nat), (13 : Nat)), ((0 : Nat), (12 : Nat), (19 : Nat), (15 : Nat)), ((0 : Nat), (12 : Nat), (23 : Nat), (17 : Nat))]), Cond.methodLink RL 74 yX9_why, Cond.instanceMethod yX9_why, Cond.selects RX9 yX9_why yX9_why, Cond.code yX9_why cX9_why 4 (some .int), Cond.methodLink RX9 233 yX7_first, Cond.instanceMethod yX7_first, Cond.selects RX7 yX7_first yX7_first, Cond.code yX7_first cX7_first 4 (some .int)]
def gc_3_2 : List Cond := [Cond.methodLink RX9 236 yX7_last, Cond.instanceMethod yX7_last, Cond.selects RX7 yX7_last yX7_last, Cond.code yX7_last cX7_last 4 (some .int), Cond.methodLink RL 185 yL_birds, Cond.static yL_birds, (Jvm.Cond.codeWith ({ cls := "SlickboomLaw", name := "birds", desc := "(LSlickboom;II[J)I" } : Jvm.MethodName) method_22_code (5 : Nat) (Option.some Jvm.ClassFile.FieldType.int) [((0 : Nat), (10 : Nat), (13 : Nat), (13 : Nat)), ((0 : Nat), (10 : Nat), (17 : Nat), (15 : Nat)), ((0 : Nat), (10 : Nat), (21 : Nat), (17 : Nat))]), Cond.methodLink RL 77 yX9_birds, Cond.instanceMethod yX9_birds, Cond.selects RX9 yX9_birds yX9_birds, Cond.code yX9_birds cX9_birds 3 (some .int), (Jvm.Cond.stringRef "Slickboom" (239 : Nat) "there would be more than 1000 birds"), Cond.methodLink RL 188 yL_wash, Cond.static yL_wash, (Jvm.Cond.codeWith ({ cls := "SlickboomLaw", name := "wash", desc := "(LSlickboom;II[J)I" } : Jvm.MethodName) method_23_code (5 : Nat) (Option.some Jvm.ClassFile.FieldType.int) [((0 : Nat), (10 : Nat), (13 : Nat), (13 : Nat)), ((0 : Nat), (10 : Nat), (17 : Nat), (15 : Nat)), ((0 : Nat), (10 : Nat), (21 : Nat), (17 : Nat))]), Cond.methodLink RL 80 yX9_wash, Cond.instanceMethod yX9_wash, Cond.selects RX9 yX9_wash yX9_wash, Cond.code yX9_wash cX9_wash 4 (some .int), Cond.methodLink RL 191 yL_sign, Cond.static yL_sign, (Jvm.Cond.codeWith ({ cls := "SlickboomLaw", name := "sign", desc := "(LSlickboom;II[J)I" } : Jvm.MethodName) method_24_code (5 : Nat) (Option.some Jvm.ClassFile.FieldType.int) [((0 : Nat), (17 : Nat), (20 : Nat), (13 : Nat)), ((0 : Nat), (17 : Nat), (24 : Nat), (15 : Nat)), ((0 : Nat), (17 : Nat), (28 : Nat), (17 : Nat))]), Cond.methodLink RL 83 yX9_sign, Cond.instanceMethod yX9_sign, Cond.selects RX9 yX9_sign yX9_sign, Cond.code yX9_sign cX9_sign 4 (some .boolean), Cond.methodLink RX9 241 yX2_isTooDirty, (Jvm.Cond.stringRef "Slickboom" (244 : Nat) "the SHORE has too much STRANDED oil"), (Jvm.Cond.stringRef "Slickboom" (246 : Nat) "the SHORE was signed by them"), Cond.methodLink RL 194 yL_site, Cond.static yL_site, (Jvm.Cond.codeWith ({ cls := "SlickboomLaw", name := "site", desc := "(LSlickboom;II[J)I" } : Jvm.MethodName) method_25_code (5 : Nat) (Option.some Jvm.ClassFile.FieldType.int) [((0 : Nat), (10 : Nat), (13 : Nat), (15 : Nat)), ((0 : Nat), (10 : Nat), (17 : Nat), (17 : Nat))]), Cond.methodLink RL 87 yX9_site, Cond.instanceMethod yX9_site, Cond.selects RX9 yX9_site yX9_site, Cond.code yX9_site cX9_site 3 (some .int), (Jvm.Cond.stringRef "Slickboom" (251 : Nat) "there are 3 SITES"), Cond.methodLink RX9 253 yX3_addSite, Cond.instanceMethod yX3_addSite, Cond.selects RX3 yX3_addSite yX3_addSite]
def gc_3_3 : List Cond := [Cond.code yX3_addSite cX3_addSite 4 (some .int), Cond.methodLink RL 197 yL_deliver, Cond.static yL_deliver, (Jvm.Cond.codeWith ({ cls := "SlickboomLaw", name := "deliver", desc := "(LSlickboom;III[J)I" } : Jvm.MethodName) method_26_code (6 : Nat) (Option.some Jvm.ClassFile.FieldType.int) [((0 : Nat), (12 : Nat), (15 : Nat), (13 : Nat)), ((0 : Nat), (12 : Nat), (19 : Nat), (15 : Nat)), ((0 : Nat), (12 : Nat), (23 : Nat), (17 : Nat))]), Cond.methodLink RL 90 yX9_deliver, Cond.instanceMethod yX9_deliver, Cond.selects RX9 yX9_deliver yX9_deliver, Cond.code yX9_deliver cX9_deliver 4 (some .int), Cond.methodLink RX9 256 yX3_roomFor, Cond.instanceMethod yX3_roomFor, Cond.selects RX3 yX3_roomFor yX3_roomFor, Cond.code yX3_roomFor cX3_roomFor 3 (some .int), (Jvm.Cond.stringRef "Slickboom" (259 : Nat) "there is less waste of that sort, or less room"), Cond.methodLink RX9 261 yX3_take, Cond.instanceMethod yX3_take, Cond.selects RX3 yX3_take yX3_take, Cond.code yX3_take cX3_take 4 none, Cond.methodLink RL 200 yL_waste, Cond.static yL_waste, (Jvm.Cond.codeWith ({ cls := "SlickboomLaw", name := "waste", desc := "(LSlickboom;I[J)I" } : Jvm.MethodName) method_27_code (4 : Nat) (Option.some Jvm.ClassFile.FieldType.int) [((0 : Nat), (9 : Nat), (12 : Nat), (15 : Nat))]), Cond.methodLink RL 93 yX9_waste, Cond.instanceMethod yX9_waste, Cond.selects RX9 yX9_waste yX9_waste, Cond.code yX9_waste cX9_waste 2 (some .int), Cond.methodLink RL 203 yL_claim, Cond.static yL_claim, (Jvm.Cond.codeWith ({ cls := "SlickboomLaw", name := "claim", desc := "(LSlickboom;I[J)I" } : Jvm.MethodName) method_28_code (4 : Nat) (Option.some Jvm.ClassFile.FieldType.int) [((0 : Nat), (9 : Nat), (12 : Nat), (15 : Nat)), ((0 : Nat), (9 : Nat), (15 : Nat), (17 : Nat))]), Cond.methodLink RL 96 yX9_claim, Cond.instanceMethod yX9_claim, Cond.selects RX9 yX9_claim yX9_claim, Cond.code yX9_claim cX9_claim 2 (some .int), Cond.constant RX9 264 1000000, (Jvm.Cond.stringRef "Slickboom" (266 : Nat) "there are 20 CLAIMS"), Cond.methodLink RX9 268 yX6_add, Cond.instanceMethod yX6_add, Cond.selects RX6 yX6_add yX6_add, Cond.code yX6_add cX6_add 3 (some .int), Cond.methodLink RL 206 yL_layers, Cond.static yL_layers, (Jvm.Cond.codeWith ({ cls := "SlickboomLaw", name := "layers", desc := "(LSlickboom;II[J)I" } : Jvm.MethodName) method_29_code (5 : Nat) (Option.some Jvm.ClassFile.FieldType.int) [((0 : Nat), (10 : Nat), (13 : Nat), (15 : Nat))])]
def gc_3_4 : List Cond := [Cond.methodLink RL 99 yX9_layers, Cond.instanceMethod yX9_layers, Cond.selects RX9 yX9_layers yX9_layers, Cond.code yX9_layers cX9_layers 4 (some .int), Cond.constant RX9 270 10000000, Cond.methodLink RL 209 yL_due, Cond.static yL_due, (Jvm.Cond.codeWith ({ cls := "SlickboomLaw", name := "due", desc := "(LSlickboom;II[J)I" } : Jvm.MethodName) method_30_code (5 : Nat) (Option.some Jvm.ClassFile.FieldType.int) [((0 : Nat), (10 : Nat), (13 : Nat), (13 : Nat)), ((0 : Nat), (10 : Nat), (17 : Nat), (15 : Nat))]), Cond.methodLink RL 102 yX9_due, Cond.instanceMethod yX9_due, Cond.selects RX9 yX9_due yX9_due, Cond.code yX9_due cX9_due 7 (some .int), Cond.methodLink RX9 277 yX6_getsOf, Cond.instanceMethod yX6_getsOf, Cond.selects RX6 yX6_getsOf yX6_getsOf, Cond.code yX6_getsOf cX6_getsOf 2 (some .long), Cond.methodLink RX6 35 yX6_allGet, (Jvm.Cond.privateMethod ({ cls := "Slickboom$Payers", name := "allGet", desc := "()J" } : Jvm.MethodName)), Cond.instanceMethod yX6_allGet, Cond.code yX6_allGet cX6_allGet 1 (some .long), Cond.methodLink RX6 29 Lib.MathLoose.min_long.x, Cond.static Lib.MathLoose.min_long.x, Cond.code Lib.MathLoose.min_long.x Lib.MathLoose.min_long.code 4 (some .long), Cond.methodLink RX9 281 yX6_ownersPartOf, Cond.instanceMethod yX6_ownersPartOf, Cond.selects RX6 yX6_ownersPartOf yX6_ownersPartOf, Cond.code yX6_ownersPartOf cX6_ownersPartOf 5 (some .long), Cond.methodLink RL 212 yL_ahead, Cond.static yL_ahead, (Jvm.Cond.codeWith ({ cls := "SlickboomLaw", name := "ahead", desc := "(LSlickboom;II[J)I" } : Jvm.MethodName) method_31_code (5 : Nat) (Option.some Jvm.ClassFile.FieldType.int) [((0 : Nat), (10 : Nat), (13 : Nat), (13 : Nat)), ((0 : Nat), (10 : Nat), (17 : Nat), (15 : Nat))]), Cond.methodLink RL 105 yX9_ahead, Cond.instanceMethod yX9_ahead, Cond.selects RX9 yX9_ahead yX9_ahead, Cond.code yX9_ahead cX9_ahead 3 (some .int), Cond.methodLink RX9 285 yX0_becomeLike, Cond.instanceMethod yX0_becomeLike, Cond.selects RX0 yX0_becomeLike yX0_becomeLike, Cond.code yX0_becomeLike cX0_becomeLike 2 none, Cond.methodLink RX0 50 yX2_becomeLike, Cond.instanceMethod yX2_becomeLike]
def gc_3_5 : List Cond := [Cond.selects RX2 yX2_becomeLike yX2_becomeLike, Cond.code yX2_becomeLike cX2_becomeLike 2 none, Cond.methodLink RX2 67 arraycopyName, Cond.static arraycopyName, Cond.native arraycopyName, Cond.methodLink RX0 54 yX8_becomeLike, Cond.instanceMethod yX8_becomeLike, Cond.selects RX8 yX8_becomeLike yX8_becomeLike, Cond.code yX8_becomeLike cX8_becomeLike 2 none, Cond.methodLink RX8 31 arraycopyName, Cond.methodLink RX0 57 yX4_becomeLike, Cond.instanceMethod yX4_becomeLike, Cond.selects RX4 yX4_becomeLike yX4_becomeLike, Cond.code yX4_becomeLike cX4_becomeLike 2 none, Cond.methodLink RX4 63 arraycopyName, Cond.methodLink RX9 288 yX2_oilOf, Cond.instanceMethod yX2_oilOf, Cond.selects RX2 yX2_oilOf yX2_oilOf, Cond.code yX2_oilOf cX2_oilOf 2 (some .int), Cond.methodLink RL 215 yL_nextAnew, Cond.static yL_nextAnew, (Jvm.Cond.codeWith ({ cls := "SlickboomLaw", name := "nextAnew", desc := "(LSlickboom;I[J)I" } : Jvm.MethodName) method_32_code (4 : Nat) (Option.some Jvm.ClassFile.FieldType.int) [((0 : Nat), (9 : Nat), (12 : Nat), (13 : Nat))]), Cond.methodLink RL 108 yX9_nextAnew, Cond.instanceMethod yX9_nextAnew, Cond.selects RX9 yX9_nextAnew yX9_nextAnew, Cond.code yX9_nextAnew cX9_nextAnew 2 (some .int), Cond.methodLink RX9 294 yX5_floatingOf, Cond.instanceMethod yX5_floatingOf, Cond.selects RX5 yX5_floatingOf yX5_floatingOf, Cond.code yX5_floatingOf cX5_floatingOf 6 (some .int), Cond.methodLink RX5 15 yX5_weigh, (Jvm.Cond.privateMethod ({ cls := "Slickboom$NextHour", name := "weigh", desc := "(I)V" } : Jvm.MethodName)), Cond.instanceMethod yX5_weigh, Cond.code yX5_weigh cX5_weigh 8 none, Cond.methodLink RX5 78 yX5_leaksInto, (Jvm.Cond.privateMethod ({ cls := "Slickboom$NextHour", name := "leaksInto", desc := "(I)I" } : Jvm.MethodName)), Cond.instanceMethod yX5_leaksInto, Cond.code yX5_leaksInto cX5_leaksInto 5 (some .int), Cond.methodLink RX5 71 yX0_tideOf, Cond.methodLink RX5 120 yX8_leakOf]
set_option maxRecDepth 100000 in
theorem tb_3 : tables_1_4 = gc_3_0 ++ (gc_3_1 ++ (gc_3_2 ++ (gc_3_3 ++ (gc_3_4 ++ (gc_3_5))))) := rfl
theorem in_3_0 : ∀ w ∈ gc_3_0, w ∈ lw_tbl := fun w h => List.mem_append_right _ (show w ∈ tables_1 from List.mem_append_right _ (List.mem_append_right _ (List.mem_append_right _ (List.mem_append_left _ (show w ∈ tables_1_4 by rw [tb_3]; exact List.mem_append_left _ h)))))
theorem in_3_1 : ∀ w ∈ gc_3_1, w ∈ lw_tbl := fun w h => List.mem_append_right _ (show w ∈ tables_1 from List.mem_append_right _ (List.mem_append_right _ (List.mem_append_right _ (List.mem_append_left _ (show w ∈ tables_1_4 by rw [tb_3]; exact List.mem_append_right _ (List.mem_append_left _ h))))))
theorem in_3_2 : ∀ w ∈ gc_3_2, w ∈ lw_tbl := fun w h => List.mem_append_right _ (show w ∈ tables_1 from List.mem_append_right _ (List.mem_append_right _ (List.mem_append_right _ (List.mem_append_left _ (show w ∈ tables_1_4 by rw [tb_3]; exact List.mem_append_right _ (List.mem_append_right _ (List.mem_append_left _ h)))))))
theorem in_3_3 : ∀ w ∈ gc_3_3, w ∈ lw_tbl := fun w h => List.mem_append_right _ (show w ∈ tables_1 from List.mem_append_right _ (List.mem_append_right _ (List.mem_append_right _ (List.mem_append_left _ (show w ∈ tables_1_4 by rw [tb_3]; exact List.mem_append_right _ (List.mem_append_right _ (List.mem_append_right _ (List.mem_append_left _ h))))))))
theorem in_3_4 : ∀ w ∈ gc_3_4, w ∈ lw_tbl := fun w h => List.mem_append_right _ (show w ∈ tables_1 from List.mem_append_right _ (List.mem_append_right _ (List.mem_append_right _ (List.mem_append_left _ (show w ∈ tables_1_4 by rw [tb_3]; exact List.mem_append_right _ (List.mem_append_right _ (List.mem_append_right _ (List.mem_append_right _ (List.mem_append_left _ h)))))))))
theorem in_3_5 : ∀ w ∈ gc_3_5, w ∈ lw_tbl := fun w h => List.mem_append_right _ (show w ∈ tables_1 from List.mem_append_right _ (List.mem_append_right _ (List.mem_append_right _ (List.mem_append_left _ (show w ∈ tables_1_4 by rw [tb_3]; exact List.mem_append_right _ (List.mem_append_right _ (List.mem_append_right _ (List.mem_append_right _ (List.mem_append_right _ (h))))))))))
def gc_4_0 : List Cond := [Cond.methodLink RX5 91 yX4_boomOn, Cond.methodLink RX5 102 yX0_roomBehind, Cond.methodLink RX5 105 yX0_blown, Cond.methodLink RX5 32 yX5_waterAgainstWind, (Jvm.Cond.privateMethod ({ cls := "Slickboom$NextHour", name := "waterAgainstWind", desc := "(I)I" } : Jvm.MethodName)), Cond.instanceMethod yX5_waterAgainstWind, Cond.code yX5_waterAgainstWind cX5_waterAgainstWind 3 (some .int), Cond.methodLink RX5 123 yX2_opposite, Cond.methodLink RX5 36 yX2_beside, Cond.methodLink RX5 126 yX2_isWater, Cond.methodLink RX5 42 yX5_givenBackTo, (Jvm.Cond.privateMethod ({ cls := "Slickboom$NextHour", name := "givenBackTo", desc := "(II)I" } : Jvm.MethodName)), Cond.instanceMethod yX5_givenBackTo, Cond.code yX5_givenBackTo cX5_givenBackTo 3 (some .int), Cond.methodLink RX5 52 yX5_isHighTide, (Jvm.Cond.privateMethod ({ cls := "Slickboom$NextHour", name := "isHighTide", desc := "()Z" } : Jvm.MethodName)), Cond.instanceMethod yX5_isHighTide, Cond.code yX5_isHighTide cX5_isHighTide 1 (some .boolean), Cond.methodLink RX5 62 yX2_lowestWaterBeside, Cond.methodLink RX5 49 yX5_landedOn, (Jvm.Cond.privateMethod ({ cls := "Slickboom$NextHour", name := "landedOn", desc := "(I)I" } : Jvm.MethodName)), Cond.instanceMethod yX5_landedOn, Cond.code yX5_landedOn cX5_landedOn 4 (some .int), Cond.methodLink RX5 65 yX2_backOf, Cond.methodLink RX5 45 yX5_leftBySkimmers, (Jvm.Cond.privateMethod ({ cls := "Slickboom$NextHour", name := "leftBySkimmers", desc := "(III)I" } : Jvm.MethodName)), Cond.instanceMethod yX5_leftBySkimmers, Cond.code yX5_leftBySkimmers cX5_leftBySkimmers 8 (some .int), Cond.methodLink RX5 134 yX4_isSkimmer, Cond.methodLink RX5 138 yX4_freshTaken, Cond.methodLink RX5 141 yX4_thickTaken, Cond.methodLink RX9 297 yX5_strandedOf, Cond.instanceMethod yX5_strandedOf, Cond.selects RX5 yX5_strandedOf yX5_strandedOf, Cond.code yX5_strandedOf cX5_strandedOf 4 (some .int), Cond.methodLink RL 218 yL_sum, Cond.static yL_sum, (Jvm.Cond.codeWith ({ cls := "SlickboomLaw", name := "sum", desc := "(LSlickboom;I[J)I" } : Jvm.MethodName) method_33_code (4 : Nat) (Option.some Jvm.ClassFile.FieldType.int) [((0 : Nat), (9 : Nat), (12 : Nat), (15 : Nat))]), Cond.methodLink RL 111 yX9_sum, Cond.instanceMethod yX9_sum]
def gc_4_1 : List Cond := [Cond.selects RX9 yX9_sum yX9_sum, Cond.code yX9_sum cX9_sum 3 (some .int), Cond.methodLink RX9 309 yX8_allLitres, Cond.instanceMethod yX8_allLitres, Cond.selects RX8 yX8_allLitres yX8_allLitres, Cond.code yX8_allLitres cX8_allLitres 3 (some .int), Cond.methodLink RX9 313 yX2_allFloating, Cond.instanceMethod yX2_allFloating, Cond.selects RX2 yX2_allFloating yX2_allFloating, Cond.code yX2_allFloating cX2_allFloating 3 (some .int), Cond.methodLink RX9 325 yX2_allStranded, Cond.instanceMethod yX2_allStranded, Cond.selects RX2 yX2_allStranded yX2_allStranded, Cond.code yX2_allStranded cX2_allStranded 3 (some .int), Cond.methodLink RX9 328 yX4_allInStores, Cond.instanceMethod yX4_allInStores, Cond.selects RX4 yX4_allInStores yX4_allInStores, Cond.code yX4_allInStores cX4_allInStores 3 (some .int), Cond.methodLink RX9 337 yX3_allWaste, Cond.instanceMethod yX3_allWaste, Cond.selects RX3 yX3_allWaste yX3_allWaste, Cond.code yX3_allWaste cX3_allWaste 1 (some .int), Cond.classLink RL 115 RX10, Cond.instantiable RX10 29, Cond.methodLink RL 117 yX10_init, Cond.instanceMethod yX10_init, Cond.code yX10_init cX10_init 2 none, Cond.methodLink RX10 1 objectInit, Cond.fieldLink RX10 7 RX10 "now" "[I", Cond.fieldLink RX10 13 RX10 "kept" "[I", Cond.fieldLink RX10 16 RX10 "kind" "[I", Cond.fieldLink RX10 19 RX10 "depth" "[I", Cond.fieldLink RX10 22 RX10 "going" "[I", Cond.fieldLink RX10 91 RX10 "way" "I", Cond.fieldLink RX10 94 RX10 "strength" "I", Cond.fieldLink RX10 70 RX10 "ships" "I", Cond.fieldLink RX10 25 RX10 "shipCell" "[I", Cond.fieldLink RX10 28 RX10 "rate" "[I", Cond.fieldLink RX10 73 RX10 "means" "I", Cond.fieldLink RX10 31 RX10 "sort" "[I"]
def gc_4_2 : List Cond := [Cond.fieldLink RX10 34 RX10 "meanCell" "[I", Cond.fieldLink RX10 37 RX10 "border" "[I", Cond.fieldLink RX10 40 RX10 "force" "[I", Cond.fieldLink RX10 43 RX10 "store" "[I", Cond.fieldLink RX10 46 RX10 "taught" "[Z", Cond.fieldLink RX10 50 RX10 "last" "[I", Cond.fieldLink RX10 159 RX10 "deep" "I", Cond.fieldLink RX10 162 RX10 "burnt" "I", Cond.fieldLink RX10 53 RX10 "waste" "[I", Cond.fieldLink RX10 168 RX10 "delivered" "I", Cond.fieldLink RX10 165 RX10 "sites" "I", Cond.fieldLink RX10 56 RX10 "room" "[I", Cond.fieldLink RX10 172 RX10 "claims" "I", Cond.fieldLink RX10 59 RX10 "cents" "[I", Cond.fieldLink RX10 176 RX10 "owner" "I", Cond.fieldLink RX10 179 RX10 "fund" "I", Cond.fieldLink RX10 62 RX10 "thrown" "I", (Jvm.Cond.laysFinal "SlickboomModel" "SlickboomModel" "now" "[I"), (Jvm.Cond.soleField "SlickboomModel" "now"), (Jvm.Cond.laysFinal "SlickboomModel" "SlickboomModel" "kept" "[I"), (Jvm.Cond.soleField "SlickboomModel" "kept"), (Jvm.Cond.laysFinal "SlickboomModel" "SlickboomModel" "kind" "[I"), (Jvm.Cond.soleField "SlickboomModel" "kind"), (Jvm.Cond.laysFinal "SlickboomModel" "SlickboomModel" "depth" "[I"), (Jvm.Cond.soleField "SlickboomModel" "depth"), (Jvm.Cond.laysFinal "SlickboomModel" "SlickboomModel" "going" "[I"), (Jvm.Cond.soleField "SlickboomModel" "going"), (Jvm.Cond.lays "SlickboomModel" "SlickboomModel" "way" "I"), (Jvm.Cond.soleField "SlickboomModel" "way"), (Jvm.Cond.lays "SlickboomModel" "SlickboomModel" "strength" "I"), (Jvm.Cond.soleField "SlickboomModel" "strength"), (Jvm.Cond.lays "SlickboomModel" "SlickboomModel" "ships" "I"), (Jvm.Cond.soleField "SlickboomModel" "ships"), (Jvm.Cond.laysFinal "SlickboomModel" "SlickboomModel" "shipCell" "[I"), (Jvm.Cond.soleField "SlickboomModel" "shipCell"), (Jvm.Cond.laysFinal "SlickboomModel" "SlickboomModel" "rate" "[I"), (Jvm.Cond.soleField "SlickboomModel" "rate"), (Jvm.Cond.lays "SlickboomModel" "SlickboomModel" "means" "I"), (Jvm.Cond.soleField "SlickboomModel" "means"), (Jvm.Cond.laysFinal "SlickboomModel" "SlickboomModel" "sort" "[I")]
def gc_4_3 : List Cond := [(Jvm.Cond.soleField "SlickboomModel" "sort"), (Jvm.Cond.laysFinal "SlickboomModel" "SlickboomModel" "meanCell" "[I"), (Jvm.Cond.soleField "SlickboomModel" "meanCell"), (Jvm.Cond.laysFinal "SlickboomModel" "SlickboomModel" "border" "[I"), (Jvm.Cond.soleField "SlickboomModel" "border"), (Jvm.Cond.laysFinal "SlickboomModel" "SlickboomModel" "force" "[I"), (Jvm.Cond.soleField "SlickboomModel" "force"), (Jvm.Cond.laysFinal "SlickboomModel" "SlickboomModel" "store" "[I"), (Jvm.Cond.soleField "SlickboomModel" "store"), (Jvm.Cond.laysFinal "SlickboomModel" "SlickboomModel" "taught" "[Z"), (Jvm.Cond.soleField "SlickboomModel" "taught"), (Jvm.Cond.laysFinal "SlickboomModel" "SlickboomModel" "last" "[I"), (Jvm.Cond.soleField "SlickboomModel" "last"), (Jvm.Cond.lays "SlickboomModel" "SlickboomModel" "deep" "I"), (Jvm.Cond.soleField "SlickboomModel" "deep"), (Jvm.Cond.lays "SlickboomModel" "SlickboomModel" "burnt" "I"), (Jvm.Cond.soleField "SlickboomModel" "burnt"), (Jvm.Cond.laysFinal "SlickboomModel" "SlickboomModel" "waste" "[I"), (Jvm.Cond.soleField "SlickboomModel" "waste"), (Jvm.Cond.lays "SlickboomModel" "SlickboomModel" "delivered" "I"), (Jvm.Cond.soleField "SlickboomModel" "delivered"), (Jvm.Cond.lays "SlickboomModel" "SlickboomModel" "sites" "I"), (Jvm.Cond.soleField "SlickboomModel" "sites"), (Jvm.Cond.laysFinal "SlickboomModel" "SlickboomModel" "room" "[I"), (Jvm.Cond.soleField "SlickboomModel" "room"), (Jvm.Cond.lays "SlickboomModel" "SlickboomModel" "claims" "I"), (Jvm.Cond.soleField "SlickboomModel" "claims"), (Jvm.Cond.laysFinal "SlickboomModel" "SlickboomModel" "cents" "[I"), (Jvm.Cond.soleField "SlickboomModel" "cents"), (Jvm.Cond.lays "SlickboomModel" "SlickboomModel" "owner" "I"), (Jvm.Cond.soleField "SlickboomModel" "owner"), (Jvm.Cond.lays "SlickboomModel" "SlickboomModel" "fund" "I"), (Jvm.Cond.soleField "SlickboomModel" "fund"), (Jvm.Cond.lays "SlickboomModel" "SlickboomModel" "thrown" "I"), (Jvm.Cond.soleField "SlickboomModel" "thrown"), (Jvm.Cond.superclass "SlickboomModel" "java/lang/Object"), Cond.methodLink RL 124 yX10_thrown, Cond.instanceMethod yX10_thrown, Cond.selects RX10 yX10_thrown yX10_thrown, Cond.code yX10_thrown cX10_thrown 1 (some .int)]
def gc_4_4 : List Cond := [Cond.methodLink RL 123 yX10_shore, Cond.instanceMethod yX10_shore, Cond.selects RX10 yX10_shore yX10_shore, Cond.code yX10_shore cX10_shore 5 (some .int), Cond.methodLink RX10 76 yX10_isCell, Cond.static yX10_isCell, Cond.code yX10_isCell cX10_isCell 1 (some .boolean), Cond.methodLink RX10 66 yX10_in, Cond.static yX10_in, Cond.code yX10_in cX10_in 3 (some .boolean), Cond.methodLink RX10 131 yX10_fails, (Jvm.Cond.privateMethod ({ cls := "SlickboomModel", name := "fails", desc := "(ZI)Z" } : Jvm.MethodName)), Cond.instanceMethod yX10_fails, Cond.code yX10_fails cX10_fails 3 (some .boolean), Cond.methodLink RL 130 yX10_depth, Cond.instanceMethod yX10_depth, Cond.selects RX10 yX10_depth yX10_depth, Cond.code yX10_depth cX10_depth 4 (some .int), Cond.methodLink RL 133 yX10_wind, Cond.instanceMethod yX10_wind, Cond.selects RX10 yX10_wind yX10_wind, Cond.code yX10_wind cX10_wind 4 (some .int), Cond.methodLink RL 136 yX10_ship, Cond.instanceMethod yX10_ship, Cond.selects RX10 yX10_ship yX10_ship, Cond.code yX10_ship cX10_ship 3 (some .int), Cond.constant RX10 135 100000, Cond.methodLink RL 139 yX10_hole, Cond.instanceMethod yX10_hole, Cond.selects RX10 yX10_hole yX10_hole, Cond.code yX10_hole cX10_hole 4 (some .int), Cond.methodLink RX10 136 yX10_isShip, (Jvm.Cond.privateMethod ({ cls := "SlickboomModel", name := "isShip", desc := "(I)Z" } : Jvm.MethodName)), Cond.instanceMethod yX10_isShip, Cond.code yX10_isShip cX10_isShip 2 (some .boolean), Cond.methodLink RL 143 yX10_pump, Cond.instanceMethod yX10_pump, Cond.selects RX10 yX10_pump yX10_pump, Cond.code yX10_pump cX10_pump 4 (some .int), Cond.methodLink RL 147 yX10_shipHas]
def gc_4_5 : List Cond := [Cond.instanceMethod yX10_shipHas, Cond.selects RX10 yX10_shipHas yX10_shipHas, Cond.code yX10_shipHas cX10_shipHas 2 (some .int), Cond.methodLink RL 150 yX10_pass, Cond.instanceMethod yX10_pass, Cond.selects RX10 yX10_pass yX10_pass, Cond.code yX10_pass cX10_pass 3 (some .int), Cond.methodLink RX10 139 yX10_hour, (Jvm.Cond.privateMethod ({ cls := "SlickboomModel", name := "hour", desc := "()V" } : Jvm.MethodName)), Cond.instanceMethod yX10_hour, Cond.code yX10_hour cX10_hour 4 none, Cond.methodLink RX10 106 yX10_leak, (Jvm.Cond.privateMethod ({ cls := "SlickboomModel", name := "leak", desc := "(II)I" } : Jvm.MethodName)), Cond.instanceMethod yX10_leak, Cond.code yX10_leak cX10_leak 4 (some .int), Cond.methodLink RX10 84 yX10_tide, Cond.static yX10_tide, Cond.code yX10_tide cX10_tide 2 (some .int), Cond.methodLink RX10 88 yX10_least, Cond.static yX10_least, Cond.code yX10_least cX10_least 2 (some .int), Cond.methodLink RX10 109 yX10_weather, (Jvm.Cond.privateMethod ({ cls := "SlickboomModel", name := "weather", desc := "(I)V" } : Jvm.MethodName)), Cond.instanceMethod yX10_weather, Cond.code yX10_weather cX10_weather 5 none, Cond.methodLink RX10 113 yX10_look, (Jvm.Cond.privateMethod ({ cls := "SlickboomModel", name := "look", desc := "(I)V" } : Jvm.MethodName)), Cond.instanceMethod yX10_look, Cond.code yX10_look cX10_look 7 none, Cond.methodLink RX10 80 yX10_beside, Cond.static yX10_beside, Cond.code yX10_beside cX10_beside 3 (some .int), Cond.methodLink RX10 97 yX10_holds, (Jvm.Cond.privateMethod ({ cls := "SlickboomModel", name := "holds", desc := "(I)I" } : Jvm.MethodName)), Cond.instanceMethod yX10_holds, Cond.code yX10_holds cX10_holds 2 (some .int), Cond.methodLink RX10 100 yX10_borderOf, Cond.static yX10_borderOf, Cond.code yX10_borderOf cX10_borderOf 3 (some .int), Cond.methodLink RX10 103 yX10_boomOn]
set_option maxRecDepth 100000 in
theorem tb_4 : tables_1_5 = gc_4_0 ++ (gc_4_1 ++ (gc_4_2 ++ (gc_4_3 ++ (gc_4_4 ++ (gc_4_5))))) := rfl
theorem in_4_0 : ∀ w ∈ gc_4_0, w ∈ lw_tbl := fun w h => List.mem_append_right _ (show w ∈ tables_1 from List.mem_append_right _ (List.mem_append_right _ (List.mem_append_right _ (List.mem_append_right _ (List.mem_append_left _ (show w ∈ tables_1_5 by rw [tb_4]; exact List.mem_append_left _ h))))))
theorem in_4_1 : ∀ w ∈ gc_4_1, w ∈ lw_tbl := fun w h => List.mem_append_right _ (show w ∈ tables_1 from List.mem_append_right _ (List.mem_append_right _ (List.mem_append_right _ (List.mem_append_right _ (List.mem_append_left _ (show w ∈ tables_1_5 by rw [tb_4]; exact List.mem_append_right _ (List.mem_append_left _ h)))))))
theorem in_4_2 : ∀ w ∈ gc_4_2, w ∈ lw_tbl := fun w h => List.mem_append_right _ (show w ∈ tables_1 from List.mem_append_right _ (List.mem_append_right _ (List.mem_append_right _ (List.mem_append_right _ (List.mem_append_left _ (show w ∈ tables_1_5 by rw [tb_4]; exact List.mem_append_right _ (List.mem_append_right _ (List.mem_append_left _ h))))))))
theorem in_4_3 : ∀ w ∈ gc_4_3, w ∈ lw_tbl := fun w h => List.mem_append_right _ (show w ∈ tables_1 from List.mem_append_right _ (List.mem_append_right _ (List.mem_append_right _ (List.mem_append_right _ (List.mem_append_left _ (show w ∈ tables_1_5 by rw [tb_4]; exact List.mem_append_right _ (List.mem_append_right _ (List.mem_append_right _ (List.mem_append_left _ h)))))))))
theorem in_4_4 : ∀ w ∈ gc_4_4, w ∈ lw_tbl := fun w h => List.mem_append_right _ (show w ∈ tables_1 from List.mem_append_right _ (List.mem_append_right _ (List.mem_append_right _ (List.mem_append_right _ (List.mem_append_left _ (show w ∈ tables_1_5 by rw [tb_4]; exact List.mem_append_right _ (List.mem_append_right _ (List.mem_append_right _ (List.mem_append_right _ (List.mem_append_left _ h))))))))))
theorem in_4_5 : ∀ w ∈ gc_4_5, w ∈ lw_tbl := fun w h => List.mem_append_right _ (show w ∈ tables_1 from List.mem_append_right _ (List.mem_append_right _ (List.mem_append_right _ (List.mem_append_right _ (List.mem_append_left _ (show w ∈ tables_1_5 by rw [tb_4]; exact List.mem_append_right _ (List.mem_append_right _ (List.mem_append_right _ (List.mem_append_right _ (List.mem_append_right _ (h)))))))))))
def gc_5_0 : List Cond := [(Jvm.Cond.privateMethod ({ cls := "SlickboomModel", name := "boomOn", desc := "(I)I" } : Jvm.MethodName)), Cond.instanceMethod yX10_boomOn, Cond.code yX10_boomOn cX10_boomOn 3 (some .int), Cond.methodLink RX10 116 yX10_drift, (Jvm.Cond.privateMethod ({ cls := "SlickboomModel", name := "drift", desc := "(I)V" } : Jvm.MethodName)), Cond.instanceMethod yX10_drift, Cond.code yX10_drift cX10_drift 5 none, Cond.methodLink RX10 119 yX10_lowestWater, (Jvm.Cond.privateMethod ({ cls := "SlickboomModel", name := "lowestWater", desc := "(I)I" } : Jvm.MethodName)), Cond.instanceMethod yX10_lowestWater, Cond.code yX10_lowestWater cX10_lowestWater 5 (some .int), Cond.methodLink RX10 122 yX10_back, (Jvm.Cond.privateMethod ({ cls := "SlickboomModel", name := "back", desc := "(II)I" } : Jvm.MethodName)), Cond.instanceMethod yX10_back, Cond.code yX10_back cX10_back 3 (some .int), Cond.methodLink RX10 125 yX10_skim, (Jvm.Cond.privateMethod ({ cls := "SlickboomModel", name := "skim", desc := "(I)V" } : Jvm.MethodName)), Cond.instanceMethod yX10_skim, Cond.code yX10_skim cX10_skim 6 none, Cond.methodLink RX10 128 yX10_suffer, (Jvm.Cond.privateMethod ({ cls := "SlickboomModel", name := "suffer", desc := "(I)V" } : Jvm.MethodName)), Cond.instanceMethod yX10_suffer, Cond.code yX10_suffer cX10_suffer 4 none, Cond.methodLink RL 153 yX10_at, Cond.instanceMethod yX10_at, Cond.selects RX10 yX10_at yX10_at, Cond.code yX10_at cX10_at 3 (some .int), Cond.methodLink RX10 142 yX10_signatures, (Jvm.Cond.privateMethod ({ cls := "SlickboomModel", name := "signatures", desc := "(I)I" } : Jvm.MethodName)), Cond.instanceMethod yX10_signatures, Cond.code yX10_signatures cX10_signatures 3 (some .int), Cond.methodLink RL 156 yX10_boom, Cond.instanceMethod yX10_boom, Cond.selects RX10 yX10_boom yX10_boom, Cond.code yX10_boom cX10_boom 5 (some .int), Cond.methodLink RX10 145 yX10_mean, (Jvm.Cond.privateMethod ({ cls := "SlickboomModel", name := "mean", desc := "(IIII)I" } : Jvm.MethodName)), Cond.instanceMethod yX10_mean, Cond.code yX10_mean cX10_mean 5 (some .int), Cond.methodLink RL 159 yX10_skimmer]
def gc_5_1 : List Cond := [Cond.instanceMethod yX10_skimmer, Cond.selects RX10 yX10_skimmer yX10_skimmer, Cond.code yX10_skimmer cX10_skimmer 4 (some .int), Cond.methodLink RL 163 yX10_team, Cond.instanceMethod yX10_team, Cond.selects RX10 yX10_team yX10_team, Cond.code yX10_team cX10_team 3 (some .int), Cond.methodLink RL 166 yX10_move, Cond.instanceMethod yX10_move, Cond.selects RX10 yX10_move yX10_move, Cond.code yX10_move cX10_move 4 (some .int), Cond.methodLink RX10 149 yX10_isMean, (Jvm.Cond.privateMethod ({ cls := "SlickboomModel", name := "isMean", desc := "(I)Z" } : Jvm.MethodName)), Cond.instanceMethod yX10_isMean, Cond.code yX10_isMean cX10_isMean 2 (some .boolean), Cond.methodLink RL 169 yX10_carry, Cond.instanceMethod yX10_carry, Cond.selects RX10 yX10_carry yX10_carry, Cond.code yX10_carry cX10_carry 3 (some .int), Cond.methodLink RL 172 yX10_teach, Cond.instanceMethod yX10_teach, Cond.selects RX10 yX10_teach yX10_teach, Cond.code yX10_teach cX10_teach 3 (some .boolean), Cond.methodLink RL 175 yX10_clean, Cond.instanceMethod yX10_clean, Cond.selects RX10 yX10_clean yX10_clean, Cond.code yX10_clean cX10_clean 7 (some .int), Cond.methodLink RL 178 yX10_meanIs, Cond.instanceMethod yX10_meanIs, Cond.selects RX10 yX10_meanIs yX10_meanIs, Cond.code yX10_meanIs cX10_meanIs 3 (some .int), Cond.methodLink RL 181 yX10_use, Cond.instanceMethod yX10_use, Cond.selects RX10 yX10_use yX10_use, Cond.code yX10_use cX10_use 4 (some .int), Cond.methodLink RX10 155 yX10_rules, (Jvm.Cond.privateMethod ({ cls := "SlickboomModel", name := "rules", desc := "(III)I" } : Jvm.MethodName)), Cond.instanceMethod yX10_rules, Cond.code yX10_rules cX10_rules 8 (some .int), Cond.methodLink RX10 152 yX10_isAgainst]
def gc_5_2 : List Cond := [(Jvm.Cond.privateMethod ({ cls := "SlickboomModel", name := "isAgainst", desc := "(III)Z" } : Jvm.MethodName)), Cond.instanceMethod yX10_isAgainst, Cond.code yX10_isAgainst cX10_isAgainst 8 (some .boolean), Cond.methodLink RL 184 yX10_why, Cond.instanceMethod yX10_why, Cond.selects RX10 yX10_why yX10_why, Cond.code yX10_why cX10_why 4 (some .int), Cond.methodLink RL 187 yX10_birds, Cond.instanceMethod yX10_birds, Cond.selects RX10 yX10_birds yX10_birds, Cond.code yX10_birds cX10_birds 3 (some .int), Cond.methodLink RL 190 yX10_wash, Cond.instanceMethod yX10_wash, Cond.selects RX10 yX10_wash yX10_wash, Cond.code yX10_wash cX10_wash 4 (some .int), Cond.methodLink RL 193 yX10_sign, Cond.instanceMethod yX10_sign, Cond.selects RX10 yX10_sign yX10_sign, Cond.code yX10_sign cX10_sign 4 (some .boolean), Cond.methodLink RL 196 yX10_site, Cond.instanceMethod yX10_site, Cond.selects RX10 yX10_site yX10_site, Cond.code yX10_site cX10_site 3 (some .int), Cond.methodLink RL 199 yX10_deliver, Cond.instanceMethod yX10_deliver, Cond.selects RX10 yX10_deliver yX10_deliver, Cond.code yX10_deliver cX10_deliver 4 (some .int), Cond.methodLink RL 202 yX10_waste, Cond.instanceMethod yX10_waste, Cond.selects RX10 yX10_waste yX10_waste, Cond.code yX10_waste cX10_waste 2 (some .int), Cond.methodLink RL 205 yX10_claim, Cond.instanceMethod yX10_claim, Cond.selects RX10 yX10_claim yX10_claim, Cond.code yX10_claim cX10_claim 2 (some .int), Cond.constant RX10 171 1000000, Cond.methodLink RL 208 yX10_layers, Cond.instanceMethod yX10_layers, Cond.selects RX10 yX10_layers yX10_layers, Cond.code yX10_layers cX10_layers 4 (some .int)]
def gc_5_3 : List Cond := [Cond.constant RX10 175 10000000, Cond.methodLink RL 211 yX10_due, Cond.instanceMethod yX10_due, Cond.selects RX10 yX10_due yX10_due, Cond.code yX10_due cX10_due 7 (some .int), Cond.methodLink RL 214 yX10_ahead, Cond.instanceMethod yX10_ahead, Cond.selects RX10 yX10_ahead yX10_ahead, Cond.code yX10_ahead cX10_ahead 5 (some .int), Cond.methodLink RL 217 yX10_nextAnew, Cond.instanceMethod yX10_nextAnew, Cond.selects RX10 yX10_nextAnew yX10_nextAnew, Cond.code yX10_nextAnew cX10_nextAnew 10 (some .int), Cond.methodLink RX10 189 yX10_strands, (Jvm.Cond.privateMethod ({ cls := "SlickboomModel", name := "strands", desc := "(I)I" } : Jvm.MethodName)), Cond.instanceMethod yX10_strands, Cond.code yX10_strands cX10_strands 3 (some .int), Cond.methodLink RX10 186 yX10_goes, (Jvm.Cond.privateMethod ({ cls := "SlickboomModel", name := "goes", desc := "(IZ)I" } : Jvm.MethodName)), Cond.instanceMethod yX10_goes, Cond.code yX10_goes cX10_goes 8 (some .int), Cond.methodLink RX10 182 yX10_floats, (Jvm.Cond.privateMethod ({ cls := "SlickboomModel", name := "floats", desc := "(IZ)I" } : Jvm.MethodName)), Cond.instanceMethod yX10_floats, Cond.code yX10_floats cX10_floats 5 (some .int), Cond.methodLink RL 220 yX10_sum, Cond.instanceMethod yX10_sum, Cond.selects RX10 yX10_sum yX10_sum, Cond.code yX10_sum cX10_sum 4 (some .int), Cond.methodLink RX10 192 yX10_over, (Jvm.Cond.privateMethod ({ cls := "SlickboomModel", name := "over", desc := "(II)I" } : Jvm.MethodName)), Cond.instanceMethod yX10_over, Cond.code yX10_over cX10_over 5 (some .int), Cond.arrayClass .long, (Jvm.Cond.sameMethod "java/lang/Throwable" "java/lang/Throwable" "fillInStackTrace" "(I)Ljava/lang/Throwable;")]
set_option maxRecDepth 100000 in
theorem tb_5 : tables_1_6 = gc_5_0 ++ (gc_5_1 ++ (gc_5_2 ++ (gc_5_3))) := rfl
theorem in_5_0 : ∀ w ∈ gc_5_0, w ∈ lw_tbl := fun w h => List.mem_append_right _ (show w ∈ tables_1 from List.mem_append_right _ (List.mem_append_right _ (List.mem_append_right _ (List.mem_append_right _ (List.mem_append_right _ ((show w ∈ tables_1_6 by rw [tb_5]; exact List.mem_append_left _ h)))))))
theorem in_5_1 : ∀ w ∈ gc_5_1, w ∈ lw_tbl := fun w h => List.mem_append_right _ (show w ∈ tables_1 from List.mem_append_right _ (List.mem_append_right _ (List.mem_append_right _ (List.mem_append_right _ (List.mem_append_right _ ((show w ∈ tables_1_6 by rw [tb_5]; exact List.mem_append_right _ (List.mem_append_left _ h))))))))
theorem in_5_2 : ∀ w ∈ gc_5_2, w ∈ lw_tbl := fun w h => List.mem_append_right _ (show w ∈ tables_1 from List.mem_append_right _ (List.mem_append_right _ (List.mem_append_right _ (List.mem_append_right _ (List.mem_append_right _ ((show w ∈ tables_1_6 by rw [tb_5]; exact List.mem_append_right _ (List.mem_append_right _ (List.mem_append_left _ h)))))))))
theorem in_5_3 : ∀ w ∈ gc_5_3, w ∈ lw_tbl := fun w h => List.mem_append_right _ (show w ∈ tables_1 from List.mem_append_right _ (List.mem_append_right _ (List.mem_append_right _ (List.mem_append_right _ (List.mem_append_right _ ((show w ∈ tables_1_6 by rw [tb_5]; exact List.mem_append_right _ (List.mem_append_right _ (List.mem_append_right _ (h))))))))))
theorem w0 : Cond.initialized RL ∈ Gw := gwc in_0_0 (i := 0) rfl rfl
theorem w1 : Cond.initialized RX9 ∈ Gw := gwc in_0_0 (i := 1) rfl rfl
theorem w2 : Cond.initialized RX0 ∈ Gw := gwc in_0_0 (i := 2) rfl rfl
theorem w3 : Cond.initialized RX2 ∈ Gw := gwc in_0_0 (i := 3) rfl rfl
theorem w4 : Cond.initialized RJ7 ∈ Gw := gwc in_0_0 (i := 4) rfl rfl
theorem w5 : Cond.initialized RX8 ∈ Gw := gwc in_0_0 (i := 5) rfl rfl
theorem w6 : Cond.initialized RX4 ∈ Gw := gwc in_0_0 (i := 6) rfl rfl
theorem w7 : Cond.initialized RX1 ∈ Gw := gwc in_0_0 (i := 7) rfl rfl
theorem w8 : Cond.initialized RX5 ∈ Gw := gwc in_0_0 (i := 8) rfl rfl
theorem w9 : Cond.initialized RX7 ∈ Gw := gwc in_0_0 (i := 9) rfl rfl
theorem w10 : Cond.initialized RX3 ∈ Gw := gwc in_0_0 (i := 10) rfl rfl
theorem w11 : Cond.initialized RX6 ∈ Gw := gwc in_0_0 (i := 11) rfl rfl
theorem w12 : Cond.initialized RX10 ∈ Gw := gwc in_0_0 (i := 12) rfl rfl
theorem w13 : Cond.initialized "java/lang/Throwable" ∈ Gw := gwc in_0_0 (i := 13) rfl rfl
theorem w14 : Cond.initialized "java/lang/Exception" ∈ Gw := gwc in_0_0 (i := 14) rfl rfl
theorem w15 : Cond.initialized "java/lang/RuntimeException" ∈ Gw := gwc in_0_0 (i := 15) rfl rfl
theorem w16 : Cond.initialized "java/lang/IndexOutOfBoundsException" ∈ Gw := gwc in_0_0 (i := 16) rfl rfl
theorem w17 : Cond.initialized "java/lang/IllegalArgumentException" ∈ Gw := gwc in_0_0 (i := 17) rfl rfl
theorem w18 : Cond.initialized "java/lang/IllegalStateException" ∈ Gw := gwc in_0_0 (i := 18) rfl rfl
theorem w19 : Cond.initialized "java/lang/Math" ∈ Gw := gwc in_0_0 (i := 19) rfl rfl
theorem w20 : Cond.initialized RJ6 ∈ Gw := gwc in_0_0 (i := 20) rfl rfl
theorem w21 : Cond.initialized "java/lang/System" ∈ Gw := gwc in_0_0 (i := 21) rfl rfl
theorem w22 : Cond.classLink RL 8 RX9 ∈ Gw := gwc in_0_0 (i := 22) rfl rfl
theorem w23 : Cond.instantiable RX9 6 ∈ Gw := gwc in_0_0 (i := 23) rfl rfl
theorem w24 : Cond.methodLink RL 114 yX9_init ∈ Gw := gwc in_0_0 (i := 24) rfl rfl
theorem w25 : Cond.instanceMethod yX9_init ∈ Gw := gwc in_0_0 (i := 25) rfl rfl
theorem w26 : Cond.code yX9_init cX9_init 1 none ∈ Gw := gwc in_0_0 (i := 26) rfl rfl
theorem w27 : Cond.methodLink RX9 3 objectInit ∈ Gw := gwc in_0_0 (i := 27) rfl rfl
theorem w28 : Cond.instanceMethod objectInit ∈ Gw := gwc in_0_0 (i := 28) rfl rfl
theorem w29 : Cond.code objectInit ⟨#[0xb1]⟩ 1 none ∈ Gw := gwc in_0_0 (i := 29) rfl rfl
theorem w30 : Cond.classLink RX9 9 RX0 ∈ Gw := gwc in_0_0 (i := 30) rfl rfl
theorem w31 : Cond.instantiable RX0 9 ∈ Gw := gwc in_0_0 (i := 31) rfl rfl
theorem w32 : Cond.methodLink RX9 11 yX0_init ∈ Gw := gwc in_0_0 (i := 32) rfl rfl
theorem w33 : Cond.instanceMethod yX0_init ∈ Gw := gwc in_0_0 (i := 33) rfl rfl
theorem w34 : Cond.code yX0_init cX0_init 1 none ∈ Gw := gwc in_0_0 (i := 34) rfl rfl
theorem w35 : Cond.methodLink RX0 3 objectInit ∈ Gw := gwc in_0_0 (i := 35) rfl rfl
theorem w36 : Cond.classLink RX0 9 RX2 ∈ Gw := gwc in_0_0 (i := 36) rfl rfl
theorem w37 : Cond.instantiable RX2 8 ∈ Gw := gwc in_0_0 (i := 37) rfl rfl
theorem w38 : Cond.methodLink RX0 11 yX2_init ∈ Gw := gwc in_0_0 (i := 38) rfl rfl
theorem w39 : Cond.instanceMethod yX2_init ∈ Gw := gwc in_0_0 (i := 39) rfl rfl
theorem w40 : Cond.code yX2_init cX2_init 1 none ∈ Gw := gwc in_0_1 (i := 0) rfl rfl
theorem w41 : Cond.methodLink RX2 3 objectInit ∈ Gw := gwc in_0_1 (i := 1) rfl rfl
theorem w42 : Cond.methodLink RX2 18 yJ7_fill_53178 ∈ Gw := gwc in_0_1 (i := 2) rfl rfl
theorem w43 : Cond.static yJ7_fill_53178 ∈ Gw := gwc in_0_1 (i := 3) rfl rfl
theorem w44 : Cond.code yJ7_fill_53178 cJ7_fill_53178 4 none ∈ Gw := gwc in_0_1 (i := 4) rfl rfl
theorem w45 : Cond.fieldLink RX2 9 RX2 "kind" "[I" ∈ Gw := gwc in_0_1 (i := 5) rfl rfl
theorem w46 : Cond.fieldLink RX9 93 RX2 "kind" "[I" ∈ Gw := gwc in_0_1 (i := 6) rfl rfl
theorem w47 : Cond.fieldLink RX2 15 RX2 "depth" "[I" ∈ Gw := gwc in_0_1 (i := 7) rfl rfl
theorem w48 : Cond.fieldLink RX7 21 RX2 "depth" "[I" ∈ Gw := gwc in_0_1 (i := 8) rfl rfl
theorem w49 : Cond.fieldLink RX9 106 RX2 "depth" "[I" ∈ Gw := gwc in_0_1 (i := 9) rfl rfl
theorem w50 : Cond.fieldLink RX2 24 RX2 "fresh" "[I" ∈ Gw := gwc in_0_1 (i := 10) rfl rfl
theorem w51 : Cond.fieldLink RX7 27 RX2 "fresh" "[I" ∈ Gw := gwc in_0_1 (i := 11) rfl rfl
theorem w52 : Cond.fieldLink RX5 74 RX2 "fresh" "[I" ∈ Gw := gwc in_0_1 (i := 12) rfl rfl
theorem w53 : Cond.fieldLink RX0 98 RX2 "fresh" "[I" ∈ Gw := gwc in_0_1 (i := 13) rfl rfl
theorem w54 : Cond.fieldLink RX9 143 RX2 "fresh" "[I" ∈ Gw := gwc in_0_1 (i := 14) rfl rfl
theorem w55 : Cond.fieldLink RX2 27 RX2 "thick" "[I" ∈ Gw := gwc in_0_1 (i := 15) rfl rfl
theorem w56 : Cond.fieldLink RX7 34 RX2 "thick" "[I" ∈ Gw := gwc in_0_1 (i := 16) rfl rfl
theorem w57 : Cond.fieldLink RX5 81 RX2 "thick" "[I" ∈ Gw := gwc in_0_1 (i := 17) rfl rfl
theorem w58 : Cond.fieldLink RX0 111 RX2 "thick" "[I" ∈ Gw := gwc in_0_1 (i := 18) rfl rfl
theorem w59 : Cond.fieldLink RX9 146 RX2 "thick" "[I" ∈ Gw := gwc in_0_1 (i := 19) rfl rfl
theorem w60 : Cond.fieldLink RX2 30 RX2 "stranded" "[I" ∈ Gw := gwc in_0_1 (i := 20) rfl rfl
theorem w61 : Cond.fieldLink RX5 130 RX2 "stranded" "[I" ∈ Gw := gwc in_0_1 (i := 21) rfl rfl
theorem w62 : Cond.fieldLink RX9 149 RX2 "stranded" "[I" ∈ Gw := gwc in_0_1 (i := 22) rfl rfl
theorem w63 : Cond.fieldLink RX0 158 RX2 "stranded" "[I" ∈ Gw := gwc in_0_1 (i := 23) rfl rfl
theorem w64 : Cond.fieldLink RX2 33 RX2 "birds" "[I" ∈ Gw := gwc in_0_1 (i := 24) rfl rfl
theorem w65 : Cond.fieldLink RX9 152 RX2 "birds" "[I" ∈ Gw := gwc in_0_1 (i := 25) rfl rfl
theorem w66 : Cond.fieldLink RX2 36 RX2 "oiled" "[I" ∈ Gw := gwc in_0_1 (i := 26) rfl rfl
theorem w67 : Cond.fieldLink RX9 155 RX2 "oiled" "[I" ∈ Gw := gwc in_0_1 (i := 27) rfl rfl
theorem w68 : Cond.fieldLink RX2 39 RX2 "signatures" "[I" ∈ Gw := gwc in_0_1 (i := 28) rfl rfl
theorem w69 : Cond.fieldLink RX9 158 RX2 "signatures" "[I" ∈ Gw := gwc in_0_1 (i := 29) rfl rfl
theorem w70 : Cond.fieldLink RX0 185 RX2 "signatures" "[I" ∈ Gw := gwc in_0_1 (i := 30) rfl rfl
theorem w88 : Cond.arrayClass .int ∈ Gw := gwc in_0_2 (i := 8) rfl rfl
theorem w89 : Cond.classLink RX0 18 RX8 ∈ Gw := gwc in_0_2 (i := 9) rfl rfl
theorem w90 : Cond.instantiable RX8 4 ∈ Gw := gwc in_0_2 (i := 10) rfl rfl
theorem w91 : Cond.methodLink RX0 20 yX8_init ∈ Gw := gwc in_0_2 (i := 11) rfl rfl
theorem w92 : Cond.instanceMethod yX8_init ∈ Gw := gwc in_0_2 (i := 12) rfl rfl
theorem w93 : Cond.code yX8_init cX8_init 1 none ∈ Gw := gwc in_0_2 (i := 13) rfl rfl
theorem w94 : Cond.methodLink RX8 3 objectInit ∈ Gw := gwc in_0_2 (i := 14) rfl rfl
theorem w95 : Cond.fieldLink RX8 21 RX8 "count" "I" ∈ Gw := gwc in_0_2 (i := 15) rfl rfl
theorem w96 : Cond.fieldLink RX0 88 RX8 "count" "I" ∈ Gw := gwc in_0_2 (i := 16) rfl rfl
theorem w97 : Cond.fieldLink RX9 116 RX8 "count" "I" ∈ Gw := gwc in_0_2 (i := 17) rfl rfl
theorem w98 : Cond.fieldLink RX5 112 RX8 "count" "I" ∈ Gw := gwc in_0_2 (i := 18) rfl rfl
theorem w99 : Cond.fieldLink RX8 9 RX8 "cell" "[I" ∈ Gw := gwc in_0_2 (i := 19) rfl rfl
theorem w100 : Cond.fieldLink RX0 101 RX8 "cell" "[I" ∈ Gw := gwc in_0_2 (i := 20) rfl rfl
theorem w101 : Cond.fieldLink RX5 117 RX8 "cell" "[I" ∈ Gw := gwc in_0_2 (i := 21) rfl rfl
theorem w102 : Cond.fieldLink RX8 15 RX8 "litres" "[I" ∈ Gw := gwc in_0_2 (i := 22) rfl rfl
theorem w103 : Cond.fieldLink RX0 95 RX8 "litres" "[I" ∈ Gw := gwc in_0_2 (i := 23) rfl rfl
theorem w104 : Cond.fieldLink RX9 133 RX8 "litres" "[I" ∈ Gw := gwc in_0_2 (i := 24) rfl rfl
theorem w105 : Cond.fieldLink RX8 18 RX8 "rate" "[I" ∈ Gw := gwc in_0_2 (i := 25) rfl rfl
theorem w106 : Cond.fieldLink RX9 125 RX8 "rate" "[I" ∈ Gw := gwc in_0_2 (i := 26) rfl rfl
theorem w116 : Cond.classLink RX0 25 RX4 ∈ Gw := gwc in_0_2 (i := 36) rfl rfl
theorem w117 : Cond.instantiable RX4 9 ∈ Gw := gwc in_0_2 (i := 37) rfl rfl
theorem w118 : Cond.methodLink RX0 27 yX4_init ∈ Gw := gwc in_0_2 (i := 38) rfl rfl
theorem w119 : Cond.instanceMethod yX4_init ∈ Gw := gwc in_0_2 (i := 39) rfl rfl
theorem w120 : Cond.code yX4_init cX4_init 1 none ∈ Gw := gwc in_0_3 (i := 0) rfl rfl
theorem w121 : Cond.methodLink RX4 3 objectInit ∈ Gw := gwc in_0_3 (i := 1) rfl rfl
theorem w122 : Cond.fieldLink RX4 37 RX4 "count" "I" ∈ Gw := gwc in_0_3 (i := 2) rfl rfl
theorem w123 : Cond.fieldLink RX5 133 RX4 "count" "I" ∈ Gw := gwc in_0_3 (i := 3) rfl rfl
theorem w124 : Cond.fieldLink RX0 167 RX4 "count" "I" ∈ Gw := gwc in_0_3 (i := 4) rfl rfl
theorem w125 : Cond.fieldLink RX9 185 RX4 "count" "I" ∈ Gw := gwc in_0_3 (i := 5) rfl rfl
theorem w126 : Cond.fieldLink RX4 9 RX4 "sort" "[I" ∈ Gw := gwc in_0_3 (i := 6) rfl rfl
theorem w127 : Cond.fieldLink RX0 168 RX4 "sort" "[I" ∈ Gw := gwc in_0_3 (i := 7) rfl rfl
theorem w128 : Cond.fieldLink RX9 218 RX4 "sort" "[I" ∈ Gw := gwc in_0_3 (i := 8) rfl rfl
theorem w129 : Cond.fieldLink RX4 15 RX4 "cell" "[I" ∈ Gw := gwc in_0_3 (i := 9) rfl rfl
theorem w130 : Cond.fieldLink RX0 171 RX4 "cell" "[I" ∈ Gw := gwc in_0_3 (i := 10) rfl rfl
theorem w131 : Cond.fieldLink RX9 189 RX4 "cell" "[I" ∈ Gw := gwc in_0_3 (i := 11) rfl rfl
theorem w132 : Cond.fieldLink RX4 18 RX4 "way" "[I" ∈ Gw := gwc in_0_3 (i := 12) rfl rfl
theorem w133 : Cond.fieldLink RX9 175 RX4 "way" "[I" ∈ Gw := gwc in_0_3 (i := 13) rfl rfl
theorem w134 : Cond.fieldLink RX4 21 RX4 "power" "[I" ∈ Gw := gwc in_0_3 (i := 14) rfl rfl
theorem w135 : Cond.fieldLink RX5 96 RX4 "power" "[I" ∈ Gw := gwc in_0_3 (i := 15) rfl rfl
theorem w136 : Cond.fieldLink RX0 136 RX4 "power" "[I" ∈ Gw := gwc in_0_3 (i := 16) rfl rfl
theorem w137 : Cond.fieldLink RX9 210 RX4 "power" "[I" ∈ Gw := gwc in_0_3 (i := 17) rfl rfl
theorem w138 : Cond.fieldLink RX4 24 RX4 "store" "[I" ∈ Gw := gwc in_0_3 (i := 18) rfl rfl
theorem w139 : Cond.fieldLink RX9 178 RX4 "store" "[I" ∈ Gw := gwc in_0_3 (i := 19) rfl rfl
theorem w140 : Cond.fieldLink RX4 27 RX4 "tally" "[I" ∈ Gw := gwc in_0_3 (i := 20) rfl rfl
theorem w141 : Cond.fieldLink RX0 139 RX4 "tally" "[I" ∈ Gw := gwc in_0_3 (i := 21) rfl rfl
theorem w142 : Cond.fieldLink RX9 192 RX4 "tally" "[I" ∈ Gw := gwc in_0_3 (i := 22) rfl rfl
theorem w143 : Cond.fieldLink RX4 30 RX4 "taught" "[Z" ∈ Gw := gwc in_0_3 (i := 23) rfl rfl
theorem w144 : Cond.fieldLink RX9 181 RX4 "taught" "[Z" ∈ Gw := gwc in_0_3 (i := 24) rfl rfl
theorem w145 : Cond.fieldLink RX4 34 RX4 "lastWork" "[I" ∈ Gw := gwc in_0_3 (i := 25) rfl rfl
theorem w165 : Cond.arrayClass .boolean ∈ Gw := gwc in_0_4 (i := 5) rfl rfl
theorem w166 : Cond.classLink RX0 32 RX1 ∈ Gw := gwc in_0_4 (i := 6) rfl rfl
theorem w167 : Cond.instantiable RX1 7 ∈ Gw := gwc in_0_4 (i := 7) rfl rfl
theorem w168 : Cond.methodLink RX0 34 yX1_init ∈ Gw := gwc in_0_4 (i := 8) rfl rfl
theorem w169 : Cond.instanceMethod yX1_init ∈ Gw := gwc in_0_4 (i := 9) rfl rfl
theorem w170 : Cond.code yX1_init cX1_init 1 none ∈ Gw := gwc in_0_4 (i := 10) rfl rfl
theorem w171 : Cond.methodLink RX1 3 objectInit ∈ Gw := gwc in_0_4 (i := 11) rfl rfl
theorem w172 : Cond.fieldLink RX1 15 RX1 "leaked" "I" ∈ Gw := gwc in_0_4 (i := 12) rfl rfl
theorem w173 : Cond.fieldLink RX9 304 RX1 "leaked" "I" ∈ Gw := gwc in_0_4 (i := 13) rfl rfl
theorem w174 : Cond.fieldLink RX1 9 RX1 "firstLeak" "I" ∈ Gw := gwc in_0_4 (i := 14) rfl rfl
theorem w175 : Cond.fieldLink RX0 194 RX1 "firstLeak" "I" ∈ Gw := gwc in_0_4 (i := 15) rfl rfl
theorem w176 : Cond.fieldLink RX0 108 RX1 "air" "I" ∈ Gw := gwc in_0_4 (i := 16) rfl rfl
theorem w177 : Cond.fieldLink RX9 316 RX1 "air" "I" ∈ Gw := gwc in_0_4 (i := 17) rfl rfl
theorem w178 : Cond.fieldLink RX0 114 RX1 "sunk" "I" ∈ Gw := gwc in_0_4 (i := 18) rfl rfl
theorem w179 : Cond.fieldLink RX9 319 RX1 "sunk" "I" ∈ Gw := gwc in_0_4 (i := 19) rfl rfl
theorem w180 : Cond.fieldLink RX0 155 RX1 "out" "I" ∈ Gw := gwc in_0_4 (i := 20) rfl rfl
theorem w181 : Cond.fieldLink RX9 322 RX1 "out" "I" ∈ Gw := gwc in_0_4 (i := 21) rfl rfl
theorem w182 : Cond.fieldLink RX0 188 RX1 "deep" "I" ∈ Gw := gwc in_0_4 (i := 22) rfl rfl
theorem w183 : Cond.fieldLink RX9 331 RX1 "deep" "I" ∈ Gw := gwc in_0_4 (i := 23) rfl rfl
theorem w184 : Cond.fieldLink RX0 191 RX1 "burnt" "I" ∈ Gw := gwc in_0_4 (i := 24) rfl rfl
theorem w185 : Cond.fieldLink RX9 334 RX1 "burnt" "I" ∈ Gw := gwc in_0_4 (i := 25) rfl rfl
theorem w201 : Cond.fieldLink RX0 12 RX0 "cells" "LSlickboom$Cells;" ∈ Gw := gwc in_0_5 (i := 1) rfl rfl
theorem w202 : Cond.fieldLink RX7 15 RX0 "cells" "LSlickboom$Cells;" ∈ Gw := gwc in_0_5 (i := 2) rfl rfl
theorem w203 : Cond.fieldLink RX9 89 RX0 "cells" "LSlickboom$Cells;" ∈ Gw := gwc in_0_5 (i := 3) rfl rfl
theorem w204 : Cond.fieldLink RX5 56 RX0 "cells" "LSlickboom$Cells;" ∈ Gw := gwc in_0_5 (i := 4) rfl rfl
theorem w205 : Cond.fieldLink RX0 21 RX0 "ships" "LSlickboom$Ships;" ∈ Gw := gwc in_0_5 (i := 5) rfl rfl
theorem w206 : Cond.fieldLink RX9 68 RX0 "ships" "LSlickboom$Ships;" ∈ Gw := gwc in_0_5 (i := 6) rfl rfl
theorem w207 : Cond.fieldLink RX5 108 RX0 "ships" "LSlickboom$Ships;" ∈ Gw := gwc in_0_5 (i := 7) rfl rfl
theorem w208 : Cond.fieldLink RX0 28 RX0 "means" "LSlickboom$Means;" ∈ Gw := gwc in_0_5 (i := 8) rfl rfl
theorem w209 : Cond.fieldLink RX9 78 RX0 "means" "LSlickboom$Means;" ∈ Gw := gwc in_0_5 (i := 9) rfl rfl
theorem w210 : Cond.fieldLink RX5 84 RX0 "means" "LSlickboom$Means;" ∈ Gw := gwc in_0_5 (i := 10) rfl rfl
theorem w211 : Cond.fieldLink RX0 35 RX0 "books" "LSlickboom$Books;" ∈ Gw := gwc in_0_5 (i := 11) rfl rfl
theorem w212 : Cond.fieldLink RX9 300 RX0 "books" "LSlickboom$Books;" ∈ Gw := gwc in_0_5 (i := 12) rfl rfl
theorem w213 : Cond.fieldLink RX9 57 RX0 "hour" "I" ∈ Gw := gwc in_0_5 (i := 13) rfl rfl
theorem w214 : Cond.fieldLink RX0 60 RX0 "hour" "I" ∈ Gw := gwc in_0_5 (i := 14) rfl rfl
theorem w215 : Cond.fieldLink RX5 68 RX0 "hour" "I" ∈ Gw := gwc in_0_5 (i := 15) rfl rfl
theorem w216 : Cond.fieldLink RX0 39 RX0 "windWay" "I" ∈ Gw := gwc in_0_5 (i := 16) rfl rfl
theorem w217 : Cond.fieldLink RX9 109 RX0 "windWay" "I" ∈ Gw := gwc in_0_5 (i := 17) rfl rfl
theorem w218 : Cond.fieldLink RX5 88 RX0 "windWay" "I" ∈ Gw := gwc in_0_5 (i := 18) rfl rfl
theorem w219 : Cond.fieldLink RX0 63 RX0 "windStrength" "I" ∈ Gw := gwc in_0_5 (i := 19) rfl rfl
theorem w220 : Cond.fieldLink RX7 37 RX0 "windStrength" "I" ∈ Gw := gwc in_0_5 (i := 20) rfl rfl
theorem w221 : Cond.fieldLink RX9 112 RX0 "windStrength" "I" ∈ Gw := gwc in_0_5 (i := 21) rfl rfl
theorem w222 : Cond.fieldLink RX5 99 RX0 "windStrength" "I" ∈ Gw := gwc in_0_5 (i := 22) rfl rfl
theorem w223 : Cond.fieldLink RX0 43 RX0 "freshGoes" "[I" ∈ Gw := gwc in_0_5 (i := 23) rfl rfl
theorem w224 : Cond.fieldLink RX0 47 RX0 "thickGoes" "[I" ∈ Gw := gwc in_0_5 (i := 24) rfl rfl
theorem w244 : Cond.classLink RX9 19 RX5 ∈ Gw := gwc in_1_0 (i := 4) rfl rfl
theorem w245 : Cond.instantiable RX5 5 ∈ Gw := gwc in_1_0 (i := 5) rfl rfl
theorem w246 : Cond.methodLink RX9 21 yX5_init ∈ Gw := gwc in_1_0 (i := 6) rfl rfl
theorem w247 : Cond.instanceMethod yX5_init ∈ Gw := gwc in_1_0 (i := 7) rfl rfl
theorem w248 : Cond.code yX5_init cX5_init 2 none ∈ Gw := gwc in_1_0 (i := 8) rfl rfl
theorem w249 : Cond.methodLink RX5 3 objectInit ∈ Gw := gwc in_1_0 (i := 9) rfl rfl
theorem w250 : Cond.fieldLink RX5 9 RX5 "bay" "LSlickboom$Bay;" ∈ Gw := gwc in_1_0 (i := 10) rfl rfl
theorem w251 : Cond.fieldLink RX5 19 RX5 "freshHas" "I" ∈ Gw := gwc in_1_0 (i := 11) rfl rfl
theorem w252 : Cond.fieldLink RX5 26 RX5 "thickHas" "I" ∈ Gw := gwc in_1_0 (i := 12) rfl rfl
theorem w253 : Cond.fieldLink RX5 23 RX5 "freshGoes" "I" ∈ Gw := gwc in_1_0 (i := 13) rfl rfl
theorem w254 : Cond.fieldLink RX5 29 RX5 "thickGoes" "I" ∈ Gw := gwc in_1_0 (i := 14) rfl rfl
theorem w266 : Cond.classLink RX9 28 RX7 ∈ Gw := gwc in_1_0 (i := 26) rfl rfl
theorem w267 : Cond.instantiable RX7 1 ∈ Gw := gwc in_1_0 (i := 27) rfl rfl
theorem w268 : Cond.methodLink RX9 30 yX7_init ∈ Gw := gwc in_1_0 (i := 28) rfl rfl
theorem w269 : Cond.instanceMethod yX7_init ∈ Gw := gwc in_1_0 (i := 29) rfl rfl
theorem w270 : Cond.code yX7_init cX7_init 2 none ∈ Gw := gwc in_1_0 (i := 30) rfl rfl
theorem w271 : Cond.methodLink RX7 3 objectInit ∈ Gw := gwc in_1_0 (i := 31) rfl rfl
theorem w272 : Cond.fieldLink RX7 9 RX7 "bay" "LSlickboom$Bay;" ∈ Gw := gwc in_1_0 (i := 32) rfl rfl
theorem w276 : Cond.classLink RX9 35 RX3 ∈ Gw := gwc in_1_0 (i := 36) rfl rfl
theorem w277 : Cond.instantiable RX3 4 ∈ Gw := gwc in_1_0 (i := 37) rfl rfl
theorem w278 : Cond.methodLink RX9 37 yX3_init ∈ Gw := gwc in_1_0 (i := 38) rfl rfl
theorem w279 : Cond.instanceMethod yX3_init ∈ Gw := gwc in_1_0 (i := 39) rfl rfl
theorem w280 : Cond.code yX3_init cX3_init 1 none ∈ Gw := gwc in_1_1 (i := 0) rfl rfl
theorem w281 : Cond.methodLink RX3 3 objectInit ∈ Gw := gwc in_1_1 (i := 1) rfl rfl
theorem w282 : Cond.fieldLink RX3 18 RX3 "sites" "I" ∈ Gw := gwc in_1_1 (i := 2) rfl rfl
theorem w283 : Cond.fieldLink RX9 248 RX3 "sites" "I" ∈ Gw := gwc in_1_1 (i := 3) rfl rfl
theorem w284 : Cond.fieldLink RX3 9 RX3 "waste" "[I" ∈ Gw := gwc in_1_1 (i := 4) rfl rfl
theorem w285 : Cond.fieldLink RX9 195 RX3 "waste" "[I" ∈ Gw := gwc in_1_1 (i := 5) rfl rfl
theorem w286 : Cond.fieldLink RX3 15 RX3 "room" "[I" ∈ Gw := gwc in_1_1 (i := 6) rfl rfl
theorem w287 : Cond.fieldLink RX3 22 RX3 "delivered" "I" ∈ Gw := gwc in_1_1 (i := 7) rfl rfl
theorem w297 : Cond.classLink RX9 42 RX6 ∈ Gw := gwc in_1_1 (i := 17) rfl rfl
theorem w298 : Cond.instantiable RX6 5 ∈ Gw := gwc in_1_1 (i := 18) rfl rfl
theorem w299 : Cond.methodLink RX9 44 yX6_init ∈ Gw := gwc in_1_1 (i := 19) rfl rfl
theorem w300 : Cond.instanceMethod yX6_init ∈ Gw := gwc in_1_1 (i := 20) rfl rfl
theorem w301 : Cond.code yX6_init cX6_init 1 none ∈ Gw := gwc in_1_1 (i := 21) rfl rfl
theorem w302 : Cond.methodLink RX6 3 objectInit ∈ Gw := gwc in_1_1 (i := 22) rfl rfl
theorem w303 : Cond.fieldLink RX6 15 RX6 "count" "I" ∈ Gw := gwc in_1_1 (i := 23) rfl rfl
theorem w304 : Cond.fieldLink RX9 265 RX6 "count" "I" ∈ Gw := gwc in_1_1 (i := 24) rfl rfl
theorem w305 : Cond.fieldLink RX6 23 RX6 "owner" "I" ∈ Gw := gwc in_1_1 (i := 25) rfl rfl
theorem w306 : Cond.fieldLink RX9 271 RX6 "owner" "I" ∈ Gw := gwc in_1_1 (i := 26) rfl rfl
theorem w307 : Cond.fieldLink RX6 26 RX6 "fund" "I" ∈ Gw := gwc in_1_1 (i := 27) rfl rfl
theorem w308 : Cond.fieldLink RX9 274 RX6 "fund" "I" ∈ Gw := gwc in_1_1 (i := 28) rfl rfl
theorem w309 : Cond.fieldLink RX6 19 RX6 "all" "J" ∈ Gw := gwc in_1_1 (i := 29) rfl rfl
theorem w310 : Cond.fieldLink RX6 9 RX6 "cents" "[I" ∈ Gw := gwc in_1_1 (i := 30) rfl rfl
theorem w322 : Cond.fieldLink RX9 12 RX9 "bay" "LSlickboom$Bay;" ∈ Gw := gwc in_1_2 (i := 2) rfl rfl
theorem w323 : Cond.fieldLink RX9 16 RX9 "trial" "LSlickboom$Bay;" ∈ Gw := gwc in_1_2 (i := 3) rfl rfl
theorem w324 : Cond.fieldLink RX9 24 RX9 "nextHour" "LSlickboom$NextHour;" ∈ Gw := gwc in_1_2 (i := 4) rfl rfl
theorem w325 : Cond.fieldLink RX9 31 RX9 "rules" "LSlickboom$Rules;" ∈ Gw := gwc in_1_2 (i := 5) rfl rfl
theorem w326 : Cond.fieldLink RX9 38 RX9 "dump" "LSlickboom$Dump;" ∈ Gw := gwc in_1_2 (i := 6) rfl rfl
theorem w327 : Cond.fieldLink RX9 45 RX9 "payers" "LSlickboom$Payers;" ∈ Gw := gwc in_1_2 (i := 7) rfl rfl
theorem w341 : Cond.methodLink RL 118 yL_shore ∈ Gw := gwc in_1_2 (i := 21) rfl rfl
theorem w342 : Cond.static yL_shore ∈ Gw := gwc in_1_2 (i := 22) rfl rfl
theorem w344 : Cond.classLink RL 13 "java/lang/IndexOutOfBoundsException" ∈ Gw := gwc in_1_2 (i := 24) rfl rfl
theorem w345 : Cond.classLink RL 15 "java/lang/IllegalArgumentException" ∈ Gw := gwc in_1_2 (i := 25) rfl rfl
theorem w346 : Cond.classLink RL 17 "java/lang/IllegalStateException" ∈ Gw := gwc in_1_2 (i := 26) rfl rfl
theorem w347 : Cond.methodLink RL 7 yX9_shore ∈ Gw := gwc in_1_2 (i := 27) rfl rfl
theorem w348 : Cond.instanceMethod yX9_shore ∈ Gw := gwc in_1_2 (i := 28) rfl rfl
theorem w349 : Cond.selects RX9 yX9_shore yX9_shore ∈ Gw := gwc in_1_2 (i := 29) rfl rfl
theorem w350 : Cond.code yX9_shore cX9_shore 4 (some .int) ∈ Gw := gwc in_1_2 (i := 30) rfl rfl
theorem w351 : Cond.methodLink RX9 49 yX9_needNumber ∈ Gw := gwc in_1_2 (i := 31) rfl rfl
theorem w352 : Cond.static yX9_needNumber ∈ Gw := gwc in_1_2 (i := 32) rfl rfl
theorem w353 : Cond.code yX9_needNumber cX9_needNumber 2 none ∈ Gw := gwc in_1_2 (i := 33) rfl rfl
theorem w354 : Cond.classLink RX9 340 "java/lang/IndexOutOfBoundsException" ∈ Gw := gwc in_1_2 (i := 34) rfl rfl
theorem w355 : Cond.instantiable "java/lang/IndexOutOfBoundsException" 6 ∈ Gw := gwc in_1_2 (i := 35) rfl rfl
theorem w375 : Cond.fieldLink "java/lang/Throwable" 198 "java/lang/Throwable" "backtrace" "Ljava/lang/Object;" ∈ Gw := gwc in_1_3 (i := 15) rfl rfl
theorem w377 : Cond.instanceMethod ⟨"java/lang/Throwable", "<init>", "()V"⟩ ∈ Gw := gwc in_1_3 (i := 17) rfl rfl
theorem w379 : Cond.methodLink "java/lang/Throwable" 1 objectInit ∈ Gw := gwc in_1_3 (i := 19) rfl rfl
theorem w380 : Cond.fieldLink "java/lang/Throwable" 13 "java/lang/Throwable" "UNASSIGNED_STACK" "[Ljava/lang/StackTraceElement;" ∈ Gw := gwc in_1_3 (i := 20) rfl rfl
theorem w382 : Cond.fieldLink "java/lang/Throwable" 20 "java/lang/Throwable" "SUPPRESSED_SENTINEL" "Ljava/util/List;" ∈ Gw := gwc in_1_3 (i := 22) rfl rfl
theorem w384 : Cond.methodLink "java/lang/Throwable" 27 ⟨"java/lang/Throwable", "fillInStackTrace", "()Ljava/lang/Throwable;"⟩ ∈ Gw := gwc in_1_3 (i := 24) rfl rfl
theorem w385 : Cond.instanceMethod ⟨"java/lang/Throwable", "fillInStackTrace", "()Ljava/lang/Throwable;"⟩ ∈ Gw := gwc in_1_3 (i := 25) rfl rfl
theorem w390 : Cond.methodLink "java/lang/Throwable" 202 ⟨"java/lang/Throwable", "fillInStackTrace", "(I)Ljava/lang/Throwable;"⟩ ∈ Gw := gwc in_1_3 (i := 30) rfl rfl
theorem w392 : Cond.instanceMethod ⟨"java/lang/Throwable", "fillInStackTrace", "(I)Ljava/lang/Throwable;"⟩ ∈ Gw := gwc in_1_3 (i := 32) rfl rfl
theorem w393 : Cond.instantiable "java/lang/Throwable" 6 ∈ Gw := gwc in_1_3 (i := 33) rfl rfl
theorem w394 : Cond.native ⟨"java/lang/Throwable", "fillInStackTrace", "(I)Ljava/lang/Throwable;"⟩ ∈ Gw := gwc in_1_3 (i := 34) rfl rfl
theorem w396 : Cond.methodLink RX9 344 ⟨"java/lang/IndexOutOfBoundsException", "<init>", "(Ljava/lang/String;)V"⟩ ∈ Gw := gwc in_1_3 (i := 36) rfl rfl
theorem w397 : Cond.instanceMethod ⟨"java/lang/IndexOutOfBoundsException", "<init>", "(Ljava/lang/String;)V"⟩ ∈ Gw := gwc in_1_3 (i := 37) rfl rfl
theorem w399 : Cond.methodLink "java/lang/IndexOutOfBoundsException" 7 ⟨"java/lang/RuntimeException", "<init>", "(Ljava/lang/String;)V"⟩ ∈ Gw := gwc in_1_3 (i := 39) rfl rfl
theorem w400 : Cond.instanceMethod ⟨"java/lang/RuntimeException", "<init>", "(Ljava/lang/String;)V"⟩ ∈ Gw := gwc in_1_4 (i := 0) rfl rfl
theorem w402 : Cond.methodLink "java/lang/RuntimeException" 7 ⟨"java/lang/Exception", "<init>", "(Ljava/lang/String;)V"⟩ ∈ Gw := gwc in_1_4 (i := 2) rfl rfl
theorem w403 : Cond.instanceMethod ⟨"java/lang/Exception", "<init>", "(Ljava/lang/String;)V"⟩ ∈ Gw := gwc in_1_4 (i := 3) rfl rfl
theorem w405 : Cond.methodLink "java/lang/Exception" 7 ⟨"java/lang/Throwable", "<init>", "(Ljava/lang/String;)V"⟩ ∈ Gw := gwc in_1_4 (i := 5) rfl rfl
theorem w406 : Cond.instanceMethod ⟨"java/lang/Throwable", "<init>", "(Ljava/lang/String;)V"⟩ ∈ Gw := gwc in_1_4 (i := 6) rfl rfl
theorem w409 : Cond.fieldLink "java/lang/Throwable" 31 "java/lang/Throwable" "detailMessage" "Ljava/lang/String;" ∈ Gw := gwc in_1_4 (i := 9) rfl rfl
theorem w410 : Cond.fieldLink "java/lang/Throwable" 7 "java/lang/Throwable" "cause" "Ljava/lang/Throwable;" ∈ Gw := gwc in_1_4 (i := 10) rfl rfl
theorem w411 : Cond.fieldLink "java/lang/Throwable" 17 "java/lang/Throwable" "stackTrace" "[Ljava/lang/StackTraceElement;" ∈ Gw := gwc in_1_4 (i := 11) rfl rfl
theorem w412 : Cond.fieldLink "java/lang/Throwable" 24 "java/lang/Throwable" "suppressedExceptions" "Ljava/util/List;" ∈ Gw := gwc in_1_4 (i := 12) rfl rfl
theorem w421 : Cond.arrayClass .byte ∈ Gw := gwc in_1_4 (i := 21) rfl rfl
theorem w422 : Cond.methodLink RX9 53 yX9_needRange ∈ Gw := gwc in_1_4 (i := 22) rfl rfl
theorem w423 : Cond.static yX9_needRange ∈ Gw := gwc in_1_4 (i := 23) rfl rfl
theorem w424 : Cond.code yX9_needRange cX9_needRange 3 none ∈ Gw := gwc in_1_4 (i := 24) rfl rfl
theorem w425 : Cond.classLink RX9 128 "java/lang/IllegalArgumentException" ∈ Gw := gwc in_1_4 (i := 25) rfl rfl
theorem w426 : Cond.instantiable "java/lang/IllegalArgumentException" 6 ∈ Gw := gwc in_1_4 (i := 26) rfl rfl
theorem w435 : Cond.methodLink RX9 132 ⟨"java/lang/IllegalArgumentException", "<init>", "(Ljava/lang/String;)V"⟩ ∈ Gw := gwc in_1_4 (i := 35) rfl rfl
theorem w436 : Cond.instanceMethod ⟨"java/lang/IllegalArgumentException", "<init>", "(Ljava/lang/String;)V"⟩ ∈ Gw := gwc in_1_4 (i := 36) rfl rfl
theorem w438 : Cond.methodLink "java/lang/IllegalArgumentException" 7 ⟨"java/lang/RuntimeException", "<init>", "(Ljava/lang/String;)V"⟩ ∈ Gw := gwc in_1_4 (i := 38) rfl rfl
theorem w441 : Cond.classLink RX9 61 "java/lang/IllegalStateException" ∈ Gw := gwc in_1_5 (i := 1) rfl rfl
theorem w442 : Cond.instantiable "java/lang/IllegalStateException" 6 ∈ Gw := gwc in_1_5 (i := 2) rfl rfl
theorem w451 : Cond.methodLink RX9 65 ⟨"java/lang/IllegalStateException", "<init>", "(Ljava/lang/String;)V"⟩ ∈ Gw := gwc in_1_5 (i := 11) rfl rfl
theorem w452 : Cond.instanceMethod ⟨"java/lang/IllegalStateException", "<init>", "(Ljava/lang/String;)V"⟩ ∈ Gw := gwc in_1_5 (i := 12) rfl rfl
theorem w454 : Cond.methodLink "java/lang/IllegalStateException" 7 ⟨"java/lang/RuntimeException", "<init>", "(Ljava/lang/String;)V"⟩ ∈ Gw := gwc in_1_5 (i := 14) rfl rfl
theorem w457 : Cond.methodLink RX9 72 yX8_isAnyAt ∈ Gw := gwc in_1_5 (i := 17) rfl rfl
theorem w458 : Cond.instanceMethod yX8_isAnyAt ∈ Gw := gwc in_1_5 (i := 18) rfl rfl
theorem w459 : Cond.selects RX8 yX8_isAnyAt yX8_isAnyAt ∈ Gw := gwc in_1_5 (i := 19) rfl rfl
theorem w460 : Cond.code yX8_isAnyAt cX8_isAnyAt 3 (some .boolean) ∈ Gw := gwc in_1_5 (i := 20) rfl rfl
theorem w461 : Cond.methodLink RX9 82 yX4_isSkimmerAt ∈ Gw := gwc in_1_5 (i := 21) rfl rfl
theorem w462 : Cond.instanceMethod yX4_isSkimmerAt ∈ Gw := gwc in_1_5 (i := 22) rfl rfl
theorem w463 : Cond.selects RX4 yX4_isSkimmerAt yX4_isSkimmerAt ∈ Gw := gwc in_1_5 (i := 23) rfl rfl
theorem w464 : Cond.code yX4_isSkimmerAt cX4_isSkimmerAt 3 (some .boolean) ∈ Gw := gwc in_1_5 (i := 24) rfl rfl
theorem w465 : Cond.methodLink RX4 41 yX4_isSkimmer ∈ Gw := gwc in_1_5 (i := 25) rfl rfl
theorem w466 : Cond.instanceMethod yX4_isSkimmer ∈ Gw := gwc in_1_5 (i := 26) rfl rfl
theorem w467 : Cond.selects RX4 yX4_isSkimmer yX4_isSkimmer ∈ Gw := gwc in_1_5 (i := 27) rfl rfl
theorem w468 : Cond.code yX4_isSkimmer cX4_isSkimmer 3 (some .boolean) ∈ Gw := gwc in_1_5 (i := 28) rfl rfl
theorem w470 : Cond.methodLink RX9 99 yX2_become ∈ Gw := gwc in_1_5 (i := 30) rfl rfl
theorem w471 : Cond.instanceMethod yX2_become ∈ Gw := gwc in_1_5 (i := 31) rfl rfl
theorem w472 : Cond.selects RX2 yX2_become yX2_become ∈ Gw := gwc in_1_5 (i := 32) rfl rfl
theorem w473 : Cond.code yX2_become cX2_become 3 none ∈ Gw := gwc in_1_5 (i := 33) rfl rfl
theorem w474 : Cond.methodLink RL 128 yL_depth ∈ Gw := gwc in_1_5 (i := 34) rfl rfl
theorem w475 : Cond.static yL_depth ∈ Gw := gwc in_1_5 (i := 35) rfl rfl
theorem w477 : Cond.methodLink RL 19 yX9_depth ∈ Gw := gwc in_1_5 (i := 37) rfl rfl
theorem w478 : Cond.instanceMethod yX9_depth ∈ Gw := gwc in_1_5 (i := 38) rfl rfl
theorem w479 : Cond.selects RX9 yX9_depth yX9_depth ∈ Gw := gwc in_1_5 (i := 39) rfl rfl
theorem w480 : Cond.code yX9_depth cX9_depth 4 (some .int) ∈ Gw := gwc in_2_0 (i := 0) rfl rfl
theorem w481 : Cond.methodLink RX9 102 yX9_needWater ∈ Gw := gwc in_2_0 (i := 1) rfl rfl
theorem w483 : Cond.instanceMethod yX9_needWater ∈ Gw := gwc in_2_0 (i := 3) rfl rfl
theorem w484 : Cond.code yX9_needWater cX9_needWater 2 none ∈ Gw := gwc in_2_0 (i := 4) rfl rfl
theorem w485 : Cond.methodLink RX9 291 yX2_isWater ∈ Gw := gwc in_2_0 (i := 5) rfl rfl
theorem w486 : Cond.instanceMethod yX2_isWater ∈ Gw := gwc in_2_0 (i := 6) rfl rfl
theorem w487 : Cond.selects RX2 yX2_isWater yX2_isWater ∈ Gw := gwc in_2_0 (i := 7) rfl rfl
theorem w488 : Cond.code yX2_isWater cX2_isWater 2 (some .boolean) ∈ Gw := gwc in_2_0 (i := 8) rfl rfl
theorem w490 : Cond.methodLink RL 131 yL_wind ∈ Gw := gwc in_2_0 (i := 10) rfl rfl
theorem w491 : Cond.static yL_wind ∈ Gw := gwc in_2_0 (i := 11) rfl rfl
theorem w493 : Cond.methodLink RL 22 yX9_wind ∈ Gw := gwc in_2_0 (i := 13) rfl rfl
theorem w494 : Cond.instanceMethod yX9_wind ∈ Gw := gwc in_2_0 (i := 14) rfl rfl
theorem w495 : Cond.selects RX9 yX9_wind yX9_wind ∈ Gw := gwc in_2_0 (i := 15) rfl rfl
theorem w496 : Cond.code yX9_wind cX9_wind 4 (some .int) ∈ Gw := gwc in_2_0 (i := 16) rfl rfl
theorem w497 : Cond.methodLink RL 134 yL_ship ∈ Gw := gwc in_2_0 (i := 17) rfl rfl
theorem w498 : Cond.static yL_ship ∈ Gw := gwc in_2_0 (i := 18) rfl rfl
theorem w500 : Cond.methodLink RL 25 yX9_ship ∈ Gw := gwc in_2_0 (i := 20) rfl rfl
theorem w501 : Cond.instanceMethod yX9_ship ∈ Gw := gwc in_2_0 (i := 21) rfl rfl
theorem w502 : Cond.selects RX9 yX9_ship yX9_ship ∈ Gw := gwc in_2_0 (i := 22) rfl rfl
theorem w503 : Cond.code yX9_ship cX9_ship 3 (some .int) ∈ Gw := gwc in_2_0 (i := 23) rfl rfl
theorem w504 : Cond.constant RX9 115 100000 ∈ Gw := gwc in_2_0 (i := 24) rfl rfl
theorem w506 : Cond.methodLink RX9 121 yX8_add ∈ Gw := gwc in_2_0 (i := 26) rfl rfl
theorem w507 : Cond.instanceMethod yX8_add ∈ Gw := gwc in_2_0 (i := 27) rfl rfl
theorem w508 : Cond.selects RX8 yX8_add yX8_add ∈ Gw := gwc in_2_0 (i := 28) rfl rfl
theorem w509 : Cond.code yX8_add cX8_add 4 (some .int) ∈ Gw := gwc in_2_0 (i := 29) rfl rfl
theorem w510 : Cond.methodLink RL 137 yL_hole ∈ Gw := gwc in_2_0 (i := 30) rfl rfl
theorem w511 : Cond.static yL_hole ∈ Gw := gwc in_2_0 (i := 31) rfl rfl
theorem w513 : Cond.methodLink RL 28 yX9_hole ∈ Gw := gwc in_2_0 (i := 33) rfl rfl
theorem w514 : Cond.instanceMethod yX9_hole ∈ Gw := gwc in_2_0 (i := 34) rfl rfl
theorem w515 : Cond.selects RX9 yX9_hole yX9_hole ∈ Gw := gwc in_2_0 (i := 35) rfl rfl
theorem w516 : Cond.code yX9_hole cX9_hole 4 (some .int) ∈ Gw := gwc in_2_0 (i := 36) rfl rfl
theorem w517 : Cond.methodLink RL 140 yL_pump ∈ Gw := gwc in_2_0 (i := 37) rfl rfl
theorem w518 : Cond.static yL_pump ∈ Gw := gwc in_2_0 (i := 38) rfl rfl
theorem w520 : Cond.methodLink RL 31 yX9_pump ∈ Gw := gwc in_2_1 (i := 0) rfl rfl
theorem w521 : Cond.instanceMethod yX9_pump ∈ Gw := gwc in_2_1 (i := 1) rfl rfl
theorem w522 : Cond.selects RX9 yX9_pump yX9_pump ∈ Gw := gwc in_2_1 (i := 2) rfl rfl
theorem w523 : Cond.code yX9_pump cX9_pump 5 (some .int) ∈ Gw := gwc in_2_1 (i := 3) rfl rfl
theorem w526 : Cond.methodLink RL 144 yL_shipHas ∈ Gw := gwc in_2_1 (i := 6) rfl rfl
theorem w527 : Cond.static yL_shipHas ∈ Gw := gwc in_2_1 (i := 7) rfl rfl
theorem w529 : Cond.methodLink RL 35 yX9_shipHas ∈ Gw := gwc in_2_1 (i := 9) rfl rfl
theorem w530 : Cond.instanceMethod yX9_shipHas ∈ Gw := gwc in_2_1 (i := 10) rfl rfl
theorem w531 : Cond.selects RX9 yX9_shipHas yX9_shipHas ∈ Gw := gwc in_2_1 (i := 11) rfl rfl
theorem w532 : Cond.code yX9_shipHas cX9_shipHas 2 (some .int) ∈ Gw := gwc in_2_1 (i := 12) rfl rfl
theorem w533 : Cond.methodLink RL 148 yL_pass ∈ Gw := gwc in_2_1 (i := 13) rfl rfl
theorem w534 : Cond.static yL_pass ∈ Gw := gwc in_2_1 (i := 14) rfl rfl
theorem w536 : Cond.methodLink RL 39 yX9_pass ∈ Gw := gwc in_2_1 (i := 16) rfl rfl
theorem w537 : Cond.instanceMethod yX9_pass ∈ Gw := gwc in_2_1 (i := 17) rfl rfl
theorem w538 : Cond.selects RX9 yX9_pass yX9_pass ∈ Gw := gwc in_2_1 (i := 18) rfl rfl
theorem w539 : Cond.code yX9_pass cX9_pass 2 (some .int) ∈ Gw := gwc in_2_1 (i := 19) rfl rfl
theorem w541 : Cond.methodLink RX9 140 yX0_letPass ∈ Gw := gwc in_2_1 (i := 21) rfl rfl
theorem w542 : Cond.instanceMethod yX0_letPass ∈ Gw := gwc in_2_1 (i := 22) rfl rfl
theorem w543 : Cond.selects RX0 yX0_letPass yX0_letPass ∈ Gw := gwc in_2_1 (i := 23) rfl rfl
theorem w544 : Cond.code yX0_letPass cX0_letPass 3 none ∈ Gw := gwc in_2_1 (i := 24) rfl rfl
theorem w545 : Cond.methodLink RX0 66 yX0_leak ∈ Gw := gwc in_2_1 (i := 25) rfl rfl
theorem w547 : Cond.instanceMethod yX0_leak ∈ Gw := gwc in_2_1 (i := 27) rfl rfl
theorem w548 : Cond.code yX0_leak cX0_leak 4 none ∈ Gw := gwc in_2_1 (i := 28) rfl rfl
theorem w549 : Cond.methodLink RX0 75 yX0_tideOf ∈ Gw := gwc in_2_1 (i := 29) rfl rfl
theorem w550 : Cond.static yX0_tideOf ∈ Gw := gwc in_2_1 (i := 30) rfl rfl
theorem w551 : Cond.code yX0_tideOf cX0_tideOf 2 (some .int) ∈ Gw := gwc in_2_1 (i := 31) rfl rfl
theorem w552 : Cond.methodLink RX0 91 yX8_leakOf ∈ Gw := gwc in_2_1 (i := 32) rfl rfl
theorem w553 : Cond.instanceMethod yX8_leakOf ∈ Gw := gwc in_2_1 (i := 33) rfl rfl
theorem w554 : Cond.selects RX8 yX8_leakOf yX8_leakOf ∈ Gw := gwc in_2_1 (i := 34) rfl rfl
theorem w555 : Cond.code yX8_leakOf cX8_leakOf 4 (some .int) ∈ Gw := gwc in_2_1 (i := 35) rfl rfl
theorem w556 : Cond.methodLink RX8 25 Lib.Math.min.name ∈ Gw := gwc in_2_1 (i := 36) rfl rfl
theorem w557 : Cond.static Lib.Math.min.name ∈ Gw := gwc in_2_1 (i := 37) rfl rfl
theorem w558 : Cond.code Lib.Math.min.name Lib.Math.min.code 2 (some .int) ∈ Gw := gwc in_2_1 (i := 38) rfl rfl
theorem w559 : Cond.methodLink RX0 104 yX1_noteLeak ∈ Gw := gwc in_2_1 (i := 39) rfl rfl
theorem w560 : Cond.instanceMethod yX1_noteLeak ∈ Gw := gwc in_2_2 (i := 0) rfl rfl
theorem w561 : Cond.selects RX1 yX1_noteLeak yX1_noteLeak ∈ Gw := gwc in_2_2 (i := 1) rfl rfl
theorem w562 : Cond.code yX1_noteLeak cX1_noteLeak 3 none ∈ Gw := gwc in_2_2 (i := 2) rfl rfl
theorem w563 : Cond.methodLink RX0 69 yX0_weather ∈ Gw := gwc in_2_2 (i := 3) rfl rfl
theorem w565 : Cond.instanceMethod yX0_weather ∈ Gw := gwc in_2_2 (i := 5) rfl rfl
theorem w566 : Cond.code yX0_weather cX0_weather 5 none ∈ Gw := gwc in_2_2 (i := 6) rfl rfl
theorem w567 : Cond.methodLink RX0 72 yX0_drift ∈ Gw := gwc in_2_2 (i := 7) rfl rfl
theorem w569 : Cond.instanceMethod yX0_drift ∈ Gw := gwc in_2_2 (i := 9) rfl rfl
theorem w570 : Cond.code yX0_drift cX0_drift 2 none ∈ Gw := gwc in_2_2 (i := 10) rfl rfl
theorem w571 : Cond.methodLink RX0 117 yX0_findWhatGoes ∈ Gw := gwc in_2_2 (i := 11) rfl rfl
theorem w573 : Cond.instanceMethod yX0_findWhatGoes ∈ Gw := gwc in_2_2 (i := 13) rfl rfl
theorem w574 : Cond.code yX0_findWhatGoes cX0_findWhatGoes 6 none ∈ Gw := gwc in_2_2 (i := 14) rfl rfl
theorem w575 : Cond.methodLink RX0 127 yX0_roomBehind ∈ Gw := gwc in_2_2 (i := 15) rfl rfl
theorem w576 : Cond.instanceMethod yX0_roomBehind ∈ Gw := gwc in_2_2 (i := 16) rfl rfl
theorem w577 : Cond.selects RX0 yX0_roomBehind yX0_roomBehind ∈ Gw := gwc in_2_2 (i := 17) rfl rfl
theorem w578 : Cond.code yX0_roomBehind cX0_roomBehind 3 (some .int) ∈ Gw := gwc in_2_2 (i := 18) rfl rfl
theorem w579 : Cond.methodLink RX0 121 yX2_beside ∈ Gw := gwc in_2_2 (i := 19) rfl rfl
theorem w580 : Cond.static yX2_beside ∈ Gw := gwc in_2_2 (i := 20) rfl rfl
theorem w581 : Cond.code yX2_beside cX2_beside 4 (some .int) ∈ Gw := gwc in_2_2 (i := 21) rfl rfl
theorem w582 : Cond.methodLink RX0 147 yX2_isWater ∈ Gw := gwc in_2_2 (i := 22) rfl rfl
theorem w583 : Cond.constant RX0 151 1000000 ∈ Gw := gwc in_2_2 (i := 23) rfl rfl
theorem w584 : Cond.methodLink RX0 152 yX2_roomOf ∈ Gw := gwc in_2_2 (i := 24) rfl rfl
theorem w585 : Cond.instanceMethod yX2_roomOf ∈ Gw := gwc in_2_2 (i := 25) rfl rfl
theorem w586 : Cond.selects RX2 yX2_roomOf yX2_roomOf ∈ Gw := gwc in_2_2 (i := 26) rfl rfl
theorem w587 : Cond.code yX2_roomOf cX2_roomOf 2 (some .int) ∈ Gw := gwc in_2_2 (i := 27) rfl rfl
theorem w590 : Cond.methodLink RX0 130 yX0_blown ∈ Gw := gwc in_2_2 (i := 30) rfl rfl
theorem w591 : Cond.instanceMethod yX0_blown ∈ Gw := gwc in_2_2 (i := 31) rfl rfl
theorem w592 : Cond.selects RX0 yX0_blown yX0_blown ∈ Gw := gwc in_2_2 (i := 32) rfl rfl
theorem w593 : Cond.code yX0_blown cX0_blown 3 (some .int) ∈ Gw := gwc in_2_2 (i := 33) rfl rfl
theorem w594 : Cond.methodLink RX0 142 Lib.Math.min.name ∈ Gw := gwc in_2_2 (i := 34) rfl rfl
theorem w595 : Cond.methodLink RX0 133 yX4_boomOn ∈ Gw := gwc in_2_2 (i := 35) rfl rfl
theorem w596 : Cond.instanceMethod yX4_boomOn ∈ Gw := gwc in_2_2 (i := 36) rfl rfl
theorem w597 : Cond.selects RX4 yX4_boomOn yX4_boomOn ∈ Gw := gwc in_2_2 (i := 37) rfl rfl
theorem w598 : Cond.code yX4_boomOn cX4_boomOn 6 (some .int) ∈ Gw := gwc in_2_2 (i := 38) rfl rfl
theorem w599 : Cond.methodLink RX4 45 yX2_beside ∈ Gw := gwc in_2_2 (i := 39) rfl rfl
theorem w600 : Cond.methodLink RX4 51 yX2_opposite ∈ Gw := gwc in_2_3 (i := 0) rfl rfl
theorem w601 : Cond.static yX2_opposite ∈ Gw := gwc in_2_3 (i := 1) rfl rfl
theorem w602 : Cond.code yX2_opposite cX2_opposite 1 (some .int) ∈ Gw := gwc in_2_3 (i := 2) rfl rfl
theorem w603 : Cond.methodLink RX0 124 yX0_letGo ∈ Gw := gwc in_2_3 (i := 3) rfl rfl
theorem w605 : Cond.instanceMethod yX0_letGo ∈ Gw := gwc in_2_3 (i := 5) rfl rfl
theorem w606 : Cond.code yX0_letGo cX0_letGo 5 none ∈ Gw := gwc in_2_3 (i := 6) rfl rfl
theorem w607 : Cond.methodLink RX0 79 yX0_giveBack ∈ Gw := gwc in_2_3 (i := 7) rfl rfl
theorem w609 : Cond.instanceMethod yX0_giveBack ∈ Gw := gwc in_2_3 (i := 9) rfl rfl
theorem w610 : Cond.code yX0_giveBack cX0_giveBack 4 none ∈ Gw := gwc in_2_3 (i := 10) rfl rfl
theorem w611 : Cond.methodLink RX0 161 yX2_lowestWaterBeside ∈ Gw := gwc in_2_3 (i := 11) rfl rfl
theorem w612 : Cond.instanceMethod yX2_lowestWaterBeside ∈ Gw := gwc in_2_3 (i := 12) rfl rfl
theorem w613 : Cond.selects RX2 yX2_lowestWaterBeside yX2_lowestWaterBeside ∈ Gw := gwc in_2_3 (i := 13) rfl rfl
theorem w614 : Cond.code yX2_lowestWaterBeside cX2_lowestWaterBeside 5 (some .int) ∈ Gw := gwc in_2_3 (i := 14) rfl rfl
theorem w615 : Cond.methodLink RX2 42 yX2_beside ∈ Gw := gwc in_2_3 (i := 15) rfl rfl
theorem w616 : Cond.methodLink RX2 46 yX2_isWater ∈ Gw := gwc in_2_3 (i := 16) rfl rfl
theorem w617 : Cond.methodLink RX0 164 yX2_backOf ∈ Gw := gwc in_2_3 (i := 17) rfl rfl
theorem w618 : Cond.instanceMethod yX2_backOf ∈ Gw := gwc in_2_3 (i := 18) rfl rfl
theorem w619 : Cond.selects RX2 yX2_backOf yX2_backOf ∈ Gw := gwc in_2_3 (i := 19) rfl rfl
theorem w620 : Cond.code yX2_backOf cX2_backOf 4 (some .int) ∈ Gw := gwc in_2_3 (i := 20) rfl rfl
theorem w623 : Cond.methodLink RX0 82 yX0_skim ∈ Gw := gwc in_2_3 (i := 23) rfl rfl
theorem w625 : Cond.instanceMethod yX0_skim ∈ Gw := gwc in_2_3 (i := 25) rfl rfl
theorem w626 : Cond.code yX0_skim cX0_skim 5 none ∈ Gw := gwc in_2_3 (i := 26) rfl rfl
theorem w627 : Cond.methodLink RX0 172 yX4_freshTaken ∈ Gw := gwc in_2_3 (i := 27) rfl rfl
theorem w628 : Cond.instanceMethod yX4_freshTaken ∈ Gw := gwc in_2_3 (i := 28) rfl rfl
theorem w629 : Cond.selects RX4 yX4_freshTaken yX4_freshTaken ∈ Gw := gwc in_2_3 (i := 29) rfl rfl
theorem w630 : Cond.code yX4_freshTaken cX4_freshTaken 4 (some .int) ∈ Gw := gwc in_2_3 (i := 30) rfl rfl
theorem w631 : Cond.methodLink RX4 55 Lib.Math.min.name ∈ Gw := gwc in_2_3 (i := 31) rfl rfl
theorem w632 : Cond.methodLink RX0 175 yX4_thickTaken ∈ Gw := gwc in_2_3 (i := 32) rfl rfl
theorem w633 : Cond.instanceMethod yX4_thickTaken ∈ Gw := gwc in_2_3 (i := 33) rfl rfl
theorem w634 : Cond.selects RX4 yX4_thickTaken yX4_thickTaken ∈ Gw := gwc in_2_3 (i := 34) rfl rfl
theorem w635 : Cond.code yX4_thickTaken cX4_thickTaken 5 (some .int) ∈ Gw := gwc in_2_3 (i := 35) rfl rfl
theorem w636 : Cond.methodLink RX0 85 yX0_harmShores ∈ Gw := gwc in_2_3 (i := 36) rfl rfl
theorem w638 : Cond.instanceMethod yX0_harmShores ∈ Gw := gwc in_2_3 (i := 38) rfl rfl
theorem w639 : Cond.code yX0_harmShores cX0_harmShores 2 none ∈ Gw := gwc in_2_3 (i := 39) rfl rfl
theorem w640 : Cond.methodLink RX0 179 yX2_oilBirds ∈ Gw := gwc in_2_4 (i := 0) rfl rfl
theorem w641 : Cond.instanceMethod yX2_oilBirds ∈ Gw := gwc in_2_4 (i := 1) rfl rfl
theorem w642 : Cond.selects RX2 yX2_oilBirds yX2_oilBirds ∈ Gw := gwc in_2_4 (i := 2) rfl rfl
theorem w643 : Cond.code yX2_oilBirds cX2_oilBirds 3 none ∈ Gw := gwc in_2_4 (i := 3) rfl rfl
theorem w644 : Cond.methodLink RX2 62 Lib.Math.min.name ∈ Gw := gwc in_2_4 (i := 4) rfl rfl
theorem w645 : Cond.methodLink RX0 182 yX2_isTooDirty ∈ Gw := gwc in_2_4 (i := 5) rfl rfl
theorem w646 : Cond.instanceMethod yX2_isTooDirty ∈ Gw := gwc in_2_4 (i := 6) rfl rfl
theorem w647 : Cond.selects RX2 yX2_isTooDirty yX2_isTooDirty ∈ Gw := gwc in_2_4 (i := 7) rfl rfl
theorem w648 : Cond.code yX2_isTooDirty cX2_isTooDirty 2 (some .boolean) ∈ Gw := gwc in_2_4 (i := 8) rfl rfl
theorem w649 : Cond.methodLink RL 151 yL_at ∈ Gw := gwc in_2_4 (i := 9) rfl rfl
theorem w650 : Cond.static yL_at ∈ Gw := gwc in_2_4 (i := 10) rfl rfl
theorem w652 : Cond.methodLink RL 42 yX9_at ∈ Gw := gwc in_2_4 (i := 12) rfl rfl
theorem w653 : Cond.instanceMethod yX9_at ∈ Gw := gwc in_2_4 (i := 13) rfl rfl
theorem w654 : Cond.selects RX9 yX9_at yX9_at ∈ Gw := gwc in_2_4 (i := 14) rfl rfl
theorem w655 : Cond.code yX9_at cX9_at 4 (some .int) ∈ Gw := gwc in_2_4 (i := 15) rfl rfl
theorem w656 : Cond.methodLink RX9 161 yX2_isClean ∈ Gw := gwc in_2_4 (i := 16) rfl rfl
theorem w657 : Cond.instanceMethod yX2_isClean ∈ Gw := gwc in_2_4 (i := 17) rfl rfl
theorem w658 : Cond.selects RX2 yX2_isClean yX2_isClean ∈ Gw := gwc in_2_4 (i := 18) rfl rfl
theorem w659 : Cond.code yX2_isClean cX2_isClean 2 (some .boolean) ∈ Gw := gwc in_2_4 (i := 19) rfl rfl
theorem w660 : Cond.methodLink RX2 56 yJ6_bitCount_0f7a4 ∈ Gw := gwc in_2_4 (i := 20) rfl rfl
theorem w661 : Cond.static yJ6_bitCount_0f7a4 ∈ Gw := gwc in_2_4 (i := 21) rfl rfl
theorem w662 : Cond.code yJ6_bitCount_0f7a4 cJ6_bitCount_0f7a4 1 (some .int) ∈ Gw := gwc in_2_4 (i := 22) rfl rfl
theorem w663 : Cond.constant RJ6 265 1431655765 ∈ Gw := gwc in_2_4 (i := 23) rfl rfl
theorem w664 : Cond.constant RJ6 266 858993459 ∈ Gw := gwc in_2_4 (i := 24) rfl rfl
theorem w665 : Cond.constant RJ6 267 252645135 ∈ Gw := gwc in_2_4 (i := 25) rfl rfl
theorem w666 : Cond.methodLink RL 154 yL_boom ∈ Gw := gwc in_2_4 (i := 26) rfl rfl
theorem w667 : Cond.static yL_boom ∈ Gw := gwc in_2_4 (i := 27) rfl rfl
theorem w669 : Cond.methodLink RL 45 yX9_boom ∈ Gw := gwc in_2_4 (i := 29) rfl rfl
theorem w670 : Cond.instanceMethod yX9_boom ∈ Gw := gwc in_2_4 (i := 30) rfl rfl
theorem w671 : Cond.selects RX9 yX9_boom yX9_boom ∈ Gw := gwc in_2_4 (i := 31) rfl rfl
theorem w672 : Cond.code yX9_boom cX9_boom 5 (some .int) ∈ Gw := gwc in_2_4 (i := 32) rfl rfl
theorem w673 : Cond.methodLink RX9 164 yX4_boomOn ∈ Gw := gwc in_2_4 (i := 33) rfl rfl
theorem w675 : Cond.methodLink RX9 169 yX9_needRoomForMeans ∈ Gw := gwc in_2_4 (i := 35) rfl rfl
theorem w677 : Cond.instanceMethod yX9_needRoomForMeans ∈ Gw := gwc in_2_4 (i := 37) rfl rfl
theorem w678 : Cond.code yX9_needRoomForMeans cX9_needRoomForMeans 1 none ∈ Gw := gwc in_2_4 (i := 38) rfl rfl
theorem w680 : Cond.methodLink RX9 172 yX4_add ∈ Gw := gwc in_2_5 (i := 0) rfl rfl
theorem w681 : Cond.instanceMethod yX4_add ∈ Gw := gwc in_2_5 (i := 1) rfl rfl
theorem w682 : Cond.selects RX4 yX4_add yX4_add ∈ Gw := gwc in_2_5 (i := 2) rfl rfl
theorem w683 : Cond.code yX4_add cX4_add 5 (some .int) ∈ Gw := gwc in_2_5 (i := 3) rfl rfl
theorem w684 : Cond.methodLink RL 157 yL_skimmer ∈ Gw := gwc in_2_5 (i := 4) rfl rfl
theorem w685 : Cond.static yL_skimmer ∈ Gw := gwc in_2_5 (i := 5) rfl rfl
theorem w687 : Cond.methodLink RL 48 yX9_skimmer ∈ Gw := gwc in_2_5 (i := 7) rfl rfl
theorem w688 : Cond.instanceMethod yX9_skimmer ∈ Gw := gwc in_2_5 (i := 8) rfl rfl
theorem w689 : Cond.selects RX9 yX9_skimmer yX9_skimmer ∈ Gw := gwc in_2_5 (i := 9) rfl rfl
theorem w690 : Cond.code yX9_skimmer cX9_skimmer 5 (some .int) ∈ Gw := gwc in_2_5 (i := 10) rfl rfl
theorem w691 : Cond.methodLink RL 160 yL_team ∈ Gw := gwc in_2_5 (i := 11) rfl rfl
theorem w692 : Cond.static yL_team ∈ Gw := gwc in_2_5 (i := 12) rfl rfl
theorem w694 : Cond.methodLink RL 51 yX9_team ∈ Gw := gwc in_2_5 (i := 14) rfl rfl
theorem w695 : Cond.instanceMethod yX9_team ∈ Gw := gwc in_2_5 (i := 15) rfl rfl
theorem w696 : Cond.selects RX9 yX9_team yX9_team ∈ Gw := gwc in_2_5 (i := 16) rfl rfl
theorem w697 : Cond.code yX9_team cX9_team 4 (some .int) ∈ Gw := gwc in_2_5 (i := 17) rfl rfl
theorem w698 : Cond.methodLink RL 164 yL_move ∈ Gw := gwc in_2_5 (i := 18) rfl rfl
theorem w699 : Cond.static yL_move ∈ Gw := gwc in_2_5 (i := 19) rfl rfl
theorem w701 : Cond.methodLink RL 55 yX9_move ∈ Gw := gwc in_2_5 (i := 21) rfl rfl
theorem w702 : Cond.instanceMethod yX9_move ∈ Gw := gwc in_2_5 (i := 22) rfl rfl
theorem w703 : Cond.selects RX9 yX9_move yX9_move ∈ Gw := gwc in_2_5 (i := 23) rfl rfl
theorem w704 : Cond.code yX9_move cX9_move 4 (some .int) ∈ Gw := gwc in_2_5 (i := 24) rfl rfl
theorem w705 : Cond.methodLink RX9 186 yX9_needSort ∈ Gw := gwc in_2_5 (i := 25) rfl rfl
theorem w707 : Cond.instanceMethod yX9_needSort ∈ Gw := gwc in_2_5 (i := 27) rfl rfl
theorem w708 : Cond.code yX9_needSort cX9_needSort 3 none ∈ Gw := gwc in_2_5 (i := 28) rfl rfl
theorem w710 : Cond.methodLink RL 167 yL_carry ∈ Gw := gwc in_2_5 (i := 30) rfl rfl
theorem w711 : Cond.static yL_carry ∈ Gw := gwc in_2_5 (i := 31) rfl rfl
theorem w713 : Cond.methodLink RL 58 yX9_carry ∈ Gw := gwc in_2_5 (i := 33) rfl rfl
theorem w714 : Cond.instanceMethod yX9_carry ∈ Gw := gwc in_2_5 (i := 34) rfl rfl
theorem w715 : Cond.selects RX9 yX9_carry yX9_carry ∈ Gw := gwc in_2_5 (i := 35) rfl rfl
theorem w716 : Cond.code yX9_carry cX9_carry 3 (some .int) ∈ Gw := gwc in_2_5 (i := 36) rfl rfl
theorem w717 : Cond.methodLink RL 170 yL_teach ∈ Gw := gwc in_2_5 (i := 37) rfl rfl
theorem w718 : Cond.static yL_teach ∈ Gw := gwc in_2_5 (i := 38) rfl rfl
theorem w720 : Cond.methodLink RL 61 yX9_teach ∈ Gw := gwc in_3_0 (i := 0) rfl rfl
theorem w721 : Cond.instanceMethod yX9_teach ∈ Gw := gwc in_3_0 (i := 1) rfl rfl
theorem w722 : Cond.selects RX9 yX9_teach yX9_teach ∈ Gw := gwc in_3_0 (i := 2) rfl rfl
theorem w723 : Cond.code yX9_teach cX9_teach 3 (some .boolean) ∈ Gw := gwc in_3_0 (i := 3) rfl rfl
theorem w724 : Cond.methodLink RL 173 yL_clean ∈ Gw := gwc in_3_0 (i := 4) rfl rfl
theorem w725 : Cond.static yL_clean ∈ Gw := gwc in_3_0 (i := 5) rfl rfl
theorem w727 : Cond.methodLink RL 65 yX9_clean ∈ Gw := gwc in_3_0 (i := 7) rfl rfl
theorem w728 : Cond.instanceMethod yX9_clean ∈ Gw := gwc in_3_0 (i := 8) rfl rfl
theorem w729 : Cond.selects RX9 yX9_clean yX9_clean ∈ Gw := gwc in_3_0 (i := 9) rfl rfl
theorem w730 : Cond.code yX9_clean cX9_clean 4 (some .int) ∈ Gw := gwc in_3_0 (i := 10) rfl rfl
theorem w731 : Cond.methodLink RX9 198 yX9_needShore ∈ Gw := gwc in_3_0 (i := 11) rfl rfl
theorem w733 : Cond.instanceMethod yX9_needShore ∈ Gw := gwc in_3_0 (i := 13) rfl rfl
theorem w734 : Cond.code yX9_needShore cX9_needShore 2 none ∈ Gw := gwc in_3_0 (i := 14) rfl rfl
theorem w736 : Cond.methodLink RX9 201 yX4_canWork ∈ Gw := gwc in_3_0 (i := 16) rfl rfl
theorem w737 : Cond.instanceMethod yX4_canWork ∈ Gw := gwc in_3_0 (i := 17) rfl rfl
theorem w738 : Cond.selects RX4 yX4_canWork yX4_canWork ∈ Gw := gwc in_3_0 (i := 18) rfl rfl
theorem w739 : Cond.code yX4_canWork cX4_canWork 3 (some .boolean) ∈ Gw := gwc in_3_0 (i := 19) rfl rfl
theorem w740 : Cond.methodLink RX4 60 yX4_hasRested ∈ Gw := gwc in_3_0 (i := 20) rfl rfl
theorem w742 : Cond.instanceMethod yX4_hasRested ∈ Gw := gwc in_3_0 (i := 22) rfl rfl
theorem w743 : Cond.code yX4_hasRested cX4_hasRested 3 (some .boolean) ∈ Gw := gwc in_3_0 (i := 23) rfl rfl
theorem w745 : Cond.methodLink RX9 207 yX4_noteWork ∈ Gw := gwc in_3_0 (i := 25) rfl rfl
theorem w746 : Cond.instanceMethod yX4_noteWork ∈ Gw := gwc in_3_0 (i := 26) rfl rfl
theorem w747 : Cond.selects RX4 yX4_noteWork yX4_noteWork ∈ Gw := gwc in_3_0 (i := 27) rfl rfl
theorem w748 : Cond.code yX4_noteWork cX4_noteWork 3 none ∈ Gw := gwc in_3_0 (i := 28) rfl rfl
theorem w749 : Cond.methodLink RX9 213 Lib.Math.min.name ∈ Gw := gwc in_3_0 (i := 29) rfl rfl
theorem w750 : Cond.methodLink RL 176 yL_meanIs ∈ Gw := gwc in_3_0 (i := 30) rfl rfl
theorem w751 : Cond.static yL_meanIs ∈ Gw := gwc in_3_0 (i := 31) rfl rfl
theorem w753 : Cond.methodLink RL 68 yX9_meanIs ∈ Gw := gwc in_3_0 (i := 33) rfl rfl
theorem w754 : Cond.instanceMethod yX9_meanIs ∈ Gw := gwc in_3_0 (i := 34) rfl rfl
theorem w755 : Cond.selects RX9 yX9_meanIs yX9_meanIs ∈ Gw := gwc in_3_0 (i := 35) rfl rfl
theorem w756 : Cond.code yX9_meanIs cX9_meanIs 3 (some .int) ∈ Gw := gwc in_3_0 (i := 36) rfl rfl
theorem w757 : Cond.methodLink RL 179 yL_use ∈ Gw := gwc in_3_0 (i := 37) rfl rfl
theorem w758 : Cond.static yL_use ∈ Gw := gwc in_3_0 (i := 38) rfl rfl
theorem w760 : Cond.methodLink RL 71 yX9_use ∈ Gw := gwc in_3_1 (i := 0) rfl rfl
theorem w761 : Cond.instanceMethod yX9_use ∈ Gw := gwc in_3_1 (i := 1) rfl rfl
theorem w762 : Cond.selects RX9 yX9_use yX9_use ∈ Gw := gwc in_3_1 (i := 2) rfl rfl
theorem w763 : Cond.code yX9_use cX9_use 3 (some .int) ∈ Gw := gwc in_3_1 (i := 3) rfl rfl
theorem w764 : Cond.methodLink RX9 221 yX7_howMany ∈ Gw := gwc in_3_1 (i := 4) rfl rfl
theorem w765 : Cond.instanceMethod yX7_howMany ∈ Gw := gwc in_3_1 (i := 5) rfl rfl
theorem w766 : Cond.selects RX7 yX7_howMany yX7_howMany ∈ Gw := gwc in_3_1 (i := 6) rfl rfl
theorem w767 : Cond.code yX7_howMany cX7_howMany 5 (some .int) ∈ Gw := gwc in_3_1 (i := 7) rfl rfl
theorem w768 : Cond.methodLink RX7 45 yX7_isAgainst ∈ Gw := gwc in_3_1 (i := 8) rfl rfl
theorem w770 : Cond.instanceMethod yX7_isAgainst ∈ Gw := gwc in_3_1 (i := 10) rfl rfl
theorem w771 : Cond.code yX7_isAgainst cX7_isAgainst 6 (some .boolean) ∈ Gw := gwc in_3_1 (i := 11) rfl rfl
theorem w772 : Cond.methodLink RX7 30 yX0_hasLeakedWithin ∈ Gw := gwc in_3_1 (i := 12) rfl rfl
theorem w773 : Cond.instanceMethod yX0_hasLeakedWithin ∈ Gw := gwc in_3_1 (i := 13) rfl rfl
theorem w774 : Cond.selects RX0 yX0_hasLeakedWithin yX0_hasLeakedWithin ∈ Gw := gwc in_3_1 (i := 14) rfl rfl
theorem w775 : Cond.code yX0_hasLeakedWithin cX0_hasLeakedWithin 2 (some .boolean) ∈ Gw := gwc in_3_1 (i := 15) rfl rfl
theorem w776 : Cond.methodLink RX7 41 yX2_isKindBeside ∈ Gw := gwc in_3_1 (i := 16) rfl rfl
theorem w777 : Cond.instanceMethod yX2_isKindBeside ∈ Gw := gwc in_3_1 (i := 17) rfl rfl
theorem w778 : Cond.selects RX2 yX2_isKindBeside yX2_isKindBeside ∈ Gw := gwc in_3_1 (i := 18) rfl rfl
theorem w779 : Cond.code yX2_isKindBeside cX2_isKindBeside 6 (some .boolean) ∈ Gw := gwc in_3_1 (i := 19) rfl rfl
theorem w781 : Cond.methodLink RX9 226 yX0_disperse ∈ Gw := gwc in_3_1 (i := 21) rfl rfl
theorem w782 : Cond.instanceMethod yX0_disperse ∈ Gw := gwc in_3_1 (i := 22) rfl rfl
theorem w783 : Cond.selects RX0 yX0_disperse yX0_disperse ∈ Gw := gwc in_3_1 (i := 23) rfl rfl
theorem w784 : Cond.code yX0_disperse cX0_disperse 3 (some .int) ∈ Gw := gwc in_3_1 (i := 24) rfl rfl
theorem w785 : Cond.methodLink RX9 230 yX0_burn ∈ Gw := gwc in_3_1 (i := 25) rfl rfl
theorem w786 : Cond.instanceMethod yX0_burn ∈ Gw := gwc in_3_1 (i := 26) rfl rfl
theorem w787 : Cond.selects RX0 yX0_burn yX0_burn ∈ Gw := gwc in_3_1 (i := 27) rfl rfl
theorem w788 : Cond.code yX0_burn cX0_burn 3 (some .int) ∈ Gw := gwc in_3_1 (i := 28) rfl rfl
theorem w789 : Cond.methodLink RL 182 yL_why ∈ Gw := gwc in_3_1 (i := 29) rfl rfl
theorem w790 : Cond.static yL_why ∈ Gw := gwc in_3_1 (i := 30) rfl rfl
theorem w792 : Cond.methodLink RL 74 yX9_why ∈ Gw := gwc in_3_1 (i := 32) rfl rfl
theorem w793 : Cond.instanceMethod yX9_why ∈ Gw := gwc in_3_1 (i := 33) rfl rfl
theorem w794 : Cond.selects RX9 yX9_why yX9_why ∈ Gw := gwc in_3_1 (i := 34) rfl rfl
theorem w795 : Cond.code yX9_why cX9_why 4 (some .int) ∈ Gw := gwc in_3_1 (i := 35) rfl rfl
theorem w796 : Cond.methodLink RX9 233 yX7_first ∈ Gw := gwc in_3_1 (i := 36) rfl rfl
theorem w797 : Cond.instanceMethod yX7_first ∈ Gw := gwc in_3_1 (i := 37) rfl rfl
theorem w798 : Cond.selects RX7 yX7_first yX7_first ∈ Gw := gwc in_3_1 (i := 38) rfl rfl
theorem w799 : Cond.code yX7_first cX7_first 4 (some .int) ∈ Gw := gwc in_3_1 (i := 39) rfl rfl
theorem w800 : Cond.methodLink RX9 236 yX7_last ∈ Gw := gwc in_3_2 (i := 0) rfl rfl
theorem w801 : Cond.instanceMethod yX7_last ∈ Gw := gwc in_3_2 (i := 1) rfl rfl
theorem w802 : Cond.selects RX7 yX7_last yX7_last ∈ Gw := gwc in_3_2 (i := 2) rfl rfl
theorem w803 : Cond.code yX7_last cX7_last 4 (some .int) ∈ Gw := gwc in_3_2 (i := 3) rfl rfl
theorem w804 : Cond.methodLink RL 185 yL_birds ∈ Gw := gwc in_3_2 (i := 4) rfl rfl
theorem w805 : Cond.static yL_birds ∈ Gw := gwc in_3_2 (i := 5) rfl rfl
theorem w807 : Cond.methodLink RL 77 yX9_birds ∈ Gw := gwc in_3_2 (i := 7) rfl rfl
theorem w808 : Cond.instanceMethod yX9_birds ∈ Gw := gwc in_3_2 (i := 8) rfl rfl
theorem w809 : Cond.selects RX9 yX9_birds yX9_birds ∈ Gw := gwc in_3_2 (i := 9) rfl rfl
theorem w810 : Cond.code yX9_birds cX9_birds 3 (some .int) ∈ Gw := gwc in_3_2 (i := 10) rfl rfl
theorem w812 : Cond.methodLink RL 188 yL_wash ∈ Gw := gwc in_3_2 (i := 12) rfl rfl
theorem w813 : Cond.static yL_wash ∈ Gw := gwc in_3_2 (i := 13) rfl rfl
theorem w815 : Cond.methodLink RL 80 yX9_wash ∈ Gw := gwc in_3_2 (i := 15) rfl rfl
theorem w816 : Cond.instanceMethod yX9_wash ∈ Gw := gwc in_3_2 (i := 16) rfl rfl
theorem w817 : Cond.selects RX9 yX9_wash yX9_wash ∈ Gw := gwc in_3_2 (i := 17) rfl rfl
theorem w818 : Cond.code yX9_wash cX9_wash 4 (some .int) ∈ Gw := gwc in_3_2 (i := 18) rfl rfl
theorem w819 : Cond.methodLink RL 191 yL_sign ∈ Gw := gwc in_3_2 (i := 19) rfl rfl
theorem w820 : Cond.static yL_sign ∈ Gw := gwc in_3_2 (i := 20) rfl rfl
theorem w822 : Cond.methodLink RL 83 yX9_sign ∈ Gw := gwc in_3_2 (i := 22) rfl rfl
theorem w823 : Cond.instanceMethod yX9_sign ∈ Gw := gwc in_3_2 (i := 23) rfl rfl
theorem w824 : Cond.selects RX9 yX9_sign yX9_sign ∈ Gw := gwc in_3_2 (i := 24) rfl rfl
theorem w825 : Cond.code yX9_sign cX9_sign 4 (some .boolean) ∈ Gw := gwc in_3_2 (i := 25) rfl rfl
theorem w826 : Cond.methodLink RX9 241 yX2_isTooDirty ∈ Gw := gwc in_3_2 (i := 26) rfl rfl
theorem w829 : Cond.methodLink RL 194 yL_site ∈ Gw := gwc in_3_2 (i := 29) rfl rfl
theorem w830 : Cond.static yL_site ∈ Gw := gwc in_3_2 (i := 30) rfl rfl
theorem w832 : Cond.methodLink RL 87 yX9_site ∈ Gw := gwc in_3_2 (i := 32) rfl rfl
theorem w833 : Cond.instanceMethod yX9_site ∈ Gw := gwc in_3_2 (i := 33) rfl rfl
theorem w834 : Cond.selects RX9 yX9_site yX9_site ∈ Gw := gwc in_3_2 (i := 34) rfl rfl
theorem w835 : Cond.code yX9_site cX9_site 3 (some .int) ∈ Gw := gwc in_3_2 (i := 35) rfl rfl
theorem w837 : Cond.methodLink RX9 253 yX3_addSite ∈ Gw := gwc in_3_2 (i := 37) rfl rfl
theorem w838 : Cond.instanceMethod yX3_addSite ∈ Gw := gwc in_3_2 (i := 38) rfl rfl
theorem w839 : Cond.selects RX3 yX3_addSite yX3_addSite ∈ Gw := gwc in_3_2 (i := 39) rfl rfl
theorem w840 : Cond.code yX3_addSite cX3_addSite 4 (some .int) ∈ Gw := gwc in_3_3 (i := 0) rfl rfl
theorem w841 : Cond.methodLink RL 197 yL_deliver ∈ Gw := gwc in_3_3 (i := 1) rfl rfl
theorem w842 : Cond.static yL_deliver ∈ Gw := gwc in_3_3 (i := 2) rfl rfl
theorem w844 : Cond.methodLink RL 90 yX9_deliver ∈ Gw := gwc in_3_3 (i := 4) rfl rfl
theorem w845 : Cond.instanceMethod yX9_deliver ∈ Gw := gwc in_3_3 (i := 5) rfl rfl
theorem w846 : Cond.selects RX9 yX9_deliver yX9_deliver ∈ Gw := gwc in_3_3 (i := 6) rfl rfl
theorem w847 : Cond.code yX9_deliver cX9_deliver 4 (some .int) ∈ Gw := gwc in_3_3 (i := 7) rfl rfl
theorem w848 : Cond.methodLink RX9 256 yX3_roomFor ∈ Gw := gwc in_3_3 (i := 8) rfl rfl
theorem w849 : Cond.instanceMethod yX3_roomFor ∈ Gw := gwc in_3_3 (i := 9) rfl rfl
theorem w850 : Cond.selects RX3 yX3_roomFor yX3_roomFor ∈ Gw := gwc in_3_3 (i := 10) rfl rfl
theorem w851 : Cond.code yX3_roomFor cX3_roomFor 3 (some .int) ∈ Gw := gwc in_3_3 (i := 11) rfl rfl
theorem w853 : Cond.methodLink RX9 261 yX3_take ∈ Gw := gwc in_3_3 (i := 13) rfl rfl
theorem w854 : Cond.instanceMethod yX3_take ∈ Gw := gwc in_3_3 (i := 14) rfl rfl
theorem w855 : Cond.selects RX3 yX3_take yX3_take ∈ Gw := gwc in_3_3 (i := 15) rfl rfl
theorem w856 : Cond.code yX3_take cX3_take 4 none ∈ Gw := gwc in_3_3 (i := 16) rfl rfl
theorem w857 : Cond.methodLink RL 200 yL_waste ∈ Gw := gwc in_3_3 (i := 17) rfl rfl
theorem w858 : Cond.static yL_waste ∈ Gw := gwc in_3_3 (i := 18) rfl rfl
theorem w860 : Cond.methodLink RL 93 yX9_waste ∈ Gw := gwc in_3_3 (i := 20) rfl rfl
theorem w861 : Cond.instanceMethod yX9_waste ∈ Gw := gwc in_3_3 (i := 21) rfl rfl
theorem w862 : Cond.selects RX9 yX9_waste yX9_waste ∈ Gw := gwc in_3_3 (i := 22) rfl rfl
theorem w863 : Cond.code yX9_waste cX9_waste 2 (some .int) ∈ Gw := gwc in_3_3 (i := 23) rfl rfl
theorem w864 : Cond.methodLink RL 203 yL_claim ∈ Gw := gwc in_3_3 (i := 24) rfl rfl
theorem w865 : Cond.static yL_claim ∈ Gw := gwc in_3_3 (i := 25) rfl rfl
theorem w867 : Cond.methodLink RL 96 yX9_claim ∈ Gw := gwc in_3_3 (i := 27) rfl rfl
theorem w868 : Cond.instanceMethod yX9_claim ∈ Gw := gwc in_3_3 (i := 28) rfl rfl
theorem w869 : Cond.selects RX9 yX9_claim yX9_claim ∈ Gw := gwc in_3_3 (i := 29) rfl rfl
theorem w870 : Cond.code yX9_claim cX9_claim 2 (some .int) ∈ Gw := gwc in_3_3 (i := 30) rfl rfl
theorem w871 : Cond.constant RX9 264 1000000 ∈ Gw := gwc in_3_3 (i := 31) rfl rfl
theorem w873 : Cond.methodLink RX9 268 yX6_add ∈ Gw := gwc in_3_3 (i := 33) rfl rfl
theorem w874 : Cond.instanceMethod yX6_add ∈ Gw := gwc in_3_3 (i := 34) rfl rfl
theorem w875 : Cond.selects RX6 yX6_add yX6_add ∈ Gw := gwc in_3_3 (i := 35) rfl rfl
theorem w876 : Cond.code yX6_add cX6_add 3 (some .int) ∈ Gw := gwc in_3_3 (i := 36) rfl rfl
theorem w877 : Cond.methodLink RL 206 yL_layers ∈ Gw := gwc in_3_3 (i := 37) rfl rfl
theorem w878 : Cond.static yL_layers ∈ Gw := gwc in_3_3 (i := 38) rfl rfl
theorem w880 : Cond.methodLink RL 99 yX9_layers ∈ Gw := gwc in_3_4 (i := 0) rfl rfl
theorem w881 : Cond.instanceMethod yX9_layers ∈ Gw := gwc in_3_4 (i := 1) rfl rfl
theorem w882 : Cond.selects RX9 yX9_layers yX9_layers ∈ Gw := gwc in_3_4 (i := 2) rfl rfl
theorem w883 : Cond.code yX9_layers cX9_layers 4 (some .int) ∈ Gw := gwc in_3_4 (i := 3) rfl rfl
theorem w884 : Cond.constant RX9 270 10000000 ∈ Gw := gwc in_3_4 (i := 4) rfl rfl
theorem w885 : Cond.methodLink RL 209 yL_due ∈ Gw := gwc in_3_4 (i := 5) rfl rfl
theorem w886 : Cond.static yL_due ∈ Gw := gwc in_3_4 (i := 6) rfl rfl
theorem w888 : Cond.methodLink RL 102 yX9_due ∈ Gw := gwc in_3_4 (i := 8) rfl rfl
theorem w889 : Cond.instanceMethod yX9_due ∈ Gw := gwc in_3_4 (i := 9) rfl rfl
theorem w890 : Cond.selects RX9 yX9_due yX9_due ∈ Gw := gwc in_3_4 (i := 10) rfl rfl
theorem w891 : Cond.code yX9_due cX9_due 7 (some .int) ∈ Gw := gwc in_3_4 (i := 11) rfl rfl
theorem w892 : Cond.methodLink RX9 277 yX6_getsOf ∈ Gw := gwc in_3_4 (i := 12) rfl rfl
theorem w893 : Cond.instanceMethod yX6_getsOf ∈ Gw := gwc in_3_4 (i := 13) rfl rfl
theorem w894 : Cond.selects RX6 yX6_getsOf yX6_getsOf ∈ Gw := gwc in_3_4 (i := 14) rfl rfl
theorem w895 : Cond.code yX6_getsOf cX6_getsOf 2 (some .long) ∈ Gw := gwc in_3_4 (i := 15) rfl rfl
theorem w896 : Cond.methodLink RX6 35 yX6_allGet ∈ Gw := gwc in_3_4 (i := 16) rfl rfl
theorem w898 : Cond.instanceMethod yX6_allGet ∈ Gw := gwc in_3_4 (i := 18) rfl rfl
theorem w899 : Cond.code yX6_allGet cX6_allGet 1 (some .long) ∈ Gw := gwc in_3_4 (i := 19) rfl rfl
theorem w900 : Cond.methodLink RX6 29 Lib.MathLoose.min_long.x ∈ Gw := gwc in_3_4 (i := 20) rfl rfl
theorem w901 : Cond.static Lib.MathLoose.min_long.x ∈ Gw := gwc in_3_4 (i := 21) rfl rfl
theorem w902 : Cond.code Lib.MathLoose.min_long.x Lib.MathLoose.min_long.code 4 (some .long) ∈ Gw := gwc in_3_4 (i := 22) rfl rfl
theorem w903 : Cond.methodLink RX9 281 yX6_ownersPartOf ∈ Gw := gwc in_3_4 (i := 23) rfl rfl
theorem w904 : Cond.instanceMethod yX6_ownersPartOf ∈ Gw := gwc in_3_4 (i := 24) rfl rfl
theorem w905 : Cond.selects RX6 yX6_ownersPartOf yX6_ownersPartOf ∈ Gw := gwc in_3_4 (i := 25) rfl rfl
theorem w906 : Cond.code yX6_ownersPartOf cX6_ownersPartOf 5 (some .long) ∈ Gw := gwc in_3_4 (i := 26) rfl rfl
theorem w907 : Cond.methodLink RL 212 yL_ahead ∈ Gw := gwc in_3_4 (i := 27) rfl rfl
theorem w908 : Cond.static yL_ahead ∈ Gw := gwc in_3_4 (i := 28) rfl rfl
theorem w910 : Cond.methodLink RL 105 yX9_ahead ∈ Gw := gwc in_3_4 (i := 30) rfl rfl
theorem w911 : Cond.instanceMethod yX9_ahead ∈ Gw := gwc in_3_4 (i := 31) rfl rfl
theorem w912 : Cond.selects RX9 yX9_ahead yX9_ahead ∈ Gw := gwc in_3_4 (i := 32) rfl rfl
theorem w913 : Cond.code yX9_ahead cX9_ahead 3 (some .int) ∈ Gw := gwc in_3_4 (i := 33) rfl rfl
theorem w914 : Cond.methodLink RX9 285 yX0_becomeLike ∈ Gw := gwc in_3_4 (i := 34) rfl rfl
theorem w915 : Cond.instanceMethod yX0_becomeLike ∈ Gw := gwc in_3_4 (i := 35) rfl rfl
theorem w916 : Cond.selects RX0 yX0_becomeLike yX0_becomeLike ∈ Gw := gwc in_3_4 (i := 36) rfl rfl
theorem w917 : Cond.code yX0_becomeLike cX0_becomeLike 2 none ∈ Gw := gwc in_3_4 (i := 37) rfl rfl
theorem w918 : Cond.methodLink RX0 50 yX2_becomeLike ∈ Gw := gwc in_3_4 (i := 38) rfl rfl
theorem w919 : Cond.instanceMethod yX2_becomeLike ∈ Gw := gwc in_3_4 (i := 39) rfl rfl
theorem w920 : Cond.selects RX2 yX2_becomeLike yX2_becomeLike ∈ Gw := gwc in_3_5 (i := 0) rfl rfl
theorem w921 : Cond.code yX2_becomeLike cX2_becomeLike 2 none ∈ Gw := gwc in_3_5 (i := 1) rfl rfl
theorem w922 : Cond.methodLink RX2 67 arraycopyName ∈ Gw := gwc in_3_5 (i := 2) rfl rfl
theorem w923 : Cond.static arraycopyName ∈ Gw := gwc in_3_5 (i := 3) rfl rfl
theorem w924 : Cond.native arraycopyName ∈ Gw := gwc in_3_5 (i := 4) rfl rfl
theorem w925 : Cond.methodLink RX0 54 yX8_becomeLike ∈ Gw := gwc in_3_5 (i := 5) rfl rfl
theorem w926 : Cond.instanceMethod yX8_becomeLike ∈ Gw := gwc in_3_5 (i := 6) rfl rfl
theorem w927 : Cond.selects RX8 yX8_becomeLike yX8_becomeLike ∈ Gw := gwc in_3_5 (i := 7) rfl rfl
theorem w928 : Cond.code yX8_becomeLike cX8_becomeLike 2 none ∈ Gw := gwc in_3_5 (i := 8) rfl rfl
theorem w929 : Cond.methodLink RX8 31 arraycopyName ∈ Gw := gwc in_3_5 (i := 9) rfl rfl
theorem w930 : Cond.methodLink RX0 57 yX4_becomeLike ∈ Gw := gwc in_3_5 (i := 10) rfl rfl
theorem w931 : Cond.instanceMethod yX4_becomeLike ∈ Gw := gwc in_3_5 (i := 11) rfl rfl
theorem w932 : Cond.selects RX4 yX4_becomeLike yX4_becomeLike ∈ Gw := gwc in_3_5 (i := 12) rfl rfl
theorem w933 : Cond.code yX4_becomeLike cX4_becomeLike 2 none ∈ Gw := gwc in_3_5 (i := 13) rfl rfl
theorem w934 : Cond.methodLink RX4 63 arraycopyName ∈ Gw := gwc in_3_5 (i := 14) rfl rfl
theorem w935 : Cond.methodLink RX9 288 yX2_oilOf ∈ Gw := gwc in_3_5 (i := 15) rfl rfl
theorem w936 : Cond.instanceMethod yX2_oilOf ∈ Gw := gwc in_3_5 (i := 16) rfl rfl
theorem w937 : Cond.selects RX2 yX2_oilOf yX2_oilOf ∈ Gw := gwc in_3_5 (i := 17) rfl rfl
theorem w938 : Cond.code yX2_oilOf cX2_oilOf 2 (some .int) ∈ Gw := gwc in_3_5 (i := 18) rfl rfl
theorem w939 : Cond.methodLink RL 215 yL_nextAnew ∈ Gw := gwc in_3_5 (i := 19) rfl rfl
theorem w940 : Cond.static yL_nextAnew ∈ Gw := gwc in_3_5 (i := 20) rfl rfl
theorem w942 : Cond.methodLink RL 108 yX9_nextAnew ∈ Gw := gwc in_3_5 (i := 22) rfl rfl
theorem w943 : Cond.instanceMethod yX9_nextAnew ∈ Gw := gwc in_3_5 (i := 23) rfl rfl
theorem w944 : Cond.selects RX9 yX9_nextAnew yX9_nextAnew ∈ Gw := gwc in_3_5 (i := 24) rfl rfl
theorem w945 : Cond.code yX9_nextAnew cX9_nextAnew 2 (some .int) ∈ Gw := gwc in_3_5 (i := 25) rfl rfl
theorem w946 : Cond.methodLink RX9 294 yX5_floatingOf ∈ Gw := gwc in_3_5 (i := 26) rfl rfl
theorem w947 : Cond.instanceMethod yX5_floatingOf ∈ Gw := gwc in_3_5 (i := 27) rfl rfl
theorem w948 : Cond.selects RX5 yX5_floatingOf yX5_floatingOf ∈ Gw := gwc in_3_5 (i := 28) rfl rfl
theorem w949 : Cond.code yX5_floatingOf cX5_floatingOf 6 (some .int) ∈ Gw := gwc in_3_5 (i := 29) rfl rfl
theorem w950 : Cond.methodLink RX5 15 yX5_weigh ∈ Gw := gwc in_3_5 (i := 30) rfl rfl
theorem w952 : Cond.instanceMethod yX5_weigh ∈ Gw := gwc in_3_5 (i := 32) rfl rfl
theorem w953 : Cond.code yX5_weigh cX5_weigh 8 none ∈ Gw := gwc in_3_5 (i := 33) rfl rfl
theorem w954 : Cond.methodLink RX5 78 yX5_leaksInto ∈ Gw := gwc in_3_5 (i := 34) rfl rfl
theorem w956 : Cond.instanceMethod yX5_leaksInto ∈ Gw := gwc in_3_5 (i := 36) rfl rfl
theorem w957 : Cond.code yX5_leaksInto cX5_leaksInto 5 (some .int) ∈ Gw := gwc in_3_5 (i := 37) rfl rfl
theorem w958 : Cond.methodLink RX5 71 yX0_tideOf ∈ Gw := gwc in_3_5 (i := 38) rfl rfl
theorem w959 : Cond.methodLink RX5 120 yX8_leakOf ∈ Gw := gwc in_3_5 (i := 39) rfl rfl
theorem w960 : Cond.methodLink RX5 91 yX4_boomOn ∈ Gw := gwc in_4_0 (i := 0) rfl rfl
theorem w961 : Cond.methodLink RX5 102 yX0_roomBehind ∈ Gw := gwc in_4_0 (i := 1) rfl rfl
theorem w962 : Cond.methodLink RX5 105 yX0_blown ∈ Gw := gwc in_4_0 (i := 2) rfl rfl
theorem w963 : Cond.methodLink RX5 32 yX5_waterAgainstWind ∈ Gw := gwc in_4_0 (i := 3) rfl rfl
theorem w965 : Cond.instanceMethod yX5_waterAgainstWind ∈ Gw := gwc in_4_0 (i := 5) rfl rfl
theorem w966 : Cond.code yX5_waterAgainstWind cX5_waterAgainstWind 3 (some .int) ∈ Gw := gwc in_4_0 (i := 6) rfl rfl
theorem w967 : Cond.methodLink RX5 123 yX2_opposite ∈ Gw := gwc in_4_0 (i := 7) rfl rfl
theorem w968 : Cond.methodLink RX5 36 yX2_beside ∈ Gw := gwc in_4_0 (i := 8) rfl rfl
theorem w969 : Cond.methodLink RX5 126 yX2_isWater ∈ Gw := gwc in_4_0 (i := 9) rfl rfl
theorem w970 : Cond.methodLink RX5 42 yX5_givenBackTo ∈ Gw := gwc in_4_0 (i := 10) rfl rfl
theorem w972 : Cond.instanceMethod yX5_givenBackTo ∈ Gw := gwc in_4_0 (i := 12) rfl rfl
theorem w973 : Cond.code yX5_givenBackTo cX5_givenBackTo 3 (some .int) ∈ Gw := gwc in_4_0 (i := 13) rfl rfl
theorem w974 : Cond.methodLink RX5 52 yX5_isHighTide ∈ Gw := gwc in_4_0 (i := 14) rfl rfl
theorem w976 : Cond.instanceMethod yX5_isHighTide ∈ Gw := gwc in_4_0 (i := 16) rfl rfl
theorem w977 : Cond.code yX5_isHighTide cX5_isHighTide 1 (some .boolean) ∈ Gw := gwc in_4_0 (i := 17) rfl rfl
theorem w978 : Cond.methodLink RX5 62 yX2_lowestWaterBeside ∈ Gw := gwc in_4_0 (i := 18) rfl rfl
theorem w979 : Cond.methodLink RX5 49 yX5_landedOn ∈ Gw := gwc in_4_0 (i := 19) rfl rfl
theorem w981 : Cond.instanceMethod yX5_landedOn ∈ Gw := gwc in_4_0 (i := 21) rfl rfl
theorem w982 : Cond.code yX5_landedOn cX5_landedOn 4 (some .int) ∈ Gw := gwc in_4_0 (i := 22) rfl rfl
theorem w983 : Cond.methodLink RX5 65 yX2_backOf ∈ Gw := gwc in_4_0 (i := 23) rfl rfl
theorem w984 : Cond.methodLink RX5 45 yX5_leftBySkimmers ∈ Gw := gwc in_4_0 (i := 24) rfl rfl
theorem w986 : Cond.instanceMethod yX5_leftBySkimmers ∈ Gw := gwc in_4_0 (i := 26) rfl rfl
theorem w987 : Cond.code yX5_leftBySkimmers cX5_leftBySkimmers 8 (some .int) ∈ Gw := gwc in_4_0 (i := 27) rfl rfl
theorem w988 : Cond.methodLink RX5 134 yX4_isSkimmer ∈ Gw := gwc in_4_0 (i := 28) rfl rfl
theorem w989 : Cond.methodLink RX5 138 yX4_freshTaken ∈ Gw := gwc in_4_0 (i := 29) rfl rfl
theorem w990 : Cond.methodLink RX5 141 yX4_thickTaken ∈ Gw := gwc in_4_0 (i := 30) rfl rfl
theorem w991 : Cond.methodLink RX9 297 yX5_strandedOf ∈ Gw := gwc in_4_0 (i := 31) rfl rfl
theorem w992 : Cond.instanceMethod yX5_strandedOf ∈ Gw := gwc in_4_0 (i := 32) rfl rfl
theorem w993 : Cond.selects RX5 yX5_strandedOf yX5_strandedOf ∈ Gw := gwc in_4_0 (i := 33) rfl rfl
theorem w994 : Cond.code yX5_strandedOf cX5_strandedOf 4 (some .int) ∈ Gw := gwc in_4_0 (i := 34) rfl rfl
theorem w995 : Cond.methodLink RL 218 yL_sum ∈ Gw := gwc in_4_0 (i := 35) rfl rfl
theorem w996 : Cond.static yL_sum ∈ Gw := gwc in_4_0 (i := 36) rfl rfl
theorem w998 : Cond.methodLink RL 111 yX9_sum ∈ Gw := gwc in_4_0 (i := 38) rfl rfl
theorem w999 : Cond.instanceMethod yX9_sum ∈ Gw := gwc in_4_0 (i := 39) rfl rfl
theorem w1000 : Cond.selects RX9 yX9_sum yX9_sum ∈ Gw := gwc in_4_1 (i := 0) rfl rfl
theorem w1001 : Cond.code yX9_sum cX9_sum 3 (some .int) ∈ Gw := gwc in_4_1 (i := 1) rfl rfl
theorem w1002 : Cond.methodLink RX9 309 yX8_allLitres ∈ Gw := gwc in_4_1 (i := 2) rfl rfl
theorem w1003 : Cond.instanceMethod yX8_allLitres ∈ Gw := gwc in_4_1 (i := 3) rfl rfl
theorem w1004 : Cond.selects RX8 yX8_allLitres yX8_allLitres ∈ Gw := gwc in_4_1 (i := 4) rfl rfl
theorem w1005 : Cond.code yX8_allLitres cX8_allLitres 3 (some .int) ∈ Gw := gwc in_4_1 (i := 5) rfl rfl
theorem w1006 : Cond.methodLink RX9 313 yX2_allFloating ∈ Gw := gwc in_4_1 (i := 6) rfl rfl
theorem w1007 : Cond.instanceMethod yX2_allFloating ∈ Gw := gwc in_4_1 (i := 7) rfl rfl
theorem w1008 : Cond.selects RX2 yX2_allFloating yX2_allFloating ∈ Gw := gwc in_4_1 (i := 8) rfl rfl
theorem w1009 : Cond.code yX2_allFloating cX2_allFloating 3 (some .int) ∈ Gw := gwc in_4_1 (i := 9) rfl rfl
theorem w1010 : Cond.methodLink RX9 325 yX2_allStranded ∈ Gw := gwc in_4_1 (i := 10) rfl rfl
theorem w1011 : Cond.instanceMethod yX2_allStranded ∈ Gw := gwc in_4_1 (i := 11) rfl rfl
theorem w1012 : Cond.selects RX2 yX2_allStranded yX2_allStranded ∈ Gw := gwc in_4_1 (i := 12) rfl rfl
theorem w1013 : Cond.code yX2_allStranded cX2_allStranded 3 (some .int) ∈ Gw := gwc in_4_1 (i := 13) rfl rfl
theorem w1014 : Cond.methodLink RX9 328 yX4_allInStores ∈ Gw := gwc in_4_1 (i := 14) rfl rfl
theorem w1015 : Cond.instanceMethod yX4_allInStores ∈ Gw := gwc in_4_1 (i := 15) rfl rfl
theorem w1016 : Cond.selects RX4 yX4_allInStores yX4_allInStores ∈ Gw := gwc in_4_1 (i := 16) rfl rfl
theorem w1017 : Cond.code yX4_allInStores cX4_allInStores 3 (some .int) ∈ Gw := gwc in_4_1 (i := 17) rfl rfl
theorem w1018 : Cond.methodLink RX9 337 yX3_allWaste ∈ Gw := gwc in_4_1 (i := 18) rfl rfl
theorem w1019 : Cond.instanceMethod yX3_allWaste ∈ Gw := gwc in_4_1 (i := 19) rfl rfl
theorem w1020 : Cond.selects RX3 yX3_allWaste yX3_allWaste ∈ Gw := gwc in_4_1 (i := 20) rfl rfl
theorem w1021 : Cond.code yX3_allWaste cX3_allWaste 1 (some .int) ∈ Gw := gwc in_4_1 (i := 21) rfl rfl
theorem w1022 : Cond.classLink RL 115 RX10 ∈ Gw := gwc in_4_1 (i := 22) rfl rfl
theorem w1023 : Cond.instantiable RX10 29 ∈ Gw := gwc in_4_1 (i := 23) rfl rfl
theorem w1024 : Cond.methodLink RL 117 yX10_init ∈ Gw := gwc in_4_1 (i := 24) rfl rfl
theorem w1025 : Cond.instanceMethod yX10_init ∈ Gw := gwc in_4_1 (i := 25) rfl rfl
theorem w1026 : Cond.code yX10_init cX10_init 2 none ∈ Gw := gwc in_4_1 (i := 26) rfl rfl
theorem w1027 : Cond.methodLink RX10 1 objectInit ∈ Gw := gwc in_4_1 (i := 27) rfl rfl
theorem w1028 : Cond.fieldLink RX10 7 RX10 "now" "[I" ∈ Gw := gwc in_4_1 (i := 28) rfl rfl
theorem w1029 : Cond.fieldLink RX10 13 RX10 "kept" "[I" ∈ Gw := gwc in_4_1 (i := 29) rfl rfl
theorem w1030 : Cond.fieldLink RX10 16 RX10 "kind" "[I" ∈ Gw := gwc in_4_1 (i := 30) rfl rfl
theorem w1031 : Cond.fieldLink RX10 19 RX10 "depth" "[I" ∈ Gw := gwc in_4_1 (i := 31) rfl rfl
theorem w1032 : Cond.fieldLink RX10 22 RX10 "going" "[I" ∈ Gw := gwc in_4_1 (i := 32) rfl rfl
theorem w1033 : Cond.fieldLink RX10 91 RX10 "way" "I" ∈ Gw := gwc in_4_1 (i := 33) rfl rfl
theorem w1034 : Cond.fieldLink RX10 94 RX10 "strength" "I" ∈ Gw := gwc in_4_1 (i := 34) rfl rfl
theorem w1035 : Cond.fieldLink RX10 70 RX10 "ships" "I" ∈ Gw := gwc in_4_1 (i := 35) rfl rfl
theorem w1036 : Cond.fieldLink RX10 25 RX10 "shipCell" "[I" ∈ Gw := gwc in_4_1 (i := 36) rfl rfl
theorem w1037 : Cond.fieldLink RX10 28 RX10 "rate" "[I" ∈ Gw := gwc in_4_1 (i := 37) rfl rfl
theorem w1038 : Cond.fieldLink RX10 73 RX10 "means" "I" ∈ Gw := gwc in_4_1 (i := 38) rfl rfl
theorem w1039 : Cond.fieldLink RX10 31 RX10 "sort" "[I" ∈ Gw := gwc in_4_1 (i := 39) rfl rfl
theorem w1040 : Cond.fieldLink RX10 34 RX10 "meanCell" "[I" ∈ Gw := gwc in_4_2 (i := 0) rfl rfl
theorem w1041 : Cond.fieldLink RX10 37 RX10 "border" "[I" ∈ Gw := gwc in_4_2 (i := 1) rfl rfl
theorem w1042 : Cond.fieldLink RX10 40 RX10 "force" "[I" ∈ Gw := gwc in_4_2 (i := 2) rfl rfl
theorem w1043 : Cond.fieldLink RX10 43 RX10 "store" "[I" ∈ Gw := gwc in_4_2 (i := 3) rfl rfl
theorem w1044 : Cond.fieldLink RX10 46 RX10 "taught" "[Z" ∈ Gw := gwc in_4_2 (i := 4) rfl rfl
theorem w1045 : Cond.fieldLink RX10 50 RX10 "last" "[I" ∈ Gw := gwc in_4_2 (i := 5) rfl rfl
theorem w1046 : Cond.fieldLink RX10 159 RX10 "deep" "I" ∈ Gw := gwc in_4_2 (i := 6) rfl rfl
theorem w1047 : Cond.fieldLink RX10 162 RX10 "burnt" "I" ∈ Gw := gwc in_4_2 (i := 7) rfl rfl
theorem w1048 : Cond.fieldLink RX10 53 RX10 "waste" "[I" ∈ Gw := gwc in_4_2 (i := 8) rfl rfl
theorem w1049 : Cond.fieldLink RX10 168 RX10 "delivered" "I" ∈ Gw := gwc in_4_2 (i := 9) rfl rfl
theorem w1050 : Cond.fieldLink RX10 165 RX10 "sites" "I" ∈ Gw := gwc in_4_2 (i := 10) rfl rfl
theorem w1051 : Cond.fieldLink RX10 56 RX10 "room" "[I" ∈ Gw := gwc in_4_2 (i := 11) rfl rfl
theorem w1052 : Cond.fieldLink RX10 172 RX10 "claims" "I" ∈ Gw := gwc in_4_2 (i := 12) rfl rfl
theorem w1053 : Cond.fieldLink RX10 59 RX10 "cents" "[I" ∈ Gw := gwc in_4_2 (i := 13) rfl rfl
theorem w1054 : Cond.fieldLink RX10 176 RX10 "owner" "I" ∈ Gw := gwc in_4_2 (i := 14) rfl rfl
theorem w1055 : Cond.fieldLink RX10 179 RX10 "fund" "I" ∈ Gw := gwc in_4_2 (i := 15) rfl rfl
theorem w1056 : Cond.fieldLink RX10 62 RX10 "thrown" "I" ∈ Gw := gwc in_4_2 (i := 16) rfl rfl
theorem w1116 : Cond.methodLink RL 124 yX10_thrown ∈ Gw := gwc in_4_3 (i := 36) rfl rfl
theorem w1117 : Cond.instanceMethod yX10_thrown ∈ Gw := gwc in_4_3 (i := 37) rfl rfl
theorem w1118 : Cond.selects RX10 yX10_thrown yX10_thrown ∈ Gw := gwc in_4_3 (i := 38) rfl rfl
theorem w1119 : Cond.code yX10_thrown cX10_thrown 1 (some .int) ∈ Gw := gwc in_4_3 (i := 39) rfl rfl
theorem w1120 : Cond.methodLink RL 123 yX10_shore ∈ Gw := gwc in_4_4 (i := 0) rfl rfl
theorem w1121 : Cond.instanceMethod yX10_shore ∈ Gw := gwc in_4_4 (i := 1) rfl rfl
theorem w1122 : Cond.selects RX10 yX10_shore yX10_shore ∈ Gw := gwc in_4_4 (i := 2) rfl rfl
theorem w1123 : Cond.code yX10_shore cX10_shore 5 (some .int) ∈ Gw := gwc in_4_4 (i := 3) rfl rfl
theorem w1124 : Cond.methodLink RX10 76 yX10_isCell ∈ Gw := gwc in_4_4 (i := 4) rfl rfl
theorem w1125 : Cond.static yX10_isCell ∈ Gw := gwc in_4_4 (i := 5) rfl rfl
theorem w1126 : Cond.code yX10_isCell cX10_isCell 1 (some .boolean) ∈ Gw := gwc in_4_4 (i := 6) rfl rfl
theorem w1127 : Cond.methodLink RX10 66 yX10_in ∈ Gw := gwc in_4_4 (i := 7) rfl rfl
theorem w1128 : Cond.static yX10_in ∈ Gw := gwc in_4_4 (i := 8) rfl rfl
theorem w1129 : Cond.code yX10_in cX10_in 3 (some .boolean) ∈ Gw := gwc in_4_4 (i := 9) rfl rfl
theorem w1130 : Cond.methodLink RX10 131 yX10_fails ∈ Gw := gwc in_4_4 (i := 10) rfl rfl
theorem w1132 : Cond.instanceMethod yX10_fails ∈ Gw := gwc in_4_4 (i := 12) rfl rfl
theorem w1133 : Cond.code yX10_fails cX10_fails 3 (some .boolean) ∈ Gw := gwc in_4_4 (i := 13) rfl rfl
theorem w1134 : Cond.methodLink RL 130 yX10_depth ∈ Gw := gwc in_4_4 (i := 14) rfl rfl
theorem w1135 : Cond.instanceMethod yX10_depth ∈ Gw := gwc in_4_4 (i := 15) rfl rfl
theorem w1136 : Cond.selects RX10 yX10_depth yX10_depth ∈ Gw := gwc in_4_4 (i := 16) rfl rfl
theorem w1137 : Cond.code yX10_depth cX10_depth 4 (some .int) ∈ Gw := gwc in_4_4 (i := 17) rfl rfl
theorem w1138 : Cond.methodLink RL 133 yX10_wind ∈ Gw := gwc in_4_4 (i := 18) rfl rfl
theorem w1139 : Cond.instanceMethod yX10_wind ∈ Gw := gwc in_4_4 (i := 19) rfl rfl
theorem w1140 : Cond.selects RX10 yX10_wind yX10_wind ∈ Gw := gwc in_4_4 (i := 20) rfl rfl
theorem w1141 : Cond.code yX10_wind cX10_wind 4 (some .int) ∈ Gw := gwc in_4_4 (i := 21) rfl rfl
theorem w1142 : Cond.methodLink RL 136 yX10_ship ∈ Gw := gwc in_4_4 (i := 22) rfl rfl
theorem w1143 : Cond.instanceMethod yX10_ship ∈ Gw := gwc in_4_4 (i := 23) rfl rfl
theorem w1144 : Cond.selects RX10 yX10_ship yX10_ship ∈ Gw := gwc in_4_4 (i := 24) rfl rfl
theorem w1145 : Cond.code yX10_ship cX10_ship 3 (some .int) ∈ Gw := gwc in_4_4 (i := 25) rfl rfl
theorem w1146 : Cond.constant RX10 135 100000 ∈ Gw := gwc in_4_4 (i := 26) rfl rfl
theorem w1147 : Cond.methodLink RL 139 yX10_hole ∈ Gw := gwc in_4_4 (i := 27) rfl rfl
theorem w1148 : Cond.instanceMethod yX10_hole ∈ Gw := gwc in_4_4 (i := 28) rfl rfl
theorem w1149 : Cond.selects RX10 yX10_hole yX10_hole ∈ Gw := gwc in_4_4 (i := 29) rfl rfl
theorem w1150 : Cond.code yX10_hole cX10_hole 4 (some .int) ∈ Gw := gwc in_4_4 (i := 30) rfl rfl
theorem w1151 : Cond.methodLink RX10 136 yX10_isShip ∈ Gw := gwc in_4_4 (i := 31) rfl rfl
theorem w1153 : Cond.instanceMethod yX10_isShip ∈ Gw := gwc in_4_4 (i := 33) rfl rfl
theorem w1154 : Cond.code yX10_isShip cX10_isShip 2 (some .boolean) ∈ Gw := gwc in_4_4 (i := 34) rfl rfl
theorem w1155 : Cond.methodLink RL 143 yX10_pump ∈ Gw := gwc in_4_4 (i := 35) rfl rfl
theorem w1156 : Cond.instanceMethod yX10_pump ∈ Gw := gwc in_4_4 (i := 36) rfl rfl
theorem w1157 : Cond.selects RX10 yX10_pump yX10_pump ∈ Gw := gwc in_4_4 (i := 37) rfl rfl
theorem w1158 : Cond.code yX10_pump cX10_pump 4 (some .int) ∈ Gw := gwc in_4_4 (i := 38) rfl rfl
theorem w1159 : Cond.methodLink RL 147 yX10_shipHas ∈ Gw := gwc in_4_4 (i := 39) rfl rfl
theorem w1160 : Cond.instanceMethod yX10_shipHas ∈ Gw := gwc in_4_5 (i := 0) rfl rfl
theorem w1161 : Cond.selects RX10 yX10_shipHas yX10_shipHas ∈ Gw := gwc in_4_5 (i := 1) rfl rfl
theorem w1162 : Cond.code yX10_shipHas cX10_shipHas 2 (some .int) ∈ Gw := gwc in_4_5 (i := 2) rfl rfl
theorem w1163 : Cond.methodLink RL 150 yX10_pass ∈ Gw := gwc in_4_5 (i := 3) rfl rfl
theorem w1164 : Cond.instanceMethod yX10_pass ∈ Gw := gwc in_4_5 (i := 4) rfl rfl
theorem w1165 : Cond.selects RX10 yX10_pass yX10_pass ∈ Gw := gwc in_4_5 (i := 5) rfl rfl
theorem w1166 : Cond.code yX10_pass cX10_pass 3 (some .int) ∈ Gw := gwc in_4_5 (i := 6) rfl rfl
theorem w1167 : Cond.methodLink RX10 139 yX10_hour ∈ Gw := gwc in_4_5 (i := 7) rfl rfl
theorem w1169 : Cond.instanceMethod yX10_hour ∈ Gw := gwc in_4_5 (i := 9) rfl rfl
theorem w1170 : Cond.code yX10_hour cX10_hour 4 none ∈ Gw := gwc in_4_5 (i := 10) rfl rfl
theorem w1171 : Cond.methodLink RX10 106 yX10_leak ∈ Gw := gwc in_4_5 (i := 11) rfl rfl
theorem w1173 : Cond.instanceMethod yX10_leak ∈ Gw := gwc in_4_5 (i := 13) rfl rfl
theorem w1174 : Cond.code yX10_leak cX10_leak 4 (some .int) ∈ Gw := gwc in_4_5 (i := 14) rfl rfl
theorem w1175 : Cond.methodLink RX10 84 yX10_tide ∈ Gw := gwc in_4_5 (i := 15) rfl rfl
theorem w1176 : Cond.static yX10_tide ∈ Gw := gwc in_4_5 (i := 16) rfl rfl
theorem w1177 : Cond.code yX10_tide cX10_tide 2 (some .int) ∈ Gw := gwc in_4_5 (i := 17) rfl rfl
theorem w1178 : Cond.methodLink RX10 88 yX10_least ∈ Gw := gwc in_4_5 (i := 18) rfl rfl
theorem w1179 : Cond.static yX10_least ∈ Gw := gwc in_4_5 (i := 19) rfl rfl
theorem w1180 : Cond.code yX10_least cX10_least 2 (some .int) ∈ Gw := gwc in_4_5 (i := 20) rfl rfl
theorem w1181 : Cond.methodLink RX10 109 yX10_weather ∈ Gw := gwc in_4_5 (i := 21) rfl rfl
theorem w1183 : Cond.instanceMethod yX10_weather ∈ Gw := gwc in_4_5 (i := 23) rfl rfl
theorem w1184 : Cond.code yX10_weather cX10_weather 5 none ∈ Gw := gwc in_4_5 (i := 24) rfl rfl
theorem w1185 : Cond.methodLink RX10 113 yX10_look ∈ Gw := gwc in_4_5 (i := 25) rfl rfl
theorem w1187 : Cond.instanceMethod yX10_look ∈ Gw := gwc in_4_5 (i := 27) rfl rfl
theorem w1188 : Cond.code yX10_look cX10_look 7 none ∈ Gw := gwc in_4_5 (i := 28) rfl rfl
theorem w1189 : Cond.methodLink RX10 80 yX10_beside ∈ Gw := gwc in_4_5 (i := 29) rfl rfl
theorem w1190 : Cond.static yX10_beside ∈ Gw := gwc in_4_5 (i := 30) rfl rfl
theorem w1191 : Cond.code yX10_beside cX10_beside 3 (some .int) ∈ Gw := gwc in_4_5 (i := 31) rfl rfl
theorem w1192 : Cond.methodLink RX10 97 yX10_holds ∈ Gw := gwc in_4_5 (i := 32) rfl rfl
theorem w1194 : Cond.instanceMethod yX10_holds ∈ Gw := gwc in_4_5 (i := 34) rfl rfl
theorem w1195 : Cond.code yX10_holds cX10_holds 2 (some .int) ∈ Gw := gwc in_4_5 (i := 35) rfl rfl
theorem w1196 : Cond.methodLink RX10 100 yX10_borderOf ∈ Gw := gwc in_4_5 (i := 36) rfl rfl
theorem w1197 : Cond.static yX10_borderOf ∈ Gw := gwc in_4_5 (i := 37) rfl rfl
theorem w1198 : Cond.code yX10_borderOf cX10_borderOf 3 (some .int) ∈ Gw := gwc in_4_5 (i := 38) rfl rfl
theorem w1199 : Cond.methodLink RX10 103 yX10_boomOn ∈ Gw := gwc in_4_5 (i := 39) rfl rfl
theorem w1201 : Cond.instanceMethod yX10_boomOn ∈ Gw := gwc in_5_0 (i := 1) rfl rfl
theorem w1202 : Cond.code yX10_boomOn cX10_boomOn 3 (some .int) ∈ Gw := gwc in_5_0 (i := 2) rfl rfl
theorem w1203 : Cond.methodLink RX10 116 yX10_drift ∈ Gw := gwc in_5_0 (i := 3) rfl rfl
theorem w1205 : Cond.instanceMethod yX10_drift ∈ Gw := gwc in_5_0 (i := 5) rfl rfl
theorem w1206 : Cond.code yX10_drift cX10_drift 5 none ∈ Gw := gwc in_5_0 (i := 6) rfl rfl
theorem w1207 : Cond.methodLink RX10 119 yX10_lowestWater ∈ Gw := gwc in_5_0 (i := 7) rfl rfl
theorem w1209 : Cond.instanceMethod yX10_lowestWater ∈ Gw := gwc in_5_0 (i := 9) rfl rfl
theorem w1210 : Cond.code yX10_lowestWater cX10_lowestWater 5 (some .int) ∈ Gw := gwc in_5_0 (i := 10) rfl rfl
theorem w1211 : Cond.methodLink RX10 122 yX10_back ∈ Gw := gwc in_5_0 (i := 11) rfl rfl
theorem w1213 : Cond.instanceMethod yX10_back ∈ Gw := gwc in_5_0 (i := 13) rfl rfl
theorem w1214 : Cond.code yX10_back cX10_back 3 (some .int) ∈ Gw := gwc in_5_0 (i := 14) rfl rfl
theorem w1215 : Cond.methodLink RX10 125 yX10_skim ∈ Gw := gwc in_5_0 (i := 15) rfl rfl
theorem w1217 : Cond.instanceMethod yX10_skim ∈ Gw := gwc in_5_0 (i := 17) rfl rfl
theorem w1218 : Cond.code yX10_skim cX10_skim 6 none ∈ Gw := gwc in_5_0 (i := 18) rfl rfl
theorem w1219 : Cond.methodLink RX10 128 yX10_suffer ∈ Gw := gwc in_5_0 (i := 19) rfl rfl
theorem w1221 : Cond.instanceMethod yX10_suffer ∈ Gw := gwc in_5_0 (i := 21) rfl rfl
theorem w1222 : Cond.code yX10_suffer cX10_suffer 4 none ∈ Gw := gwc in_5_0 (i := 22) rfl rfl
theorem w1223 : Cond.methodLink RL 153 yX10_at ∈ Gw := gwc in_5_0 (i := 23) rfl rfl
theorem w1224 : Cond.instanceMethod yX10_at ∈ Gw := gwc in_5_0 (i := 24) rfl rfl
theorem w1225 : Cond.selects RX10 yX10_at yX10_at ∈ Gw := gwc in_5_0 (i := 25) rfl rfl
theorem w1226 : Cond.code yX10_at cX10_at 3 (some .int) ∈ Gw := gwc in_5_0 (i := 26) rfl rfl
theorem w1227 : Cond.methodLink RX10 142 yX10_signatures ∈ Gw := gwc in_5_0 (i := 27) rfl rfl
theorem w1229 : Cond.instanceMethod yX10_signatures ∈ Gw := gwc in_5_0 (i := 29) rfl rfl
theorem w1230 : Cond.code yX10_signatures cX10_signatures 3 (some .int) ∈ Gw := gwc in_5_0 (i := 30) rfl rfl
theorem w1231 : Cond.methodLink RL 156 yX10_boom ∈ Gw := gwc in_5_0 (i := 31) rfl rfl
theorem w1232 : Cond.instanceMethod yX10_boom ∈ Gw := gwc in_5_0 (i := 32) rfl rfl
theorem w1233 : Cond.selects RX10 yX10_boom yX10_boom ∈ Gw := gwc in_5_0 (i := 33) rfl rfl
theorem w1234 : Cond.code yX10_boom cX10_boom 5 (some .int) ∈ Gw := gwc in_5_0 (i := 34) rfl rfl
theorem w1235 : Cond.methodLink RX10 145 yX10_mean ∈ Gw := gwc in_5_0 (i := 35) rfl rfl
theorem w1237 : Cond.instanceMethod yX10_mean ∈ Gw := gwc in_5_0 (i := 37) rfl rfl
theorem w1238 : Cond.code yX10_mean cX10_mean 5 (some .int) ∈ Gw := gwc in_5_0 (i := 38) rfl rfl
theorem w1239 : Cond.methodLink RL 159 yX10_skimmer ∈ Gw := gwc in_5_0 (i := 39) rfl rfl
theorem w1240 : Cond.instanceMethod yX10_skimmer ∈ Gw := gwc in_5_1 (i := 0) rfl rfl
theorem w1241 : Cond.selects RX10 yX10_skimmer yX10_skimmer ∈ Gw := gwc in_5_1 (i := 1) rfl rfl
theorem w1242 : Cond.code yX10_skimmer cX10_skimmer 4 (some .int) ∈ Gw := gwc in_5_1 (i := 2) rfl rfl
theorem w1243 : Cond.methodLink RL 163 yX10_team ∈ Gw := gwc in_5_1 (i := 3) rfl rfl
theorem w1244 : Cond.instanceMethod yX10_team ∈ Gw := gwc in_5_1 (i := 4) rfl rfl
theorem w1245 : Cond.selects RX10 yX10_team yX10_team ∈ Gw := gwc in_5_1 (i := 5) rfl rfl
theorem w1246 : Cond.code yX10_team cX10_team 3 (some .int) ∈ Gw := gwc in_5_1 (i := 6) rfl rfl
theorem w1247 : Cond.methodLink RL 166 yX10_move ∈ Gw := gwc in_5_1 (i := 7) rfl rfl
theorem w1248 : Cond.instanceMethod yX10_move ∈ Gw := gwc in_5_1 (i := 8) rfl rfl
theorem w1249 : Cond.selects RX10 yX10_move yX10_move ∈ Gw := gwc in_5_1 (i := 9) rfl rfl
theorem w1250 : Cond.code yX10_move cX10_move 4 (some .int) ∈ Gw := gwc in_5_1 (i := 10) rfl rfl
theorem w1251 : Cond.methodLink RX10 149 yX10_isMean ∈ Gw := gwc in_5_1 (i := 11) rfl rfl
theorem w1253 : Cond.instanceMethod yX10_isMean ∈ Gw := gwc in_5_1 (i := 13) rfl rfl
theorem w1254 : Cond.code yX10_isMean cX10_isMean 2 (some .boolean) ∈ Gw := gwc in_5_1 (i := 14) rfl rfl
theorem w1255 : Cond.methodLink RL 169 yX10_carry ∈ Gw := gwc in_5_1 (i := 15) rfl rfl
theorem w1256 : Cond.instanceMethod yX10_carry ∈ Gw := gwc in_5_1 (i := 16) rfl rfl
theorem w1257 : Cond.selects RX10 yX10_carry yX10_carry ∈ Gw := gwc in_5_1 (i := 17) rfl rfl
theorem w1258 : Cond.code yX10_carry cX10_carry 3 (some .int) ∈ Gw := gwc in_5_1 (i := 18) rfl rfl
theorem w1259 : Cond.methodLink RL 172 yX10_teach ∈ Gw := gwc in_5_1 (i := 19) rfl rfl
theorem w1260 : Cond.instanceMethod yX10_teach ∈ Gw := gwc in_5_1 (i := 20) rfl rfl
theorem w1261 : Cond.selects RX10 yX10_teach yX10_teach ∈ Gw := gwc in_5_1 (i := 21) rfl rfl
theorem w1262 : Cond.code yX10_teach cX10_teach 3 (some .boolean) ∈ Gw := gwc in_5_1 (i := 22) rfl rfl
theorem w1263 : Cond.methodLink RL 175 yX10_clean ∈ Gw := gwc in_5_1 (i := 23) rfl rfl
theorem w1264 : Cond.instanceMethod yX10_clean ∈ Gw := gwc in_5_1 (i := 24) rfl rfl
theorem w1265 : Cond.selects RX10 yX10_clean yX10_clean ∈ Gw := gwc in_5_1 (i := 25) rfl rfl
theorem w1266 : Cond.code yX10_clean cX10_clean 7 (some .int) ∈ Gw := gwc in_5_1 (i := 26) rfl rfl
theorem w1267 : Cond.methodLink RL 178 yX10_meanIs ∈ Gw := gwc in_5_1 (i := 27) rfl rfl
theorem w1268 : Cond.instanceMethod yX10_meanIs ∈ Gw := gwc in_5_1 (i := 28) rfl rfl
theorem w1269 : Cond.selects RX10 yX10_meanIs yX10_meanIs ∈ Gw := gwc in_5_1 (i := 29) rfl rfl
theorem w1270 : Cond.code yX10_meanIs cX10_meanIs 3 (some .int) ∈ Gw := gwc in_5_1 (i := 30) rfl rfl
theorem w1271 : Cond.methodLink RL 181 yX10_use ∈ Gw := gwc in_5_1 (i := 31) rfl rfl
theorem w1272 : Cond.instanceMethod yX10_use ∈ Gw := gwc in_5_1 (i := 32) rfl rfl
theorem w1273 : Cond.selects RX10 yX10_use yX10_use ∈ Gw := gwc in_5_1 (i := 33) rfl rfl
theorem w1274 : Cond.code yX10_use cX10_use 4 (some .int) ∈ Gw := gwc in_5_1 (i := 34) rfl rfl
theorem w1275 : Cond.methodLink RX10 155 yX10_rules ∈ Gw := gwc in_5_1 (i := 35) rfl rfl
theorem w1277 : Cond.instanceMethod yX10_rules ∈ Gw := gwc in_5_1 (i := 37) rfl rfl
theorem w1278 : Cond.code yX10_rules cX10_rules 8 (some .int) ∈ Gw := gwc in_5_1 (i := 38) rfl rfl
theorem w1279 : Cond.methodLink RX10 152 yX10_isAgainst ∈ Gw := gwc in_5_1 (i := 39) rfl rfl
theorem w1281 : Cond.instanceMethod yX10_isAgainst ∈ Gw := gwc in_5_2 (i := 1) rfl rfl
theorem w1282 : Cond.code yX10_isAgainst cX10_isAgainst 8 (some .boolean) ∈ Gw := gwc in_5_2 (i := 2) rfl rfl
theorem w1283 : Cond.methodLink RL 184 yX10_why ∈ Gw := gwc in_5_2 (i := 3) rfl rfl
theorem w1284 : Cond.instanceMethod yX10_why ∈ Gw := gwc in_5_2 (i := 4) rfl rfl
theorem w1285 : Cond.selects RX10 yX10_why yX10_why ∈ Gw := gwc in_5_2 (i := 5) rfl rfl
theorem w1286 : Cond.code yX10_why cX10_why 4 (some .int) ∈ Gw := gwc in_5_2 (i := 6) rfl rfl
theorem w1287 : Cond.methodLink RL 187 yX10_birds ∈ Gw := gwc in_5_2 (i := 7) rfl rfl
theorem w1288 : Cond.instanceMethod yX10_birds ∈ Gw := gwc in_5_2 (i := 8) rfl rfl
theorem w1289 : Cond.selects RX10 yX10_birds yX10_birds ∈ Gw := gwc in_5_2 (i := 9) rfl rfl
theorem w1290 : Cond.code yX10_birds cX10_birds 3 (some .int) ∈ Gw := gwc in_5_2 (i := 10) rfl rfl
theorem w1291 : Cond.methodLink RL 190 yX10_wash ∈ Gw := gwc in_5_2 (i := 11) rfl rfl
theorem w1292 : Cond.instanceMethod yX10_wash ∈ Gw := gwc in_5_2 (i := 12) rfl rfl
theorem w1293 : Cond.selects RX10 yX10_wash yX10_wash ∈ Gw := gwc in_5_2 (i := 13) rfl rfl
theorem w1294 : Cond.code yX10_wash cX10_wash 4 (some .int) ∈ Gw := gwc in_5_2 (i := 14) rfl rfl
theorem w1295 : Cond.methodLink RL 193 yX10_sign ∈ Gw := gwc in_5_2 (i := 15) rfl rfl
theorem w1296 : Cond.instanceMethod yX10_sign ∈ Gw := gwc in_5_2 (i := 16) rfl rfl
theorem w1297 : Cond.selects RX10 yX10_sign yX10_sign ∈ Gw := gwc in_5_2 (i := 17) rfl rfl
theorem w1298 : Cond.code yX10_sign cX10_sign 4 (some .boolean) ∈ Gw := gwc in_5_2 (i := 18) rfl rfl
theorem w1299 : Cond.methodLink RL 196 yX10_site ∈ Gw := gwc in_5_2 (i := 19) rfl rfl
theorem w1300 : Cond.instanceMethod yX10_site ∈ Gw := gwc in_5_2 (i := 20) rfl rfl
theorem w1301 : Cond.selects RX10 yX10_site yX10_site ∈ Gw := gwc in_5_2 (i := 21) rfl rfl
theorem w1302 : Cond.code yX10_site cX10_site 3 (some .int) ∈ Gw := gwc in_5_2 (i := 22) rfl rfl
theorem w1303 : Cond.methodLink RL 199 yX10_deliver ∈ Gw := gwc in_5_2 (i := 23) rfl rfl
theorem w1304 : Cond.instanceMethod yX10_deliver ∈ Gw := gwc in_5_2 (i := 24) rfl rfl
theorem w1305 : Cond.selects RX10 yX10_deliver yX10_deliver ∈ Gw := gwc in_5_2 (i := 25) rfl rfl
theorem w1306 : Cond.code yX10_deliver cX10_deliver 4 (some .int) ∈ Gw := gwc in_5_2 (i := 26) rfl rfl
theorem w1307 : Cond.methodLink RL 202 yX10_waste ∈ Gw := gwc in_5_2 (i := 27) rfl rfl
theorem w1308 : Cond.instanceMethod yX10_waste ∈ Gw := gwc in_5_2 (i := 28) rfl rfl
theorem w1309 : Cond.selects RX10 yX10_waste yX10_waste ∈ Gw := gwc in_5_2 (i := 29) rfl rfl
theorem w1310 : Cond.code yX10_waste cX10_waste 2 (some .int) ∈ Gw := gwc in_5_2 (i := 30) rfl rfl
theorem w1311 : Cond.methodLink RL 205 yX10_claim ∈ Gw := gwc in_5_2 (i := 31) rfl rfl
theorem w1312 : Cond.instanceMethod yX10_claim ∈ Gw := gwc in_5_2 (i := 32) rfl rfl
theorem w1313 : Cond.selects RX10 yX10_claim yX10_claim ∈ Gw := gwc in_5_2 (i := 33) rfl rfl
theorem w1314 : Cond.code yX10_claim cX10_claim 2 (some .int) ∈ Gw := gwc in_5_2 (i := 34) rfl rfl
theorem w1315 : Cond.constant RX10 171 1000000 ∈ Gw := gwc in_5_2 (i := 35) rfl rfl
theorem w1316 : Cond.methodLink RL 208 yX10_layers ∈ Gw := gwc in_5_2 (i := 36) rfl rfl
theorem w1317 : Cond.instanceMethod yX10_layers ∈ Gw := gwc in_5_2 (i := 37) rfl rfl
theorem w1318 : Cond.selects RX10 yX10_layers yX10_layers ∈ Gw := gwc in_5_2 (i := 38) rfl rfl
theorem w1319 : Cond.code yX10_layers cX10_layers 4 (some .int) ∈ Gw := gwc in_5_2 (i := 39) rfl rfl
theorem w1320 : Cond.constant RX10 175 10000000 ∈ Gw := gwc in_5_3 (i := 0) rfl rfl
theorem w1321 : Cond.methodLink RL 211 yX10_due ∈ Gw := gwc in_5_3 (i := 1) rfl rfl
theorem w1322 : Cond.instanceMethod yX10_due ∈ Gw := gwc in_5_3 (i := 2) rfl rfl
theorem w1323 : Cond.selects RX10 yX10_due yX10_due ∈ Gw := gwc in_5_3 (i := 3) rfl rfl
theorem w1324 : Cond.code yX10_due cX10_due 7 (some .int) ∈ Gw := gwc in_5_3 (i := 4) rfl rfl
theorem w1325 : Cond.methodLink RL 214 yX10_ahead ∈ Gw := gwc in_5_3 (i := 5) rfl rfl
theorem w1326 : Cond.instanceMethod yX10_ahead ∈ Gw := gwc in_5_3 (i := 6) rfl rfl
theorem w1327 : Cond.selects RX10 yX10_ahead yX10_ahead ∈ Gw := gwc in_5_3 (i := 7) rfl rfl
theorem w1328 : Cond.code yX10_ahead cX10_ahead 5 (some .int) ∈ Gw := gwc in_5_3 (i := 8) rfl rfl
theorem w1329 : Cond.methodLink RL 217 yX10_nextAnew ∈ Gw := gwc in_5_3 (i := 9) rfl rfl
theorem w1330 : Cond.instanceMethod yX10_nextAnew ∈ Gw := gwc in_5_3 (i := 10) rfl rfl
theorem w1331 : Cond.selects RX10 yX10_nextAnew yX10_nextAnew ∈ Gw := gwc in_5_3 (i := 11) rfl rfl
theorem w1332 : Cond.code yX10_nextAnew cX10_nextAnew 10 (some .int) ∈ Gw := gwc in_5_3 (i := 12) rfl rfl
theorem w1333 : Cond.methodLink RX10 189 yX10_strands ∈ Gw := gwc in_5_3 (i := 13) rfl rfl
theorem w1335 : Cond.instanceMethod yX10_strands ∈ Gw := gwc in_5_3 (i := 15) rfl rfl
theorem w1336 : Cond.code yX10_strands cX10_strands 3 (some .int) ∈ Gw := gwc in_5_3 (i := 16) rfl rfl
theorem w1337 : Cond.methodLink RX10 186 yX10_goes ∈ Gw := gwc in_5_3 (i := 17) rfl rfl
theorem w1339 : Cond.instanceMethod yX10_goes ∈ Gw := gwc in_5_3 (i := 19) rfl rfl
theorem w1340 : Cond.code yX10_goes cX10_goes 8 (some .int) ∈ Gw := gwc in_5_3 (i := 20) rfl rfl
theorem w1341 : Cond.methodLink RX10 182 yX10_floats ∈ Gw := gwc in_5_3 (i := 21) rfl rfl
theorem w1343 : Cond.instanceMethod yX10_floats ∈ Gw := gwc in_5_3 (i := 23) rfl rfl
theorem w1344 : Cond.code yX10_floats cX10_floats 5 (some .int) ∈ Gw := gwc in_5_3 (i := 24) rfl rfl
theorem w1345 : Cond.methodLink RL 220 yX10_sum ∈ Gw := gwc in_5_3 (i := 25) rfl rfl
theorem w1346 : Cond.instanceMethod yX10_sum ∈ Gw := gwc in_5_3 (i := 26) rfl rfl
theorem w1347 : Cond.selects RX10 yX10_sum yX10_sum ∈ Gw := gwc in_5_3 (i := 27) rfl rfl
theorem w1348 : Cond.code yX10_sum cX10_sum 4 (some .int) ∈ Gw := gwc in_5_3 (i := 28) rfl rfl
theorem w1349 : Cond.methodLink RX10 192 yX10_over ∈ Gw := gwc in_5_3 (i := 29) rfl rfl
theorem w1351 : Cond.instanceMethod yX10_over ∈ Gw := gwc in_5_3 (i := 31) rfl rfl
theorem w1352 : Cond.code yX10_over cX10_over 5 (some .int) ∈ Gw := gwc in_5_3 (i := 32) rfl rfl
theorem w1353 : Cond.arrayClass .long ∈ Gw := gwc in_5_3 (i := 33) rfl rfl
theorem wp0 : Cond.selects "java/lang/Throwable" ⟨"java/lang/Throwable", "fillInStackTrace", "(I)Ljava/lang/Throwable;"⟩ ⟨"java/lang/Throwable", "fillInStackTrace", "(I)Ljava/lang/Throwable;"⟩ ∈ Gw := gw (i := 0) (by decide +kernel) rfl
theorem wp1 : Cond.selects RX9 yX9_needWater yX9_needWater ∈ Gw := gw (i := 1) (by decide +kernel) rfl
theorem wp2 : Cond.selects RX0 yX0_leak yX0_leak ∈ Gw := gw (i := 2) (by decide +kernel) rfl
theorem wp3 : Cond.selects RX0 yX0_weather yX0_weather ∈ Gw := gw (i := 3) (by decide +kernel) rfl
theorem wp4 : Cond.selects RX0 yX0_drift yX0_drift ∈ Gw := gw (i := 4) (by decide +kernel) rfl
theorem wp5 : Cond.selects RX0 yX0_findWhatGoes yX0_findWhatGoes ∈ Gw := gw (i := 5) (by decide +kernel) rfl
theorem wp6 : Cond.selects RX0 yX0_letGo yX0_letGo ∈ Gw := gw (i := 6) (by decide +kernel) rfl
theorem wp7 : Cond.selects RX0 yX0_giveBack yX0_giveBack ∈ Gw := gw (i := 7) (by decide +kernel) rfl
theorem wp8 : Cond.selects RX0 yX0_skim yX0_skim ∈ Gw := gw (i := 8) (by decide +kernel) rfl
theorem wp9 : Cond.selects RX0 yX0_harmShores yX0_harmShores ∈ Gw := gw (i := 9) (by decide +kernel) rfl
theorem wp10 : Cond.selects RX9 yX9_needRoomForMeans yX9_needRoomForMeans ∈ Gw := gw (i := 10) (by decide +kernel) rfl
theorem wp11 : Cond.selects RX9 yX9_needSort yX9_needSort ∈ Gw := gw (i := 11) (by decide +kernel) rfl
theorem wp12 : Cond.selects RX9 yX9_needShore yX9_needShore ∈ Gw := gw (i := 12) (by decide +kernel) rfl
theorem wp13 : Cond.selects RX4 yX4_hasRested yX4_hasRested ∈ Gw := gw (i := 13) (by decide +kernel) rfl
theorem wp14 : Cond.selects RX7 yX7_isAgainst yX7_isAgainst ∈ Gw := gw (i := 14) (by decide +kernel) rfl
theorem wp15 : Cond.selects RX6 yX6_allGet yX6_allGet ∈ Gw := gw (i := 15) (by decide +kernel) rfl
theorem wp16 : Cond.selects RX5 yX5_weigh yX5_weigh ∈ Gw := gw (i := 16) (by decide +kernel) rfl
theorem wp17 : Cond.selects RX5 yX5_leaksInto yX5_leaksInto ∈ Gw := gw (i := 17) (by decide +kernel) rfl
theorem wp18 : Cond.selects RX5 yX5_waterAgainstWind yX5_waterAgainstWind ∈ Gw := gw (i := 18) (by decide +kernel) rfl
theorem wp19 : Cond.selects RX5 yX5_givenBackTo yX5_givenBackTo ∈ Gw := gw (i := 19) (by decide +kernel) rfl
theorem wp20 : Cond.selects RX5 yX5_isHighTide yX5_isHighTide ∈ Gw := gw (i := 20) (by decide +kernel) rfl
theorem wp21 : Cond.selects RX5 yX5_landedOn yX5_landedOn ∈ Gw := gw (i := 21) (by decide +kernel) rfl
theorem wp22 : Cond.selects RX5 yX5_leftBySkimmers yX5_leftBySkimmers ∈ Gw := gw (i := 22) (by decide +kernel) rfl
theorem wp23 : Cond.selects RX10 yX10_fails yX10_fails ∈ Gw := gw (i := 23) (by decide +kernel) rfl
theorem wp24 : Cond.selects RX10 yX10_isShip yX10_isShip ∈ Gw := gw (i := 24) (by decide +kernel) rfl
theorem wp25 : Cond.selects RX10 yX10_hour yX10_hour ∈ Gw := gw (i := 25) (by decide +kernel) rfl
theorem wp26 : Cond.selects RX10 yX10_leak yX10_leak ∈ Gw := gw (i := 26) (by decide +kernel) rfl
theorem wp27 : Cond.selects RX10 yX10_weather yX10_weather ∈ Gw := gw (i := 27) (by decide +kernel) rfl
theorem wp28 : Cond.selects RX10 yX10_look yX10_look ∈ Gw := gw (i := 28) (by decide +kernel) rfl
theorem wp29 : Cond.selects RX10 yX10_holds yX10_holds ∈ Gw := gw (i := 29) (by decide +kernel) rfl
theorem wp30 : Cond.selects RX10 yX10_boomOn yX10_boomOn ∈ Gw := gw (i := 30) (by decide +kernel) rfl
theorem wp31 : Cond.selects RX10 yX10_drift yX10_drift ∈ Gw := gw (i := 31) (by decide +kernel) rfl
theorem wp32 : Cond.selects RX10 yX10_lowestWater yX10_lowestWater ∈ Gw := gw (i := 32) (by decide +kernel) rfl
theorem wp33 : Cond.selects RX10 yX10_back yX10_back ∈ Gw := gw (i := 33) (by decide +kernel) rfl
theorem wp34 : Cond.selects RX10 yX10_skim yX10_skim ∈ Gw := gw (i := 34) (by decide +kernel) rfl
theorem wp35 : Cond.selects RX10 yX10_suffer yX10_suffer ∈ Gw := gw (i := 35) (by decide +kernel) rfl
theorem wp36 : Cond.selects RX10 yX10_signatures yX10_signatures ∈ Gw := gw (i := 36) (by decide +kernel) rfl
theorem wp37 : Cond.selects RX10 yX10_mean yX10_mean ∈ Gw := gw (i := 37) (by decide +kernel) rfl
theorem wp38 : Cond.selects RX10 yX10_isMean yX10_isMean ∈ Gw := gw (i := 38) (by decide +kernel) rfl
theorem wp39 : Cond.selects RX10 yX10_rules yX10_rules ∈ Gw := gw (i := 39) (by decide +kernel) rfl
theorem wp40 : Cond.selects RX10 yX10_isAgainst yX10_isAgainst ∈ Gw := gw (i := 40) (by decide +kernel) rfl
theorem wp41 : Cond.selects RX10 yX10_strands yX10_strands ∈ Gw := gw (i := 41) (by decide +kernel) rfl
theorem wp42 : Cond.selects RX10 yX10_goes yX10_goes ∈ Gw := gw (i := 42) (by decide +kernel) rfl
theorem wp43 : Cond.selects RX10 yX10_floats yX10_floats ∈ Gw := gw (i := 43) (by decide +kernel) rfl
theorem wp44 : Cond.selects RX10 yX10_over yX10_over ∈ Gw := gw (i := 44) (by decide +kernel) rfl
theorem gwX0 : ∀ w ∈ u_ws RX0 TX0 9, w ∈ Gw := gw_r _ [270, 272, 274, 276, 278, 280, 282, 284, 286] (by decide +kernel) (by decide +kernel)
theorem gwX1 : ∀ w ∈ u_ws RX1 TX1 7, w ∈ Gw := gw_r _ [231, 233, 235, 237, 239, 241, 243] (by decide +kernel) (by decide +kernel)
theorem gwX2 : ∀ w ∈ u_ws RX2 TX2 8, w ∈ Gw := gw_r _ [116, 118, 120, 122, 124, 126, 128, 130] (by decide +kernel) (by decide +kernel)
theorem gwX3 : ∀ w ∈ u_ws RX3 TX3 4, w ∈ Gw := gw_r _ [333, 335, 337, 339] (by decide +kernel) (by decide +kernel)
theorem gwX4 : ∀ w ∈ u_ws RX4 TX4 9, w ∈ Gw := gw_r _ [191, 193, 195, 197, 199, 201, 203, 205, 207] (by decide +kernel) (by decide +kernel)
theorem gwX5 : ∀ w ∈ u_ws RX5 TX5 5, w ∈ Gw := gw_r _ [300, 302, 304, 306, 308] (by decide +kernel) (by decide +kernel)
theorem gwX6 : ∀ w ∈ u_ws RX6 TX6 5, w ∈ Gw := gw_r _ [356, 358, 360, 362, 364] (by decide +kernel) (by decide +kernel)
theorem gwX7 : ∀ w ∈ u_ws RX7 TX7 1, w ∈ Gw := gw_r _ [318] (by decide +kernel) (by decide +kernel)
theorem gwX8 : ∀ w ∈ u_ws RX8 TX8 4, w ∈ Gw := gw_r _ [152, 154, 156, 158] (by decide +kernel) (by decide +kernel)
theorem gwX9 : ∀ w ∈ u_ws RX9 TX9 6, w ∈ Gw := gw_r _ [373, 375, 377, 379, 381, 383] (by decide +kernel) (by decide +kernel)
theorem gwX10 : ∀ w ∈ u_ws RX10 TX10 29, w ∈ Gw := gw_r _ [1102, 1104, 1106, 1108, 1110, 1112, 1114, 1116, 1118, 1120, 1122, 1124, 1126, 1128, 1130, 1132, 1134, 1136, 1138, 1140, 1142, 1144, 1146, 1148, 1150, 1152, 1154, 1156, 1158] (by decide +kernel) (by decide +kernel)
