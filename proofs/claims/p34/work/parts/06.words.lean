def Gw : List Cond := lw_tbl.filter goodWord
theorem gw {w : Cond} {i : Nat} (h : lw_tbl[i]? = some w) (g : goodWord w = true) : w ∈ Gw := List.mem_filter.mpr ⟨List.mem_of_getElem? h, g⟩
theorem gwc {c : List Cond} (h : ∀ w ∈ c, w ∈ lw_tbl) {w : Cond} {i : Nat} (hi : c[i]? = some w) (g : goodWord w = true) : w ∈ Gw := List.mem_filter.mpr ⟨h w (List.mem_of_getElem? hi), g⟩
theorem gw_good {w : Cond} (h : w ∈ Gw) : (w.onTables && w.keeps) = true ∨ ∃ ty, w = .arrayClass ty := good_of_word (List.mem_filter.mp h).2
theorem gw_r (ws : List Cond) (ps : List Nat) (hp : ws = ps.filterMap (fun i => lw_tbl[i]?)) (h : ws.all goodWord = true) : ∀ w ∈ ws, w ∈ Gw := by
  intro w hw
  have h1 := List.all_eq_true.mp h w hw
  rw [hp] at hw
  obtain ⟨i, -, hi⟩ := List.mem_filterMap.mp hw
  exact gw hi h1
def gc_0_0 : List Cond := [Cond.initialized RL, Cond.initialized RX9, Cond.initialized RX0, Cond.initialized RX2, Cond.initialized RJ7, Cond.initialized RX8, Cond.initialized RX4, Cond.initialized RX1, Cond.initialized RX5, Cond.initialized RX7, Cond.initialized RX3, Cond.initialized RX6, Cond.initialized "java/lang/Throwable", Cond.initialized "java/lang/Exception", Cond.initialized "java/lang/RuntimeException", Cond.initialized "java/lang/IndexOutOfBoundsException", Cond.initialized "java/lang/IllegalArgumentException", Cond.initialized "java/lang/IllegalStateException", Cond.initialized RJ6, Cond.initialized "java/lang/Math", Cond.initialized "java/lang/System", Cond.classLink RL 10 RX9, Cond.instantiable RX9 6, Cond.methodLink RL 53 yX9_init, Cond.instanceMethod yX9_init, Cond.code yX9_init cX9_init 1 none, Cond.methodLink RX9 3 objectInit, Cond.instanceMethod objectInit, Cond.code objectInit ⟨#[0xb1]⟩ 1 none, Cond.classLink RX9 9 RX0, Cond.instantiable RX0 9, Cond.methodLink RX9 11 yX0_init, Cond.instanceMethod yX0_init, Cond.code yX0_init cX0_init 1 none, Cond.methodLink RX0 3 objectInit, Cond.classLink RX0 9 RX2, Cond.instantiable RX2 8, Cond.methodLink RX0 11 yX2_init, Cond.instanceMethod yX2_init, Cond.code yX2_init cX2_init 1 none]
def gc_0_1 : List Cond := [Cond.methodLink RX2 3 objectInit, Cond.methodLink RX2 18 yJ7_fill_53178, Cond.static yJ7_fill_53178, Cond.code yJ7_fill_53178 cJ7_fill_53178 4 none, Cond.fieldLink RX2 9 RX2 "kind" "[I", Cond.fieldLink RX9 93 RX2 "kind" "[I", Cond.fieldLink RX2 15 RX2 "depth" "[I", Cond.fieldLink RX7 21 RX2 "depth" "[I", Cond.fieldLink RX9 106 RX2 "depth" "[I", Cond.fieldLink RX2 24 RX2 "fresh" "[I", Cond.fieldLink RX7 27 RX2 "fresh" "[I", Cond.fieldLink RX5 74 RX2 "fresh" "[I", Cond.fieldLink RX0 98 RX2 "fresh" "[I", Cond.fieldLink RX9 143 RX2 "fresh" "[I", Cond.fieldLink RX2 27 RX2 "thick" "[I", Cond.fieldLink RX7 34 RX2 "thick" "[I", Cond.fieldLink RX5 81 RX2 "thick" "[I", Cond.fieldLink RX0 111 RX2 "thick" "[I", Cond.fieldLink RX9 146 RX2 "thick" "[I", Cond.fieldLink RX2 30 RX2 "stranded" "[I", Cond.fieldLink RX5 130 RX2 "stranded" "[I", Cond.fieldLink RX9 149 RX2 "stranded" "[I", Cond.fieldLink RX0 158 RX2 "stranded" "[I", Cond.fieldLink RX2 33 RX2 "birds" "[I", Cond.fieldLink RX9 152 RX2 "birds" "[I", Cond.fieldLink RX2 36 RX2 "oiled" "[I", Cond.fieldLink RX9 155 RX2 "oiled" "[I", Cond.fieldLink RX2 39 RX2 "signatures" "[I", Cond.fieldLink RX9 158 RX2 "signatures" "[I", Cond.fieldLink RX0 185 RX2 "signatures" "[I", (Jvm.Cond.laysFinal "Slickboom$Cells" "Slickboom$Cells" "kind" "[I"), (Jvm.Cond.soleField "Slickboom$Cells" "kind"), (Jvm.Cond.laysFinal "Slickboom$Cells" "Slickboom$Cells" "depth" "[I"), (Jvm.Cond.soleField "Slickboom$Cells" "depth"), (Jvm.Cond.laysFinal "Slickboom$Cells" "Slickboom$Cells" "fresh" "[I"), (Jvm.Cond.soleField "Slickboom$Cells" "fresh"), (Jvm.Cond.laysFinal "Slickboom$Cells" "Slickboom$Cells" "thick" "[I"), (Jvm.Cond.soleField "Slickboom$Cells" "thick"), (Jvm.Cond.laysFinal "Slickboom$Cells" "Slickboom$Cells" "stranded" "[I"), (Jvm.Cond.soleField "Slickboom$Cells" "stranded")]
def gc_0_2 : List Cond := [(Jvm.Cond.laysFinal "Slickboom$Cells" "Slickboom$Cells" "birds" "[I"), (Jvm.Cond.soleField "Slickboom$Cells" "birds"), (Jvm.Cond.laysFinal "Slickboom$Cells" "Slickboom$Cells" "oiled" "[I"), (Jvm.Cond.soleField "Slickboom$Cells" "oiled"), (Jvm.Cond.laysFinal "Slickboom$Cells" "Slickboom$Cells" "signatures" "[I"), (Jvm.Cond.soleField "Slickboom$Cells" "signatures"), (Jvm.Cond.superclass "Slickboom$Cells" "java/lang/Object"), Cond.arrayClass .int, Cond.classLink RX0 18 RX8, Cond.instantiable RX8 4, Cond.methodLink RX0 20 yX8_init, Cond.instanceMethod yX8_init, Cond.code yX8_init cX8_init 1 none, Cond.methodLink RX8 3 objectInit, Cond.fieldLink RX8 21 RX8 "count" "I", Cond.fieldLink RX0 88 RX8 "count" "I", Cond.fieldLink RX9 116 RX8 "count" "I", Cond.fieldLink RX5 112 RX8 "count" "I", Cond.fieldLink RX8 9 RX8 "cell" "[I", Cond.fieldLink RX0 101 RX8 "cell" "[I", Cond.fieldLink RX5 117 RX8 "cell" "[I", Cond.fieldLink RX8 15 RX8 "litres" "[I", Cond.fieldLink RX0 95 RX8 "litres" "[I", Cond.fieldLink RX9 133 RX8 "litres" "[I", Cond.fieldLink RX8 18 RX8 "rate" "[I", Cond.fieldLink RX9 125 RX8 "rate" "[I", (Jvm.Cond.lays "Slickboom$Ships" "Slickboom$Ships" "count" "I"), (Jvm.Cond.soleField "Slickboom$Ships" "count"), (Jvm.Cond.laysFinal "Slickboom$Ships" "Slickboom$Ships" "cell" "[I"), (Jvm.Cond.soleField "Slickboom$Ships" "cell"), (Jvm.Cond.laysFinal "Slickboom$Ships" "Slickboom$Ships" "litres" "[I"), (Jvm.Cond.soleField "Slickboom$Ships" "litres"), (Jvm.Cond.laysFinal "Slickboom$Ships" "Slickboom$Ships" "rate" "[I"), (Jvm.Cond.soleField "Slickboom$Ships" "rate"), (Jvm.Cond.superclass "Slickboom$Ships" "java/lang/Object"), Cond.classLink RX0 25 RX4, Cond.instantiable RX4 9, Cond.methodLink RX0 27 yX4_init, Cond.instanceMethod yX4_init, Cond.code yX4_init cX4_init 1 none]
def gc_0_3 : List Cond := [Cond.methodLink RX4 3 objectInit, Cond.fieldLink RX4 37 RX4 "count" "I", Cond.fieldLink RX5 133 RX4 "count" "I", Cond.fieldLink RX0 167 RX4 "count" "I", Cond.fieldLink RX9 185 RX4 "count" "I", Cond.fieldLink RX4 9 RX4 "sort" "[I", Cond.fieldLink RX0 168 RX4 "sort" "[I", Cond.fieldLink RX9 218 RX4 "sort" "[I", Cond.fieldLink RX4 15 RX4 "cell" "[I", Cond.fieldLink RX0 171 RX4 "cell" "[I", Cond.fieldLink RX9 189 RX4 "cell" "[I", Cond.fieldLink RX4 18 RX4 "way" "[I", Cond.fieldLink RX9 175 RX4 "way" "[I", Cond.fieldLink RX4 21 RX4 "power" "[I", Cond.fieldLink RX5 96 RX4 "power" "[I", Cond.fieldLink RX0 136 RX4 "power" "[I", Cond.fieldLink RX9 210 RX4 "power" "[I", Cond.fieldLink RX4 24 RX4 "store" "[I", Cond.fieldLink RX9 178 RX4 "store" "[I", Cond.fieldLink RX4 27 RX4 "tally" "[I", Cond.fieldLink RX0 139 RX4 "tally" "[I", Cond.fieldLink RX9 192 RX4 "tally" "[I", Cond.fieldLink RX4 30 RX4 "taught" "[Z", Cond.fieldLink RX9 181 RX4 "taught" "[Z", Cond.fieldLink RX4 34 RX4 "lastWork" "[I", (Jvm.Cond.lays "Slickboom$Means" "Slickboom$Means" "count" "I"), (Jvm.Cond.soleField "Slickboom$Means" "count"), (Jvm.Cond.laysFinal "Slickboom$Means" "Slickboom$Means" "sort" "[I"), (Jvm.Cond.soleField "Slickboom$Means" "sort"), (Jvm.Cond.laysFinal "Slickboom$Means" "Slickboom$Means" "cell" "[I"), (Jvm.Cond.soleField "Slickboom$Means" "cell"), (Jvm.Cond.laysFinal "Slickboom$Means" "Slickboom$Means" "way" "[I"), (Jvm.Cond.soleField "Slickboom$Means" "way"), (Jvm.Cond.laysFinal "Slickboom$Means" "Slickboom$Means" "power" "[I"), (Jvm.Cond.soleField "Slickboom$Means" "power"), (Jvm.Cond.laysFinal "Slickboom$Means" "Slickboom$Means" "store" "[I"), (Jvm.Cond.soleField "Slickboom$Means" "store"), (Jvm.Cond.laysFinal "Slickboom$Means" "Slickboom$Means" "tally" "[I"), (Jvm.Cond.soleField "Slickboom$Means" "tally"), (Jvm.Cond.laysFinal "Slickboom$Means" "Slickboom$Means" "taught" "[Z")]
def gc_0_4 : List Cond := [(Jvm.Cond.soleField "Slickboom$Means" "taught"), (Jvm.Cond.laysFinal "Slickboom$Means" "Slickboom$Means" "lastWork" "[I"), (Jvm.Cond.soleField "Slickboom$Means" "lastWork"), (Jvm.Cond.superclass "Slickboom$Means" "java/lang/Object"), Cond.arrayClass .boolean, Cond.classLink RX0 32 RX1, Cond.instantiable RX1 7, Cond.methodLink RX0 34 yX1_init, Cond.instanceMethod yX1_init, Cond.code yX1_init cX1_init 1 none, Cond.methodLink RX1 3 objectInit, Cond.fieldLink RX1 15 RX1 "leaked" "I", Cond.fieldLink RX9 304 RX1 "leaked" "I", Cond.fieldLink RX1 9 RX1 "firstLeak" "I", Cond.fieldLink RX0 194 RX1 "firstLeak" "I", Cond.fieldLink RX0 108 RX1 "air" "I", Cond.fieldLink RX9 316 RX1 "air" "I", Cond.fieldLink RX0 114 RX1 "sunk" "I", Cond.fieldLink RX9 319 RX1 "sunk" "I", Cond.fieldLink RX0 155 RX1 "out" "I", Cond.fieldLink RX9 322 RX1 "out" "I", Cond.fieldLink RX0 188 RX1 "deep" "I", Cond.fieldLink RX9 331 RX1 "deep" "I", Cond.fieldLink RX0 191 RX1 "burnt" "I", Cond.fieldLink RX9 334 RX1 "burnt" "I", (Jvm.Cond.lays "Slickboom$Books" "Slickboom$Books" "leaked" "I"), (Jvm.Cond.soleField "Slickboom$Books" "leaked"), (Jvm.Cond.lays "Slickboom$Books" "Slickboom$Books" "firstLeak" "I"), (Jvm.Cond.soleField "Slickboom$Books" "firstLeak"), (Jvm.Cond.lays "Slickboom$Books" "Slickboom$Books" "air" "I"), (Jvm.Cond.soleField "Slickboom$Books" "air"), (Jvm.Cond.lays "Slickboom$Books" "Slickboom$Books" "sunk" "I"), (Jvm.Cond.soleField "Slickboom$Books" "sunk"), (Jvm.Cond.lays "Slickboom$Books" "Slickboom$Books" "out" "I"), (Jvm.Cond.soleField "Slickboom$Books" "out"), (Jvm.Cond.lays "Slickboom$Books" "Slickboom$Books" "deep" "I"), (Jvm.Cond.soleField "Slickboom$Books" "deep"), (Jvm.Cond.lays "Slickboom$Books" "Slickboom$Books" "burnt" "I"), (Jvm.Cond.soleField "Slickboom$Books" "burnt"), (Jvm.Cond.superclass "Slickboom$Books" "java/lang/Object")]
def gc_0_5 : List Cond := [Cond.fieldLink RX0 12 RX0 "cells" "LSlickboom$Cells;", Cond.fieldLink RX7 15 RX0 "cells" "LSlickboom$Cells;", Cond.fieldLink RX9 89 RX0 "cells" "LSlickboom$Cells;", Cond.fieldLink RX5 56 RX0 "cells" "LSlickboom$Cells;", Cond.fieldLink RX0 21 RX0 "ships" "LSlickboom$Ships;", Cond.fieldLink RX9 68 RX0 "ships" "LSlickboom$Ships;", Cond.fieldLink RX5 108 RX0 "ships" "LSlickboom$Ships;", Cond.fieldLink RX0 28 RX0 "means" "LSlickboom$Means;", Cond.fieldLink RX9 78 RX0 "means" "LSlickboom$Means;", Cond.fieldLink RX5 84 RX0 "means" "LSlickboom$Means;", Cond.fieldLink RX0 35 RX0 "books" "LSlickboom$Books;", Cond.fieldLink RX9 300 RX0 "books" "LSlickboom$Books;", Cond.fieldLink RX9 57 RX0 "hour" "I", Cond.fieldLink RX0 60 RX0 "hour" "I", Cond.fieldLink RX5 68 RX0 "hour" "I", Cond.fieldLink RX0 39 RX0 "windWay" "I", Cond.fieldLink RX9 109 RX0 "windWay" "I", Cond.fieldLink RX5 88 RX0 "windWay" "I", Cond.fieldLink RX0 63 RX0 "windStrength" "I", Cond.fieldLink RX7 37 RX0 "windStrength" "I", Cond.fieldLink RX9 112 RX0 "windStrength" "I", Cond.fieldLink RX5 99 RX0 "windStrength" "I", Cond.fieldLink RX0 43 RX0 "freshGoes" "[I", Cond.fieldLink RX0 47 RX0 "thickGoes" "[I", (Jvm.Cond.laysFinal "Slickboom$Bay" "Slickboom$Bay" "cells" "LSlickboom$Cells;"), (Jvm.Cond.soleField "Slickboom$Bay" "cells"), (Jvm.Cond.laysFinal "Slickboom$Bay" "Slickboom$Bay" "ships" "LSlickboom$Ships;"), (Jvm.Cond.soleField "Slickboom$Bay" "ships"), (Jvm.Cond.laysFinal "Slickboom$Bay" "Slickboom$Bay" "means" "LSlickboom$Means;"), (Jvm.Cond.soleField "Slickboom$Bay" "means"), (Jvm.Cond.laysFinal "Slickboom$Bay" "Slickboom$Bay" "books" "LSlickboom$Books;"), (Jvm.Cond.soleField "Slickboom$Bay" "books"), (Jvm.Cond.lays "Slickboom$Bay" "Slickboom$Bay" "hour" "I"), (Jvm.Cond.soleField "Slickboom$Bay" "hour"), (Jvm.Cond.lays "Slickboom$Bay" "Slickboom$Bay" "windWay" "I"), (Jvm.Cond.soleField "Slickboom$Bay" "windWay"), (Jvm.Cond.lays "Slickboom$Bay" "Slickboom$Bay" "windStrength" "I"), (Jvm.Cond.soleField "Slickboom$Bay" "windStrength"), (Jvm.Cond.laysFinal "Slickboom$Bay" "Slickboom$Bay" "freshGoes" "[I"), (Jvm.Cond.soleField "Slickboom$Bay" "freshGoes")]
set_option maxRecDepth 100000 in
theorem tb_0 : tables_1_1 = gc_0_0 ++ (gc_0_1 ++ (gc_0_2 ++ (gc_0_3 ++ (gc_0_4 ++ (gc_0_5))))) := rfl
theorem in_0_0 : ∀ w ∈ gc_0_0, w ∈ lw_tbl := fun w h => List.mem_append_right _ (show w ∈ tables_1 from List.mem_append_left _ (show w ∈ tables_1_1 by rw [tb_0]; exact List.mem_append_left _ h))
theorem in_0_1 : ∀ w ∈ gc_0_1, w ∈ lw_tbl := fun w h => List.mem_append_right _ (show w ∈ tables_1 from List.mem_append_left _ (show w ∈ tables_1_1 by rw [tb_0]; exact List.mem_append_right _ (List.mem_append_left _ h)))
theorem in_0_2 : ∀ w ∈ gc_0_2, w ∈ lw_tbl := fun w h => List.mem_append_right _ (show w ∈ tables_1 from List.mem_append_left _ (show w ∈ tables_1_1 by rw [tb_0]; exact List.mem_append_right _ (List.mem_append_right _ (List.mem_append_left _ h))))
theorem in_0_3 : ∀ w ∈ gc_0_3, w ∈ lw_tbl := fun w h => List.mem_append_right _ (show w ∈ tables_1 from List.mem_append_left _ (show w ∈ tables_1_1 by rw [tb_0]; exact List.mem_append_right _ (List.mem_append_right _ (List.mem_append_right _ (List.mem_append_left _ h)))))
theorem in_0_4 : ∀ w ∈ gc_0_4, w ∈ lw_tbl := fun w h => List.mem_append_right _ (show w ∈ tables_1 from List.mem_append_left _ (show w ∈ tables_1_1 by rw [tb_0]; exact List.mem_append_right _ (List.mem_append_right _ (List.mem_append_right _ (List.mem_append_right _ (List.mem_append_left _ h))))))
theorem in_0_5 : ∀ w ∈ gc_0_5, w ∈ lw_tbl := fun w h => List.mem_append_right _ (show w ∈ tables_1 from List.mem_append_left _ (show w ∈ tables_1_1 by rw [tb_0]; exact List.mem_append_right _ (List.mem_append_right _ (List.mem_append_right _ (List.mem_append_right _ (List.mem_append_right _ (h)))))))
def gc_1_0 : List Cond := [(Jvm.Cond.laysFinal "Slickboom$Bay" "Slickboom$Bay" "thickGoes" "[I"), (Jvm.Cond.soleField "Slickboom$Bay" "thickGoes"), (Jvm.Cond.superclass "Slickboom$Bay" "java/lang/Object"), Cond.classLink RX9 19 RX5, Cond.instantiable RX5 5, Cond.methodLink RX9 21 yX5_init, Cond.instanceMethod yX5_init, Cond.code yX5_init cX5_init 2 none, Cond.methodLink RX5 3 objectInit, Cond.fieldLink RX5 9 RX5 "bay" "LSlickboom$Bay;", Cond.fieldLink RX5 19 RX5 "freshHas" "I", Cond.fieldLink RX5 26 RX5 "thickHas" "I", Cond.fieldLink RX5 23 RX5 "freshGoes" "I", Cond.fieldLink RX5 29 RX5 "thickGoes" "I", (Jvm.Cond.laysFinal "Slickboom$NextHour" "Slickboom$NextHour" "bay" "LSlickboom$Bay;"), (Jvm.Cond.soleField "Slickboom$NextHour" "bay"), (Jvm.Cond.lays "Slickboom$NextHour" "Slickboom$NextHour" "freshHas" "I"), (Jvm.Cond.soleField "Slickboom$NextHour" "freshHas"), (Jvm.Cond.lays "Slickboom$NextHour" "Slickboom$NextHour" "thickHas" "I"), (Jvm.Cond.soleField "Slickboom$NextHour" "thickHas"), (Jvm.Cond.lays "Slickboom$NextHour" "Slickboom$NextHour" "freshGoes" "I"), (Jvm.Cond.soleField "Slickboom$NextHour" "freshGoes"), (Jvm.Cond.lays "Slickboom$NextHour" "Slickboom$NextHour" "thickGoes" "I"), (Jvm.Cond.soleField "Slickboom$NextHour" "thickGoes"), (Jvm.Cond.superclass "Slickboom$NextHour" "java/lang/Object"), Cond.classLink RX9 28 RX7, Cond.instantiable RX7 1, Cond.methodLink RX9 30 yX7_init, Cond.instanceMethod yX7_init, Cond.code yX7_init cX7_init 2 none, Cond.methodLink RX7 3 objectInit, Cond.fieldLink RX7 9 RX7 "bay" "LSlickboom$Bay;", (Jvm.Cond.laysFinal "Slickboom$Rules" "Slickboom$Rules" "bay" "LSlickboom$Bay;"), (Jvm.Cond.soleField "Slickboom$Rules" "bay"), (Jvm.Cond.superclass "Slickboom$Rules" "java/lang/Object"), Cond.classLink RX9 35 RX3, Cond.instantiable RX3 4, Cond.methodLink RX9 37 yX3_init, Cond.instanceMethod yX3_init, Cond.code yX3_init cX3_init 1 none]
def gc_1_1 : List Cond := [Cond.methodLink RX3 3 objectInit, Cond.fieldLink RX3 9 RX3 "waste" "[I", Cond.fieldLink RX9 195 RX3 "waste" "[I", Cond.fieldLink RX3 15 RX3 "room" "[I", Cond.fieldLink RX3 22 RX3 "delivered" "I", (Jvm.Cond.lays "Slickboom$Dump" "Slickboom$Dump" "sites" "I"), (Jvm.Cond.soleField "Slickboom$Dump" "sites"), (Jvm.Cond.laysFinal "Slickboom$Dump" "Slickboom$Dump" "waste" "[I"), (Jvm.Cond.soleField "Slickboom$Dump" "waste"), (Jvm.Cond.laysFinal "Slickboom$Dump" "Slickboom$Dump" "room" "[I"), (Jvm.Cond.soleField "Slickboom$Dump" "room"), (Jvm.Cond.lays "Slickboom$Dump" "Slickboom$Dump" "delivered" "I"), (Jvm.Cond.soleField "Slickboom$Dump" "delivered"), (Jvm.Cond.superclass "Slickboom$Dump" "java/lang/Object"), Cond.classLink RX9 42 RX6, Cond.instantiable RX6 5, Cond.methodLink RX9 44 yX6_init, Cond.instanceMethod yX6_init, Cond.code yX6_init cX6_init 1 none, Cond.methodLink RX6 3 objectInit, Cond.fieldLink RX6 15 RX6 "count" "I", Cond.fieldLink RX9 265 RX6 "count" "I", Cond.fieldLink RX6 23 RX6 "owner" "I", Cond.fieldLink RX9 271 RX6 "owner" "I", Cond.fieldLink RX6 26 RX6 "fund" "I", Cond.fieldLink RX9 274 RX6 "fund" "I", Cond.fieldLink RX6 19 RX6 "all" "J", Cond.fieldLink RX6 9 RX6 "cents" "[I", (Jvm.Cond.lays "Slickboom$Payers" "Slickboom$Payers" "count" "I"), (Jvm.Cond.soleField "Slickboom$Payers" "count"), (Jvm.Cond.lays "Slickboom$Payers" "Slickboom$Payers" "owner" "I"), (Jvm.Cond.soleField "Slickboom$Payers" "owner"), (Jvm.Cond.lays "Slickboom$Payers" "Slickboom$Payers" "fund" "I"), (Jvm.Cond.soleField "Slickboom$Payers" "fund"), (Jvm.Cond.lays "Slickboom$Payers" "Slickboom$Payers" "all" "J"), (Jvm.Cond.soleField "Slickboom$Payers" "all"), (Jvm.Cond.laysFinal "Slickboom$Payers" "Slickboom$Payers" "cents" "[I"), (Jvm.Cond.soleField "Slickboom$Payers" "cents"), (Jvm.Cond.superclass "Slickboom$Payers" "java/lang/Object"), Cond.fieldLink RX9 12 RX9 "bay" "LSlickboom$Bay;"]
def gc_1_2 : List Cond := [Cond.fieldLink RX9 16 RX9 "trial" "LSlickboom$Bay;", Cond.fieldLink RX9 24 RX9 "nextHour" "LSlickboom$NextHour;", Cond.fieldLink RX9 31 RX9 "rules" "LSlickboom$Rules;", Cond.fieldLink RX9 38 RX9 "dump" "LSlickboom$Dump;", Cond.fieldLink RX9 45 RX9 "payers" "LSlickboom$Payers;", (Jvm.Cond.laysFinal "Slickboom" "Slickboom" "bay" "LSlickboom$Bay;"), (Jvm.Cond.soleField "Slickboom" "bay"), (Jvm.Cond.laysFinal "Slickboom" "Slickboom" "trial" "LSlickboom$Bay;"), (Jvm.Cond.soleField "Slickboom" "trial"), (Jvm.Cond.laysFinal "Slickboom" "Slickboom" "nextHour" "LSlickboom$NextHour;"), (Jvm.Cond.soleField "Slickboom" "nextHour"), (Jvm.Cond.laysFinal "Slickboom" "Slickboom" "rules" "LSlickboom$Rules;"), (Jvm.Cond.soleField "Slickboom" "rules"), (Jvm.Cond.laysFinal "Slickboom" "Slickboom" "dump" "LSlickboom$Dump;"), (Jvm.Cond.soleField "Slickboom" "dump"), (Jvm.Cond.laysFinal "Slickboom" "Slickboom" "payers" "LSlickboom$Payers;"), (Jvm.Cond.soleField "Slickboom" "payers"), (Jvm.Cond.superclass "Slickboom" "java/lang/Object"), Cond.methodLink RL 63 yX9_shore, Cond.instanceMethod yX9_shore, Cond.selects RX9 yX9_shore yX9_shore, Cond.code yX9_shore cX9_shore 4 (some .int), Cond.methodLink RX9 49 yX9_needNumber, Cond.static yX9_needNumber, Cond.code yX9_needNumber cX9_needNumber 2 none, Cond.classLink RX9 340 "java/lang/IndexOutOfBoundsException", Cond.instantiable "java/lang/IndexOutOfBoundsException" 6, (Jvm.Cond.castable "java/lang/IndexOutOfBoundsException" "java/lang/IndexOutOfBoundsException"), (Jvm.Cond.declares ({ cls := "java/lang/RuntimeException", name := "<init>", desc := "()V" } : Jvm.MethodName)), (Jvm.Cond.declares ({ cls := "java/lang/RuntimeException", name := "<init>", desc := "(Ljava/lang/String;)V" } : Jvm.MethodName)), (Jvm.Cond.declares ({ cls := "java/lang/Exception", name := "<init>", desc := "()V" } : Jvm.MethodName)), (Jvm.Cond.declares ({ cls := "java/lang/Exception", name := "<init>", desc := "(Ljava/lang/String;)V" } : Jvm.MethodName)), (Jvm.Cond.declares ({ cls := "java/lang/Throwable", name := "<init>", desc := "()V" } : Jvm.MethodName)), (Jvm.Cond.declares ({ cls := "java/lang/Throwable", name := "<init>", desc := "(Ljava/lang/String;)V" } : Jvm.MethodName)), (Jvm.Cond.selects "java/lang/IndexOutOfBoundsException" ({ cls := "java/lang/Throwable", name := "fillInStackTrace", desc := "(I)Ljava/lang/Throwable;" } : Jvm.MethodName) ({ cls := "java/lang/Throwable", name := "fillInStackTrace", desc := "(I)Ljava/lang/Throwable;" } : Jvm.MethodName)), (Jvm.Cond.selects "java/lang/IndexOutOfBoundsException" ({ cls := "java/lang/Throwable", name := "fillInStackTrace", desc := "()Ljava/lang/Throwable;" } : Jvm.MethodName) ({ cls := "java/lang/Throwable", name := "fillInStackTrace", desc := "()Ljava/lang/Throwable;" } : Jvm.MethodName)), (Jvm.Cond.lays "java/lang/IndexOutOfBoundsException" "java/lang/Throwable" "cause" "Ljava/lang/Throwable;"), (Jvm.Cond.lays "java/lang/Throwable" "java/lang/Throwable" "cause" "Ljava/lang/Throwable;"), (Jvm.Cond.lays "java/lang/IndexOutOfBoundsException" "java/lang/Throwable" "stackTrace" "[Ljava/lang/StackTraceElement;"), (Jvm.Cond.lays "java/lang/Throwable" "java/lang/Throwable" "stackTrace" "[Ljava/lang/StackTraceElement;")]
def gc_1_3 : List Cond := [(Jvm.Cond.lays "java/lang/IndexOutOfBoundsException" "java/lang/Throwable" "suppressedExceptions" "Ljava/util/List;"), (Jvm.Cond.lays "java/lang/Throwable" "java/lang/Throwable" "suppressedExceptions" "Ljava/util/List;"), (Jvm.Cond.lays "java/lang/IndexOutOfBoundsException" "java/lang/Throwable" "detailMessage" "Ljava/lang/String;"), (Jvm.Cond.lays "java/lang/Throwable" "java/lang/Throwable" "detailMessage" "Ljava/lang/String;"), (Jvm.Cond.lays "java/lang/IndexOutOfBoundsException" "java/lang/Throwable" "backtrace" "Ljava/lang/Object;"), (Jvm.Cond.lays "java/lang/Throwable" "java/lang/Throwable" "backtrace" "Ljava/lang/Object;"), Cond.fieldLink "java/lang/Throwable" 198 "java/lang/Throwable" "backtrace" "Ljava/lang/Object;", (Jvm.Cond.superclass "java/lang/Throwable" "java/lang/Object"), Cond.instanceMethod ⟨"java/lang/Throwable", "<init>", "()V"⟩, (Jvm.Cond.code ({ cls := "java/lang/Throwable", name := "<init>", desc := "()V" } : Jvm.MethodName) prog_22_method_1_code (1 : Nat) (Option.none : Option Jvm.ClassFile.FieldType)), Cond.methodLink "java/lang/Throwable" 1 objectInit, Cond.fieldLink "java/lang/Throwable" 13 "java/lang/Throwable" "UNASSIGNED_STACK" "[Ljava/lang/StackTraceElement;", (Jvm.Cond.laysStatic "java/lang/Throwable" "UNASSIGNED_STACK" "[Ljava/lang/StackTraceElement;"), Cond.fieldLink "java/lang/Throwable" 20 "java/lang/Throwable" "SUPPRESSED_SENTINEL" "Ljava/util/List;", (Jvm.Cond.laysStatic "java/lang/Throwable" "SUPPRESSED_SENTINEL" "Ljava/util/List;"), Cond.methodLink "java/lang/Throwable" 27 ⟨"java/lang/Throwable", "fillInStackTrace", "()Ljava/lang/Throwable;"⟩, Cond.instanceMethod ⟨"java/lang/Throwable", "fillInStackTrace", "()Ljava/lang/Throwable;"⟩, (Jvm.Cond.sameMethod "java/lang/Throwable" "java/lang/Throwable" "fillInStackTrace" "()Ljava/lang/Throwable;"), (Jvm.Cond.selects "java/lang/IllegalArgumentException" ({ cls := "java/lang/Throwable", name := "fillInStackTrace", desc := "()Ljava/lang/Throwable;" } : Jvm.MethodName) ({ cls := "java/lang/Throwable", name := "fillInStackTrace", desc := "()Ljava/lang/Throwable;" } : Jvm.MethodName)), (Jvm.Cond.selects "java/lang/IllegalStateException" ({ cls := "java/lang/Throwable", name := "fillInStackTrace", desc := "()Ljava/lang/Throwable;" } : Jvm.MethodName) ({ cls := "java/lang/Throwable", name := "fillInStackTrace", desc := "()Ljava/lang/Throwable;" } : Jvm.MethodName)), (Jvm.Cond.codeSync ({ cls := "java/lang/Throwable", name := "fillInStackTrace", desc := "()Ljava/lang/Throwable;" } : Jvm.MethodName) prog_22_method_18_code (1 : Nat) (Option.some (Jvm.ClassFile.FieldType.object "java/lang/Throwable"))), Cond.methodLink "java/lang/Throwable" 202 ⟨"java/lang/Throwable", "fillInStackTrace", "(I)Ljava/lang/Throwable;"⟩, (Jvm.Cond.privateMethod ({ cls := "java/lang/Throwable", name := "fillInStackTrace", desc := "(I)Ljava/lang/Throwable;" } : Jvm.MethodName)), Cond.instanceMethod ⟨"java/lang/Throwable", "fillInStackTrace", "(I)Ljava/lang/Throwable;"⟩, Cond.instantiable "java/lang/Throwable" 6, Cond.native ⟨"java/lang/Throwable", "fillInStackTrace", "(I)Ljava/lang/Throwable;"⟩, (Jvm.Cond.stringRef "Slickboom" (342 : Nat) "there is none with such a number"), Cond.methodLink RX9 344 ⟨"java/lang/IndexOutOfBoundsException", "<init>", "(Ljava/lang/String;)V"⟩, Cond.instanceMethod ⟨"java/lang/IndexOutOfBoundsException", "<init>", "(Ljava/lang/String;)V"⟩, (Jvm.Cond.code ({ cls := "java/lang/IndexOutOfBoundsException", name := "<init>", desc := "(Ljava/lang/String;)V" } : Jvm.MethodName) prog_16_method_2_code (2 : Nat) (Option.none : Option Jvm.ClassFile.FieldType)), Cond.methodLink "java/lang/IndexOutOfBoundsException" 7 ⟨"java/lang/RuntimeException", "<init>", "(Ljava/lang/String;)V"⟩, Cond.instanceMethod ⟨"java/lang/RuntimeException", "<init>", "(Ljava/lang/String;)V"⟩, (Jvm.Cond.code ({ cls := "java/lang/RuntimeException", name := "<init>", desc := "(Ljava/lang/String;)V" } : Jvm.MethodName) prog_19_method_2_code (2 : Nat) (Option.none : Option Jvm.ClassFile.FieldType)), Cond.methodLink "java/lang/RuntimeException" 7 ⟨"java/lang/Exception", "<init>", "(Ljava/lang/String;)V"⟩, Cond.instanceMethod ⟨"java/lang/Exception", "<init>", "(Ljava/lang/String;)V"⟩, (Jvm.Cond.code ({ cls := "java/lang/Exception", name := "<init>", desc := "(Ljava/lang/String;)V" } : Jvm.MethodName) prog_13_method_2_code (2 : Nat) (Option.none : Option Jvm.ClassFile.FieldType)), Cond.methodLink "java/lang/Exception" 7 ⟨"java/lang/Throwable", "<init>", "(Ljava/lang/String;)V"⟩, Cond.instanceMethod ⟨"java/lang/Throwable", "<init>", "(Ljava/lang/String;)V"⟩, (Jvm.Cond.code ({ cls := "java/lang/Throwable", name := "<init>", desc := "(Ljava/lang/String;)V" } : Jvm.MethodName) prog_22_method_2_code (2 : Nat) (Option.none : Option Jvm.ClassFile.FieldType)), (Jvm.Cond.fieldLink "java/lang/Throwable" (198 : Nat) "java/lang/Throwable" "backtrace" "Ljava/lang/Object;")]
def gc_1_4 : List Cond := [Cond.fieldLink "java/lang/Throwable" 31 "java/lang/Throwable" "detailMessage" "Ljava/lang/String;", Cond.fieldLink "java/lang/Throwable" 7 "java/lang/Throwable" "cause" "Ljava/lang/Throwable;", Cond.fieldLink "java/lang/Throwable" 17 "java/lang/Throwable" "stackTrace" "[Ljava/lang/StackTraceElement;", Cond.fieldLink "java/lang/Throwable" 24 "java/lang/Throwable" "suppressedExceptions" "Ljava/util/List;", (Jvm.Cond.soleField "java/lang/Throwable" "backtrace"), (Jvm.Cond.soleField "java/lang/Throwable" "detailMessage"), (Jvm.Cond.soleField "java/lang/Throwable" "cause"), (Jvm.Cond.soleField "java/lang/Throwable" "stackTrace"), (Jvm.Cond.lays "java/lang/IndexOutOfBoundsException" "java/lang/Throwable" "depth" "I"), (Jvm.Cond.soleField "java/lang/Throwable" "depth"), (Jvm.Cond.soleField "java/lang/Throwable" "suppressedExceptions"), (Jvm.Cond.superclass "java/lang/IndexOutOfBoundsException" "java/lang/RuntimeException"), Cond.arrayClass .byte, Cond.methodLink RX9 53 yX9_needRange, Cond.static yX9_needRange, Cond.code yX9_needRange cX9_needRange 3 none, Cond.classLink RX9 128 "java/lang/IllegalArgumentException", Cond.instantiable "java/lang/IllegalArgumentException" 6, (Jvm.Cond.castable "java/lang/IllegalArgumentException" "java/lang/IllegalArgumentException"), (Jvm.Cond.selects "java/lang/IllegalArgumentException" ({ cls := "java/lang/Throwable", name := "fillInStackTrace", desc := "(I)Ljava/lang/Throwable;" } : Jvm.MethodName) ({ cls := "java/lang/Throwable", name := "fillInStackTrace", desc := "(I)Ljava/lang/Throwable;" } : Jvm.MethodName)), (Jvm.Cond.lays "java/lang/IllegalArgumentException" "java/lang/Throwable" "cause" "Ljava/lang/Throwable;"), (Jvm.Cond.lays "java/lang/IllegalArgumentException" "java/lang/Throwable" "stackTrace" "[Ljava/lang/StackTraceElement;"), (Jvm.Cond.lays "java/lang/IllegalArgumentException" "java/lang/Throwable" "suppressedExceptions" "Ljava/util/List;"), (Jvm.Cond.lays "java/lang/IllegalArgumentException" "java/lang/Throwable" "detailMessage" "Ljava/lang/String;"), (Jvm.Cond.lays "java/lang/IllegalArgumentException" "java/lang/Throwable" "backtrace" "Ljava/lang/Object;"), (Jvm.Cond.stringRef "Slickboom" (345 : Nat) "an argument is out of range"), Cond.methodLink RX9 132 ⟨"java/lang/IllegalArgumentException", "<init>", "(Ljava/lang/String;)V"⟩, Cond.instanceMethod ⟨"java/lang/IllegalArgumentException", "<init>", "(Ljava/lang/String;)V"⟩, (Jvm.Cond.code ({ cls := "java/lang/IllegalArgumentException", name := "<init>", desc := "(Ljava/lang/String;)V" } : Jvm.MethodName) prog_14_method_2_code (2 : Nat) (Option.none : Option Jvm.ClassFile.FieldType)), Cond.methodLink "java/lang/IllegalArgumentException" 7 ⟨"java/lang/RuntimeException", "<init>", "(Ljava/lang/String;)V"⟩, (Jvm.Cond.lays "java/lang/IllegalArgumentException" "java/lang/Throwable" "depth" "I"), (Jvm.Cond.superclass "java/lang/IllegalArgumentException" "java/lang/RuntimeException"), Cond.classLink RX9 61 "java/lang/IllegalStateException", Cond.instantiable "java/lang/IllegalStateException" 6, (Jvm.Cond.castable "java/lang/IllegalStateException" "java/lang/IllegalStateException"), (Jvm.Cond.selects "java/lang/IllegalStateException" ({ cls := "java/lang/Throwable", name := "fillInStackTrace", desc := "(I)Ljava/lang/Throwable;" } : Jvm.MethodName) ({ cls := "java/lang/Throwable", name := "fillInStackTrace", desc := "(I)Ljava/lang/Throwable;" } : Jvm.MethodName)), (Jvm.Cond.lays "java/lang/IllegalStateException" "java/lang/Throwable" "cause" "Ljava/lang/Throwable;"), (Jvm.Cond.lays "java/lang/IllegalStateException" "java/lang/Throwable" "stackTrace" "[Ljava/lang/StackTraceElement;"), (Jvm.Cond.lays "java/lang/IllegalStateException" "java/lang/Throwable" "suppressedExceptions" "Ljava/util/List;"), (Jvm.Cond.lays "java/lang/IllegalStateException" "java/lang/Throwable" "detailMessage" "Ljava/lang/String;")]
def gc_1_5 : List Cond := [(Jvm.Cond.lays "java/lang/IllegalStateException" "java/lang/Throwable" "backtrace" "Ljava/lang/Object;"), (Jvm.Cond.stringRef "Slickboom" (63 : Nat) "the HOUR is not 0"), Cond.methodLink RX9 65 ⟨"java/lang/IllegalStateException", "<init>", "(Ljava/lang/String;)V"⟩, Cond.instanceMethod ⟨"java/lang/IllegalStateException", "<init>", "(Ljava/lang/String;)V"⟩, (Jvm.Cond.code ({ cls := "java/lang/IllegalStateException", name := "<init>", desc := "(Ljava/lang/String;)V" } : Jvm.MethodName) prog_15_method_2_code (2 : Nat) (Option.none : Option Jvm.ClassFile.FieldType)), Cond.methodLink "java/lang/IllegalStateException" 7 ⟨"java/lang/RuntimeException", "<init>", "(Ljava/lang/String;)V"⟩, (Jvm.Cond.lays "java/lang/IllegalStateException" "java/lang/Throwable" "depth" "I"), (Jvm.Cond.superclass "java/lang/IllegalStateException" "java/lang/RuntimeException"), Cond.methodLink RX9 72 yX8_isAnyAt, Cond.instanceMethod yX8_isAnyAt, Cond.selects RX8 yX8_isAnyAt yX8_isAnyAt, Cond.code yX8_isAnyAt cX8_isAnyAt 3 (some .boolean), Cond.methodLink RX9 82 yX4_isSkimmerAt, Cond.instanceMethod yX4_isSkimmerAt, Cond.selects RX4 yX4_isSkimmerAt yX4_isSkimmerAt, Cond.code yX4_isSkimmerAt cX4_isSkimmerAt 3 (some .boolean), Cond.methodLink RX4 41 yX4_isSkimmer, Cond.instanceMethod yX4_isSkimmer, Cond.selects RX4 yX4_isSkimmer yX4_isSkimmer, Cond.code yX4_isSkimmer cX4_isSkimmer 3 (some .boolean), (Jvm.Cond.stringRef "Slickboom" (87 : Nat) "a SHIP or a SKIMMER is there"), Cond.methodLink RX9 99 yX2_become, Cond.instanceMethod yX2_become, Cond.selects RX2 yX2_become yX2_become, Cond.code yX2_become cX2_become 3 none, Cond.methodLink RL 81 yX9_wind, Cond.instanceMethod yX9_wind, Cond.selects RX9 yX9_wind yX9_wind, Cond.code yX9_wind cX9_wind 4 (some .int), Cond.methodLink RL 74 yX9_hole, Cond.instanceMethod yX9_hole, Cond.selects RX9 yX9_hole yX9_hole, Cond.code yX9_hole cX9_hole 4 (some .int), Cond.methodLink RL 101 yX9_pass, Cond.instanceMethod yX9_pass, Cond.selects RX9 yX9_pass yX9_pass, Cond.code yX9_pass cX9_pass 2 (some .int), (Jvm.Cond.stringRef "Slickboom" (138 : Nat) "the HOUR would be above 2000"), Cond.methodLink RX9 140 yX0_letPass, Cond.instanceMethod yX0_letPass]
set_option maxRecDepth 100000 in
theorem tb_1 : tables_1_2 = gc_1_0 ++ (gc_1_1 ++ (gc_1_2 ++ (gc_1_3 ++ (gc_1_4 ++ (gc_1_5))))) := rfl
theorem in_1_0 : ∀ w ∈ gc_1_0, w ∈ lw_tbl := fun w h => List.mem_append_right _ (show w ∈ tables_1 from List.mem_append_right _ (List.mem_append_left _ (show w ∈ tables_1_2 by rw [tb_1]; exact List.mem_append_left _ h)))
theorem in_1_1 : ∀ w ∈ gc_1_1, w ∈ lw_tbl := fun w h => List.mem_append_right _ (show w ∈ tables_1 from List.mem_append_right _ (List.mem_append_left _ (show w ∈ tables_1_2 by rw [tb_1]; exact List.mem_append_right _ (List.mem_append_left _ h))))
theorem in_1_2 : ∀ w ∈ gc_1_2, w ∈ lw_tbl := fun w h => List.mem_append_right _ (show w ∈ tables_1 from List.mem_append_right _ (List.mem_append_left _ (show w ∈ tables_1_2 by rw [tb_1]; exact List.mem_append_right _ (List.mem_append_right _ (List.mem_append_left _ h)))))
theorem in_1_3 : ∀ w ∈ gc_1_3, w ∈ lw_tbl := fun w h => List.mem_append_right _ (show w ∈ tables_1 from List.mem_append_right _ (List.mem_append_left _ (show w ∈ tables_1_2 by rw [tb_1]; exact List.mem_append_right _ (List.mem_append_right _ (List.mem_append_right _ (List.mem_append_left _ h))))))
theorem in_1_4 : ∀ w ∈ gc_1_4, w ∈ lw_tbl := fun w h => List.mem_append_right _ (show w ∈ tables_1 from List.mem_append_right _ (List.mem_append_left _ (show w ∈ tables_1_2 by rw [tb_1]; exact List.mem_append_right _ (List.mem_append_right _ (List.mem_append_right _ (List.mem_append_right _ (List.mem_append_left _ h)))))))
theorem in_1_5 : ∀ w ∈ gc_1_5, w ∈ lw_tbl := fun w h => List.mem_append_right _ (show w ∈ tables_1 from List.mem_append_right _ (List.mem_append_left _ (show w ∈ tables_1_2 by rw [tb_1]; exact List.mem_append_right _ (List.mem_append_right _ (List.mem_append_right _ (List.mem_append_right _ (List.mem_append_right _ (h))))))))
def gc_2_0 : List Cond := [Cond.selects RX0 yX0_letPass yX0_letPass, Cond.code yX0_letPass cX0_letPass 3 none, Cond.methodLink RX0 66 yX0_leak, (Jvm.Cond.privateMethod ({ cls := "Slickboom$Bay", name := "leak", desc := "()V" } : Jvm.MethodName)), Cond.instanceMethod yX0_leak, Cond.code yX0_leak cX0_leak 4 none, Cond.methodLink RX0 75 yX0_tideOf, Cond.static yX0_tideOf, Cond.code yX0_tideOf cX0_tideOf 2 (some .int), Cond.methodLink RX0 91 yX8_leakOf, Cond.instanceMethod yX8_leakOf, Cond.selects RX8 yX8_leakOf yX8_leakOf, Cond.code yX8_leakOf cX8_leakOf 4 (some .int), Cond.methodLink RX8 25 Lib.Math.min.name, Cond.static Lib.Math.min.name, Cond.code Lib.Math.min.name Lib.Math.min.code 2 (some .int), Cond.methodLink RX0 104 yX1_noteLeak, Cond.instanceMethod yX1_noteLeak, Cond.selects RX1 yX1_noteLeak yX1_noteLeak, Cond.code yX1_noteLeak cX1_noteLeak 3 none, Cond.methodLink RX0 69 yX0_weather, (Jvm.Cond.privateMethod ({ cls := "Slickboom$Bay", name := "weather", desc := "()V" } : Jvm.MethodName)), Cond.instanceMethod yX0_weather, Cond.code yX0_weather cX0_weather 5 none, Cond.methodLink RX0 72 yX0_drift, (Jvm.Cond.privateMethod ({ cls := "Slickboom$Bay", name := "drift", desc := "()V" } : Jvm.MethodName)), Cond.instanceMethod yX0_drift, Cond.code yX0_drift cX0_drift 2 none, Cond.methodLink RX0 117 yX0_findWhatGoes, (Jvm.Cond.privateMethod ({ cls := "Slickboom$Bay", name := "findWhatGoes", desc := "(I)V" } : Jvm.MethodName)), Cond.instanceMethod yX0_findWhatGoes, Cond.code yX0_findWhatGoes cX0_findWhatGoes 6 none, Cond.methodLink RX0 127 yX0_roomBehind, Cond.instanceMethod yX0_roomBehind, Cond.selects RX0 yX0_roomBehind yX0_roomBehind, Cond.code yX0_roomBehind cX0_roomBehind 3 (some .int), Cond.methodLink RX0 121 yX2_beside, Cond.static yX2_beside, Cond.code yX2_beside cX2_beside 4 (some .int), Cond.methodLink RX0 147 yX2_isWater]
def gc_2_1 : List Cond := [Cond.instanceMethod yX2_isWater, Cond.selects RX2 yX2_isWater yX2_isWater, Cond.code yX2_isWater cX2_isWater 2 (some .boolean), Cond.constant RX0 151 1000000, Cond.methodLink RX0 152 yX2_roomOf, Cond.instanceMethod yX2_roomOf, Cond.selects RX2 yX2_roomOf yX2_roomOf, Cond.code yX2_roomOf cX2_roomOf 2 (some .int), (Jvm.Cond.fieldLinkNest "Slickboom$Cells" (50 : Nat) "Slickboom" "HOLDS" "[I" "Slickboom"), (Jvm.Cond.laysStatic "Slickboom" "HOLDS" "[I"), Cond.methodLink RX0 130 yX0_blown, Cond.instanceMethod yX0_blown, Cond.selects RX0 yX0_blown yX0_blown, Cond.code yX0_blown cX0_blown 3 (some .int), Cond.methodLink RX0 142 Lib.Math.min.name, Cond.methodLink RX0 133 yX4_boomOn, Cond.instanceMethod yX4_boomOn, Cond.selects RX4 yX4_boomOn yX4_boomOn, Cond.code yX4_boomOn cX4_boomOn 6 (some .int), Cond.methodLink RX4 45 yX2_beside, Cond.methodLink RX4 51 yX2_opposite, Cond.static yX2_opposite, Cond.code yX2_opposite cX2_opposite 1 (some .int), Cond.methodLink RX0 124 yX0_letGo, (Jvm.Cond.privateMethod ({ cls := "Slickboom$Bay", name := "letGo", desc := "(II)V" } : Jvm.MethodName)), Cond.instanceMethod yX0_letGo, Cond.code yX0_letGo cX0_letGo 5 none, Cond.methodLink RX0 79 yX0_giveBack, (Jvm.Cond.privateMethod ({ cls := "Slickboom$Bay", name := "giveBack", desc := "()V" } : Jvm.MethodName)), Cond.instanceMethod yX0_giveBack, Cond.code yX0_giveBack cX0_giveBack 4 none, Cond.methodLink RX0 161 yX2_lowestWaterBeside, Cond.instanceMethod yX2_lowestWaterBeside, Cond.selects RX2 yX2_lowestWaterBeside yX2_lowestWaterBeside, Cond.code yX2_lowestWaterBeside cX2_lowestWaterBeside 5 (some .int), Cond.methodLink RX2 42 yX2_beside, Cond.methodLink RX2 46 yX2_isWater, Cond.methodLink RX0 164 yX2_backOf, Cond.instanceMethod yX2_backOf, Cond.selects RX2 yX2_backOf yX2_backOf]
def gc_2_2 : List Cond := [Cond.code yX2_backOf cX2_backOf 4 (some .int), (Jvm.Cond.fieldLinkNest "Slickboom$Cells" (53 : Nat) "Slickboom" "BACK_PARTS" "[I" "Slickboom"), (Jvm.Cond.laysStatic "Slickboom" "BACK_PARTS" "[I"), Cond.methodLink RX0 82 yX0_skim, (Jvm.Cond.privateMethod ({ cls := "Slickboom$Bay", name := "skim", desc := "()V" } : Jvm.MethodName)), Cond.instanceMethod yX0_skim, Cond.code yX0_skim cX0_skim 5 none, Cond.methodLink RX0 172 yX4_freshTaken, Cond.instanceMethod yX4_freshTaken, Cond.selects RX4 yX4_freshTaken yX4_freshTaken, Cond.code yX4_freshTaken cX4_freshTaken 4 (some .int), Cond.methodLink RX4 55 Lib.Math.min.name, Cond.methodLink RX0 175 yX4_thickTaken, Cond.instanceMethod yX4_thickTaken, Cond.selects RX4 yX4_thickTaken yX4_thickTaken, Cond.code yX4_thickTaken cX4_thickTaken 5 (some .int), Cond.methodLink RX0 85 yX0_harmShores, (Jvm.Cond.privateMethod ({ cls := "Slickboom$Bay", name := "harmShores", desc := "()V" } : Jvm.MethodName)), Cond.instanceMethod yX0_harmShores, Cond.code yX0_harmShores cX0_harmShores 2 none, Cond.methodLink RX0 179 yX2_oilBirds, Cond.instanceMethod yX2_oilBirds, Cond.selects RX2 yX2_oilBirds yX2_oilBirds, Cond.code yX2_oilBirds cX2_oilBirds 3 none, Cond.methodLink RX2 62 Lib.Math.min.name, Cond.methodLink RX0 182 yX2_isTooDirty, Cond.instanceMethod yX2_isTooDirty, Cond.selects RX2 yX2_isTooDirty yX2_isTooDirty, Cond.code yX2_isTooDirty cX2_isTooDirty 2 (some .boolean), Cond.methodLink RL 44 yX9_at, Cond.instanceMethod yX9_at, Cond.selects RX9 yX9_at yX9_at, Cond.code yX9_at cX9_at 4 (some .int), Cond.methodLink RX9 161 yX2_isClean, Cond.instanceMethod yX2_isClean, Cond.selects RX2 yX2_isClean yX2_isClean, Cond.code yX2_isClean cX2_isClean 2 (some .boolean), Cond.methodLink RX2 56 yJ6_bitCount_0f7a4, Cond.static yJ6_bitCount_0f7a4, Cond.code yJ6_bitCount_0f7a4 cJ6_bitCount_0f7a4 1 (some .int)]
def gc_2_3 : List Cond := [Cond.constant RJ6 265 1431655765, Cond.constant RJ6 266 858993459, Cond.constant RJ6 267 252645135, Cond.methodLink RL 77 yX9_team, Cond.instanceMethod yX9_team, Cond.selects RX9 yX9_team yX9_team, Cond.code yX9_team cX9_team 4 (some .int), Cond.methodLink RX9 169 yX9_needRoomForMeans, (Jvm.Cond.privateMethod ({ cls := "Slickboom", name := "needRoomForMeans", desc := "()V" } : Jvm.MethodName)), Cond.instanceMethod yX9_needRoomForMeans, Cond.code yX9_needRoomForMeans cX9_needRoomForMeans 1 none, (Jvm.Cond.stringRef "Slickboom" (351 : Nat) "there are 20 means"), Cond.methodLink RX9 172 yX4_add, Cond.instanceMethod yX4_add, Cond.selects RX4 yX4_add yX4_add, Cond.code yX4_add cX4_add 5 (some .int), Cond.methodLink RL 66 yX9_birds, Cond.instanceMethod yX9_birds, Cond.selects RX9 yX9_birds yX9_birds, Cond.code yX9_birds cX9_birds 3 (some .int), Cond.methodLink RX9 198 yX9_needShore, (Jvm.Cond.privateMethod ({ cls := "Slickboom", name := "needShore", desc := "(I)V" } : Jvm.MethodName)), Cond.instanceMethod yX9_needShore, Cond.code yX9_needShore cX9_needShore 2 none, Cond.methodLink RX9 291 yX2_isWater, (Jvm.Cond.stringRef "Slickboom" (349 : Nat) "the CELL is WATER"), (Jvm.Cond.stringRef "Slickboom" (239 : Nat) "there would be more than 1000 birds"), Cond.methodLink RL 109 yX9_claim, Cond.instanceMethod yX9_claim, Cond.selects RX9 yX9_claim yX9_claim, Cond.code yX9_claim cX9_claim 2 (some .int), Cond.constant RX9 264 1000000, (Jvm.Cond.stringRef "Slickboom" (266 : Nat) "there are 20 CLAIMS"), Cond.methodLink RX9 268 yX6_add, Cond.instanceMethod yX6_add, Cond.selects RX6 yX6_add yX6_add, Cond.code yX6_add cX6_add 3 (some .int), Cond.methodLink RL 113 yX9_layers, Cond.instanceMethod yX9_layers, Cond.selects RX9 yX9_layers yX9_layers]
def gc_2_4 : List Cond := [Cond.code yX9_layers cX9_layers 4 (some .int), Cond.constant RX9 270 10000000, Cond.methodLink RL 116 yX9_due, Cond.instanceMethod yX9_due, Cond.selects RX9 yX9_due yX9_due, Cond.code yX9_due cX9_due 7 (some .int), Cond.methodLink RX9 277 yX6_getsOf, Cond.instanceMethod yX6_getsOf, Cond.selects RX6 yX6_getsOf yX6_getsOf, Cond.code yX6_getsOf cX6_getsOf 2 (some .long), Cond.methodLink RX6 35 yX6_allGet, (Jvm.Cond.privateMethod ({ cls := "Slickboom$Payers", name := "allGet", desc := "()J" } : Jvm.MethodName)), Cond.instanceMethod yX6_allGet, Cond.code yX6_allGet cX6_allGet 1 (some .long), Cond.methodLink RX6 29 Lib.MathLoose.min_long.x, Cond.static Lib.MathLoose.min_long.x, Cond.code Lib.MathLoose.min_long.x Lib.MathLoose.min_long.code 4 (some .long), Cond.methodLink RX9 281 yX6_ownersPartOf, Cond.instanceMethod yX6_ownersPartOf, Cond.selects RX6 yX6_ownersPartOf yX6_ownersPartOf, Cond.code yX6_ownersPartOf cX6_ownersPartOf 5 (some .long), Cond.methodLink RL 98 yX9_ahead, Cond.instanceMethod yX9_ahead, Cond.selects RX9 yX9_ahead yX9_ahead, Cond.code yX9_ahead cX9_ahead 3 (some .int), Cond.methodLink RX9 285 yX0_becomeLike, Cond.instanceMethod yX0_becomeLike, Cond.selects RX0 yX0_becomeLike yX0_becomeLike, Cond.code yX0_becomeLike cX0_becomeLike 2 none, Cond.methodLink RX0 50 yX2_becomeLike, Cond.instanceMethod yX2_becomeLike, Cond.selects RX2 yX2_becomeLike yX2_becomeLike, Cond.code yX2_becomeLike cX2_becomeLike 2 none, Cond.methodLink RX2 67 arraycopyName, Cond.static arraycopyName, Cond.native arraycopyName, Cond.methodLink RX0 54 yX8_becomeLike, Cond.instanceMethod yX8_becomeLike, Cond.selects RX8 yX8_becomeLike yX8_becomeLike, Cond.code yX8_becomeLike cX8_becomeLike 2 none]
def gc_2_5 : List Cond := [Cond.methodLink RX8 31 arraycopyName, Cond.methodLink RX0 57 yX4_becomeLike, Cond.instanceMethod yX4_becomeLike, Cond.selects RX4 yX4_becomeLike yX4_becomeLike, Cond.code yX4_becomeLike cX4_becomeLike 2 none, Cond.methodLink RX4 63 arraycopyName, Cond.methodLink RX9 288 yX2_oilOf, Cond.instanceMethod yX2_oilOf, Cond.selects RX2 yX2_oilOf yX2_oilOf, Cond.code yX2_oilOf cX2_oilOf 2 (some .int), Cond.methodLink RL 95 yX9_nextAnew, Cond.instanceMethod yX9_nextAnew, Cond.selects RX9 yX9_nextAnew yX9_nextAnew, Cond.code yX9_nextAnew cX9_nextAnew 2 (some .int), Cond.methodLink RX9 294 yX5_floatingOf, Cond.instanceMethod yX5_floatingOf, Cond.selects RX5 yX5_floatingOf yX5_floatingOf, Cond.code yX5_floatingOf cX5_floatingOf 6 (some .int), Cond.methodLink RX5 15 yX5_weigh, (Jvm.Cond.privateMethod ({ cls := "Slickboom$NextHour", name := "weigh", desc := "(I)V" } : Jvm.MethodName)), Cond.instanceMethod yX5_weigh, Cond.code yX5_weigh cX5_weigh 8 none, Cond.methodLink RX5 78 yX5_leaksInto, (Jvm.Cond.privateMethod ({ cls := "Slickboom$NextHour", name := "leaksInto", desc := "(I)I" } : Jvm.MethodName)), Cond.instanceMethod yX5_leaksInto, Cond.code yX5_leaksInto cX5_leaksInto 5 (some .int), Cond.methodLink RX5 71 yX0_tideOf, Cond.methodLink RX5 120 yX8_leakOf, Cond.methodLink RX5 91 yX4_boomOn, Cond.methodLink RX5 102 yX0_roomBehind, Cond.methodLink RX5 105 yX0_blown, Cond.methodLink RX5 32 yX5_waterAgainstWind, (Jvm.Cond.privateMethod ({ cls := "Slickboom$NextHour", name := "waterAgainstWind", desc := "(I)I" } : Jvm.MethodName)), Cond.instanceMethod yX5_waterAgainstWind, Cond.code yX5_waterAgainstWind cX5_waterAgainstWind 3 (some .int), Cond.methodLink RX5 123 yX2_opposite, Cond.methodLink RX5 36 yX2_beside, Cond.methodLink RX5 126 yX2_isWater, Cond.methodLink RX5 42 yX5_givenBackTo, (Jvm.Cond.privateMethod ({ cls := "Slickboom$NextHour", name := "givenBackTo", desc := "(II)I" } : Jvm.MethodName))]
set_option maxRecDepth 100000 in
theorem tb_2 : tables_1_3 = gc_2_0 ++ (gc_2_1 ++ (gc_2_2 ++ (gc_2_3 ++ (gc_2_4 ++ (gc_2_5))))) := rfl
theorem in_2_0 : ∀ w ∈ gc_2_0, w ∈ lw_tbl := fun w h => List.mem_append_right _ (show w ∈ tables_1 from List.mem_append_right _ (List.mem_append_right _ (List.mem_append_left _ (show w ∈ tables_1_3 by rw [tb_2]; exact List.mem_append_left _ h))))
theorem in_2_1 : ∀ w ∈ gc_2_1, w ∈ lw_tbl := fun w h => List.mem_append_right _ (show w ∈ tables_1 from List.mem_append_right _ (List.mem_append_right _ (List.mem_append_left _ (show w ∈ tables_1_3 by rw [tb_2]; exact List.mem_append_right _ (List.mem_append_left _ h)))))
theorem in_2_2 : ∀ w ∈ gc_2_2, w ∈ lw_tbl := fun w h => List.mem_append_right _ (show w ∈ tables_1 from List.mem_append_right _ (List.mem_append_right _ (List.mem_append_left _ (show w ∈ tables_1_3 by rw [tb_2]; exact List.mem_append_right _ (List.mem_append_right _ (List.mem_append_left _ h))))))
theorem in_2_3 : ∀ w ∈ gc_2_3, w ∈ lw_tbl := fun w h => List.mem_append_right _ (show w ∈ tables_1 from List.mem_append_right _ (List.mem_append_right _ (List.mem_append_left _ (show w ∈ tables_1_3 by rw [tb_2]; exact List.mem_append_right _ (List.mem_append_right _ (List.mem_append_right _ (List.mem_append_left _ h)))))))
theorem in_2_4 : ∀ w ∈ gc_2_4, w ∈ lw_tbl := fun w h => List.mem_append_right _ (show w ∈ tables_1 from List.mem_append_right _ (List.mem_append_right _ (List.mem_append_left _ (show w ∈ tables_1_3 by rw [tb_2]; exact List.mem_append_right _ (List.mem_append_right _ (List.mem_append_right _ (List.mem_append_right _ (List.mem_append_left _ h))))))))
theorem in_2_5 : ∀ w ∈ gc_2_5, w ∈ lw_tbl := fun w h => List.mem_append_right _ (show w ∈ tables_1 from List.mem_append_right _ (List.mem_append_right _ (List.mem_append_left _ (show w ∈ tables_1_3 by rw [tb_2]; exact List.mem_append_right _ (List.mem_append_right _ (List.mem_append_right _ (List.mem_append_right _ (List.mem_append_right _ (h)))))))))
def gc_3_0 : List Cond := [Cond.instanceMethod yX5_givenBackTo, Cond.code yX5_givenBackTo cX5_givenBackTo 3 (some .int), Cond.methodLink RX5 52 yX5_isHighTide, (Jvm.Cond.privateMethod ({ cls := "Slickboom$NextHour", name := "isHighTide", desc := "()Z" } : Jvm.MethodName)), Cond.instanceMethod yX5_isHighTide, Cond.code yX5_isHighTide cX5_isHighTide 1 (some .boolean), Cond.methodLink RX5 62 yX2_lowestWaterBeside, Cond.methodLink RX5 49 yX5_landedOn, (Jvm.Cond.privateMethod ({ cls := "Slickboom$NextHour", name := "landedOn", desc := "(I)I" } : Jvm.MethodName)), Cond.instanceMethod yX5_landedOn, Cond.code yX5_landedOn cX5_landedOn 4 (some .int), Cond.methodLink RX5 65 yX2_backOf, Cond.methodLink RX5 45 yX5_leftBySkimmers, (Jvm.Cond.privateMethod ({ cls := "Slickboom$NextHour", name := "leftBySkimmers", desc := "(III)I" } : Jvm.MethodName)), Cond.instanceMethod yX5_leftBySkimmers, Cond.code yX5_leftBySkimmers cX5_leftBySkimmers 8 (some .int), Cond.methodLink RX5 134 yX4_isSkimmer, Cond.methodLink RX5 138 yX4_freshTaken, Cond.methodLink RX5 141 yX4_thickTaken, Cond.methodLink RX9 297 yX5_strandedOf, Cond.instanceMethod yX5_strandedOf, Cond.selects RX5 yX5_strandedOf yX5_strandedOf, Cond.code yX5_strandedOf cX5_strandedOf 4 (some .int), Cond.methodLink RL 50 yX9_sum, Cond.instanceMethod yX9_sum, Cond.selects RX9 yX9_sum yX9_sum, Cond.code yX9_sum cX9_sum 3 (some .int), Cond.methodLink RX9 309 yX8_allLitres, Cond.instanceMethod yX8_allLitres, Cond.selects RX8 yX8_allLitres yX8_allLitres, Cond.code yX8_allLitres cX8_allLitres 3 (some .int), Cond.methodLink RX9 313 yX2_allFloating, Cond.instanceMethod yX2_allFloating, Cond.selects RX2 yX2_allFloating yX2_allFloating, Cond.code yX2_allFloating cX2_allFloating 3 (some .int), Cond.methodLink RX9 325 yX2_allStranded, Cond.instanceMethod yX2_allStranded, Cond.selects RX2 yX2_allStranded yX2_allStranded, Cond.code yX2_allStranded cX2_allStranded 3 (some .int), Cond.methodLink RX9 328 yX4_allInStores]
def gc_3_1 : List Cond := [Cond.instanceMethod yX4_allInStores, Cond.selects RX4 yX4_allInStores yX4_allInStores, Cond.code yX4_allInStores cX4_allInStores 3 (some .int), Cond.methodLink RX9 337 yX3_allWaste, Cond.instanceMethod yX3_allWaste, Cond.selects RX3 yX3_allWaste yX3_allWaste, Cond.code yX3_allWaste cX3_allWaste 1 (some .int), Cond.methodLink RL 54 yL_cell, Cond.static yL_cell, Cond.code yL_cell cL_cell 2 (some .int), Cond.constant RL 7 37110107, Cond.methodLink RL 60 yL_low, Cond.static yL_low, Cond.code yL_low cL_low 2 (some .int), Cond.constant RL 8 2147483647, Cond.methodLink RL 70 yL_tryLay, Cond.static yL_tryLay, (Jvm.Cond.codeWith ({ cls := "SlickboomLaw", name := "tryLay", desc := "(LSlickboom;IIII)I" } : Jvm.MethodName) method_4_code (6 : Nat) (Option.some Jvm.ClassFile.FieldType.int) [((0 : Nat), (60 : Nat), (61 : Nat), (22 : Nat)), ((0 : Nat), (60 : Nat), (67 : Nat), (24 : Nat)), ((0 : Nat), (60 : Nat), (72 : Nat), (26 : Nat))]), Cond.classLink RL 22 "java/lang/IndexOutOfBoundsException", Cond.classLink RL 24 "java/lang/IllegalArgumentException", Cond.classLink RL 26 "java/lang/IllegalStateException", Cond.methodLink RL 9 yX9_boom, Cond.instanceMethod yX9_boom, Cond.selects RX9 yX9_boom yX9_boom, Cond.code yX9_boom cX9_boom 5 (some .int), Cond.methodLink RX9 164 yX4_boomOn, (Jvm.Cond.stringRef "Slickboom" (167 : Nat) "there is a BOOM on that border"), Cond.methodLink RL 15 yX9_skimmer, Cond.instanceMethod yX9_skimmer, Cond.selects RX9 yX9_skimmer yX9_skimmer, Cond.code yX9_skimmer cX9_skimmer 5 (some .int), Cond.methodLink RX9 102 yX9_needWater, (Jvm.Cond.privateMethod ({ cls := "Slickboom", name := "needWater", desc := "(I)V" } : Jvm.MethodName)), Cond.instanceMethod yX9_needWater, Cond.code yX9_needWater cX9_needWater 2 none, (Jvm.Cond.stringRef "Slickboom" (347 : Nat) "the CELL is a SHORE"), Cond.methodLink RL 18 yX9_ship, Cond.instanceMethod yX9_ship, Cond.selects RX9 yX9_ship yX9_ship, Cond.code yX9_ship cX9_ship 3 (some .int)]
def gc_3_2 : List Cond := [Cond.constant RX9 115 100000, (Jvm.Cond.stringRef "Slickboom" (119 : Nat) "there are 4 SHIPS"), Cond.methodLink RX9 121 yX8_add, Cond.instanceMethod yX8_add, Cond.selects RX8 yX8_add yX8_add, Cond.code yX8_add cX8_add 4 (some .int), Cond.methodLink RL 84 yL_tryMean, Cond.static yL_tryMean, (Jvm.Cond.codeWith ({ cls := "SlickboomLaw", name := "tryMean", desc := "(LSlickboom;III)I" } : Jvm.MethodName) method_5_code (5 : Nat) (Option.some Jvm.ClassFile.FieldType.int) [((0 : Nat), (32 : Nat), (33 : Nat), (22 : Nat)), ((0 : Nat), (32 : Nat), (39 : Nat), (26 : Nat))]), Cond.methodLink RL 28 yX9_clean, Cond.instanceMethod yX9_clean, Cond.selects RX9 yX9_clean yX9_clean, Cond.code yX9_clean cX9_clean 4 (some .int), Cond.methodLink RX9 186 yX9_needSort, (Jvm.Cond.privateMethod ({ cls := "Slickboom", name := "needSort", desc := "(II)V" } : Jvm.MethodName)), Cond.instanceMethod yX9_needSort, Cond.code yX9_needSort cX9_needSort 3 none, (Jvm.Cond.stringRef "Slickboom" (353 : Nat) "the mean is of another sort"), Cond.methodLink RX9 201 yX4_canWork, Cond.instanceMethod yX4_canWork, Cond.selects RX4 yX4_canWork yX4_canWork, Cond.code yX4_canWork cX4_canWork 3 (some .boolean), Cond.methodLink RX4 60 yX4_hasRested, (Jvm.Cond.privateMethod ({ cls := "Slickboom$Means", name := "hasRested", desc := "(II)Z" } : Jvm.MethodName)), Cond.instanceMethod yX4_hasRested, Cond.code yX4_hasRested cX4_hasRested 3 (some .boolean), (Jvm.Cond.stringRef "Slickboom" (205 : Nat) "the TEAM cannot clean"), Cond.methodLink RX9 207 yX4_noteWork, Cond.instanceMethod yX4_noteWork, Cond.selects RX4 yX4_noteWork yX4_noteWork, Cond.code yX4_noteWork cX4_noteWork 3 none, Cond.methodLink RX9 213 Lib.Math.min.name, Cond.methodLink RL 31 yX9_carry, Cond.instanceMethod yX9_carry, Cond.selects RX9 yX9_carry yX9_carry, Cond.code yX9_carry cX9_carry 3 (some .int), Cond.methodLink RL 35 yX9_move, Cond.instanceMethod yX9_move, Cond.selects RX9 yX9_move yX9_move, Cond.code yX9_move cX9_move 4 (some .int)]
def gc_3_3 : List Cond := [Cond.methodLink RL 91 yL_tryUse, Cond.static yL_tryUse, (Jvm.Cond.codeWith ({ cls := "SlickboomLaw", name := "tryUse", desc := "(LSlickboom;II)I" } : Jvm.MethodName) method_6_code (4 : Nat) (Option.some Jvm.ClassFile.FieldType.int) [((0 : Nat), (6 : Nat), (7 : Nat), (22 : Nat)), ((0 : Nat), (6 : Nat), (12 : Nat), (24 : Nat)), ((0 : Nat), (6 : Nat), (16 : Nat), (26 : Nat))]), Cond.methodLink RL 38 yX9_use, Cond.instanceMethod yX9_use, Cond.selects RX9 yX9_use yX9_use, Cond.code yX9_use cX9_use 3 (some .int), Cond.methodLink RX9 221 yX7_howMany, Cond.instanceMethod yX7_howMany, Cond.selects RX7 yX7_howMany yX7_howMany, Cond.code yX7_howMany cX7_howMany 5 (some .int), Cond.methodLink RX7 45 yX7_isAgainst, (Jvm.Cond.privateMethod ({ cls := "Slickboom$Rules", name := "isAgainst", desc := "(III)Z" } : Jvm.MethodName)), Cond.instanceMethod yX7_isAgainst, Cond.code yX7_isAgainst cX7_isAgainst 6 (some .boolean), Cond.methodLink RX7 30 yX0_hasLeakedWithin, Cond.instanceMethod yX0_hasLeakedWithin, Cond.selects RX0 yX0_hasLeakedWithin yX0_hasLeakedWithin, Cond.code yX0_hasLeakedWithin cX0_hasLeakedWithin 2 (some .boolean), Cond.methodLink RX7 41 yX2_isKindBeside, Cond.instanceMethod yX2_isKindBeside, Cond.selects RX2 yX2_isKindBeside yX2_isKindBeside, Cond.code yX2_isKindBeside cX2_isKindBeside 6 (some .boolean), (Jvm.Cond.stringRef "Slickboom" (224 : Nat) "a rule is against it"), Cond.methodLink RX9 226 yX0_disperse, Cond.instanceMethod yX0_disperse, Cond.selects RX0 yX0_disperse yX0_disperse, Cond.code yX0_disperse cX0_disperse 3 (some .int), Cond.methodLink RX9 230 yX0_burn, Cond.instanceMethod yX0_burn, Cond.selects RX0 yX0_burn yX0_burn, Cond.code yX0_burn cX0_burn 3 (some .int), Cond.methodLink RL 88 yL_tryWhy, Cond.static yL_tryWhy, (Jvm.Cond.codeWith ({ cls := "SlickboomLaw", name := "tryWhy", desc := "(LSlickboom;III)I" } : Jvm.MethodName) method_7_code (5 : Nat) (Option.some Jvm.ClassFile.FieldType.int) [((0 : Nat), (7 : Nat), (8 : Nat), (22 : Nat)), ((0 : Nat), (7 : Nat), (14 : Nat), (24 : Nat)), ((0 : Nat), (7 : Nat), (19 : Nat), (26 : Nat))]), Cond.methodLink RL 41 yX9_why, Cond.instanceMethod yX9_why, Cond.selects RX9 yX9_why yX9_why, Cond.code yX9_why cX9_why 4 (some .int), Cond.methodLink RX9 233 yX7_first]
def gc_3_4 : List Cond := [Cond.instanceMethod yX7_first, Cond.selects RX7 yX7_first yX7_first, Cond.code yX7_first cX7_first 4 (some .int), Cond.methodLink RX9 236 yX7_last, Cond.instanceMethod yX7_last, Cond.selects RX7 yX7_last yX7_last, Cond.code yX7_last cX7_last 4 (some .int), Cond.methodLink RL 104 yL_closes, Cond.static yL_closes, Cond.code yL_closes cL_closes 9 (some .boolean), Cond.methodLink RL 47 yX9_shipHas, Cond.instanceMethod yX9_shipHas, Cond.selects RX9 yX9_shipHas yX9_shipHas, Cond.code yX9_shipHas cX9_shipHas 2 (some .int), Cond.constant RL 69 99999, Cond.constant RL 108 900000, Cond.constant RL 112 2000000, (Jvm.Cond.sameMethod "java/lang/Throwable" "java/lang/Throwable" "fillInStackTrace" "(I)Ljava/lang/Throwable;")]
set_option maxRecDepth 100000 in
theorem tb_3 : tables_1_4 = gc_3_0 ++ (gc_3_1 ++ (gc_3_2 ++ (gc_3_3 ++ (gc_3_4)))) := rfl
theorem in_3_0 : ∀ w ∈ gc_3_0, w ∈ lw_tbl := fun w h => List.mem_append_right _ (show w ∈ tables_1 from List.mem_append_right _ (List.mem_append_right _ (List.mem_append_right _ ((show w ∈ tables_1_4 by rw [tb_3]; exact List.mem_append_left _ h)))))
theorem in_3_1 : ∀ w ∈ gc_3_1, w ∈ lw_tbl := fun w h => List.mem_append_right _ (show w ∈ tables_1 from List.mem_append_right _ (List.mem_append_right _ (List.mem_append_right _ ((show w ∈ tables_1_4 by rw [tb_3]; exact List.mem_append_right _ (List.mem_append_left _ h))))))
theorem in_3_2 : ∀ w ∈ gc_3_2, w ∈ lw_tbl := fun w h => List.mem_append_right _ (show w ∈ tables_1 from List.mem_append_right _ (List.mem_append_right _ (List.mem_append_right _ ((show w ∈ tables_1_4 by rw [tb_3]; exact List.mem_append_right _ (List.mem_append_right _ (List.mem_append_left _ h)))))))
theorem in_3_3 : ∀ w ∈ gc_3_3, w ∈ lw_tbl := fun w h => List.mem_append_right _ (show w ∈ tables_1 from List.mem_append_right _ (List.mem_append_right _ (List.mem_append_right _ ((show w ∈ tables_1_4 by rw [tb_3]; exact List.mem_append_right _ (List.mem_append_right _ (List.mem_append_right _ (List.mem_append_left _ h))))))))
theorem in_3_4 : ∀ w ∈ gc_3_4, w ∈ lw_tbl := fun w h => List.mem_append_right _ (show w ∈ tables_1 from List.mem_append_right _ (List.mem_append_right _ (List.mem_append_right _ ((show w ∈ tables_1_4 by rw [tb_3]; exact List.mem_append_right _ (List.mem_append_right _ (List.mem_append_right _ (List.mem_append_right _ (h)))))))))
theorem w0 : Cond.initialized RL ∈ Gw := gwc in_0_0 (i := 0) rfl rfl
theorem w1 : Cond.initialized RX9 ∈ Gw := gwc in_0_0 (i := 1) rfl rfl
theorem w2 : Cond.initialized RX0 ∈ Gw := gwc in_0_0 (i := 2) rfl rfl
theorem w3 : Cond.initialized RX2 ∈ Gw := gwc in_0_0 (i := 3) rfl rfl
theorem w4 : Cond.initialized RJ7 ∈ Gw := gwc in_0_0 (i := 4) rfl rfl
theorem w5 : Cond.initialized RX8 ∈ Gw := gwc in_0_0 (i := 5) rfl rfl
theorem w6 : Cond.initialized RX4 ∈ Gw := gwc in_0_0 (i := 6) rfl rfl
theorem w7 : Cond.initialized RX1 ∈ Gw := gwc in_0_0 (i := 7) rfl rfl
theorem w8 : Cond.initialized RX5 ∈ Gw := gwc in_0_0 (i := 8) rfl rfl
theorem w9 : Cond.initialized RX7 ∈ Gw := gwc in_0_0 (i := 9) rfl rfl
theorem w10 : Cond.initialized RX3 ∈ Gw := gwc in_0_0 (i := 10) rfl rfl
theorem w11 : Cond.initialized RX6 ∈ Gw := gwc in_0_0 (i := 11) rfl rfl
theorem w12 : Cond.initialized "java/lang/Throwable" ∈ Gw := gwc in_0_0 (i := 12) rfl rfl
theorem w13 : Cond.initialized "java/lang/Exception" ∈ Gw := gwc in_0_0 (i := 13) rfl rfl
theorem w14 : Cond.initialized "java/lang/RuntimeException" ∈ Gw := gwc in_0_0 (i := 14) rfl rfl
theorem w15 : Cond.initialized "java/lang/IndexOutOfBoundsException" ∈ Gw := gwc in_0_0 (i := 15) rfl rfl
theorem w16 : Cond.initialized "java/lang/IllegalArgumentException" ∈ Gw := gwc in_0_0 (i := 16) rfl rfl
theorem w17 : Cond.initialized "java/lang/IllegalStateException" ∈ Gw := gwc in_0_0 (i := 17) rfl rfl
theorem w18 : Cond.initialized RJ6 ∈ Gw := gwc in_0_0 (i := 18) rfl rfl
theorem w19 : Cond.initialized "java/lang/Math" ∈ Gw := gwc in_0_0 (i := 19) rfl rfl
theorem w20 : Cond.initialized "java/lang/System" ∈ Gw := gwc in_0_0 (i := 20) rfl rfl
theorem w21 : Cond.classLink RL 10 RX9 ∈ Gw := gwc in_0_0 (i := 21) rfl rfl
theorem w22 : Cond.instantiable RX9 6 ∈ Gw := gwc in_0_0 (i := 22) rfl rfl
theorem w23 : Cond.methodLink RL 53 yX9_init ∈ Gw := gwc in_0_0 (i := 23) rfl rfl
theorem w24 : Cond.instanceMethod yX9_init ∈ Gw := gwc in_0_0 (i := 24) rfl rfl
theorem w25 : Cond.code yX9_init cX9_init 1 none ∈ Gw := gwc in_0_0 (i := 25) rfl rfl
theorem w26 : Cond.methodLink RX9 3 objectInit ∈ Gw := gwc in_0_0 (i := 26) rfl rfl
theorem w27 : Cond.instanceMethod objectInit ∈ Gw := gwc in_0_0 (i := 27) rfl rfl
theorem w28 : Cond.code objectInit ⟨#[0xb1]⟩ 1 none ∈ Gw := gwc in_0_0 (i := 28) rfl rfl
theorem w29 : Cond.classLink RX9 9 RX0 ∈ Gw := gwc in_0_0 (i := 29) rfl rfl
theorem w30 : Cond.instantiable RX0 9 ∈ Gw := gwc in_0_0 (i := 30) rfl rfl
theorem w31 : Cond.methodLink RX9 11 yX0_init ∈ Gw := gwc in_0_0 (i := 31) rfl rfl
theorem w32 : Cond.instanceMethod yX0_init ∈ Gw := gwc in_0_0 (i := 32) rfl rfl
theorem w33 : Cond.code yX0_init cX0_init 1 none ∈ Gw := gwc in_0_0 (i := 33) rfl rfl
theorem w34 : Cond.methodLink RX0 3 objectInit ∈ Gw := gwc in_0_0 (i := 34) rfl rfl
theorem w35 : Cond.classLink RX0 9 RX2 ∈ Gw := gwc in_0_0 (i := 35) rfl rfl
theorem w36 : Cond.instantiable RX2 8 ∈ Gw := gwc in_0_0 (i := 36) rfl rfl
theorem w37 : Cond.methodLink RX0 11 yX2_init ∈ Gw := gwc in_0_0 (i := 37) rfl rfl
theorem w38 : Cond.instanceMethod yX2_init ∈ Gw := gwc in_0_0 (i := 38) rfl rfl
theorem w39 : Cond.code yX2_init cX2_init 1 none ∈ Gw := gwc in_0_0 (i := 39) rfl rfl
theorem w40 : Cond.methodLink RX2 3 objectInit ∈ Gw := gwc in_0_1 (i := 0) rfl rfl
theorem w41 : Cond.methodLink RX2 18 yJ7_fill_53178 ∈ Gw := gwc in_0_1 (i := 1) rfl rfl
theorem w42 : Cond.static yJ7_fill_53178 ∈ Gw := gwc in_0_1 (i := 2) rfl rfl
theorem w43 : Cond.code yJ7_fill_53178 cJ7_fill_53178 4 none ∈ Gw := gwc in_0_1 (i := 3) rfl rfl
theorem w44 : Cond.fieldLink RX2 9 RX2 "kind" "[I" ∈ Gw := gwc in_0_1 (i := 4) rfl rfl
theorem w45 : Cond.fieldLink RX9 93 RX2 "kind" "[I" ∈ Gw := gwc in_0_1 (i := 5) rfl rfl
theorem w46 : Cond.fieldLink RX2 15 RX2 "depth" "[I" ∈ Gw := gwc in_0_1 (i := 6) rfl rfl
theorem w47 : Cond.fieldLink RX7 21 RX2 "depth" "[I" ∈ Gw := gwc in_0_1 (i := 7) rfl rfl
theorem w48 : Cond.fieldLink RX9 106 RX2 "depth" "[I" ∈ Gw := gwc in_0_1 (i := 8) rfl rfl
theorem w49 : Cond.fieldLink RX2 24 RX2 "fresh" "[I" ∈ Gw := gwc in_0_1 (i := 9) rfl rfl
theorem w50 : Cond.fieldLink RX7 27 RX2 "fresh" "[I" ∈ Gw := gwc in_0_1 (i := 10) rfl rfl
theorem w51 : Cond.fieldLink RX5 74 RX2 "fresh" "[I" ∈ Gw := gwc in_0_1 (i := 11) rfl rfl
theorem w52 : Cond.fieldLink RX0 98 RX2 "fresh" "[I" ∈ Gw := gwc in_0_1 (i := 12) rfl rfl
theorem w53 : Cond.fieldLink RX9 143 RX2 "fresh" "[I" ∈ Gw := gwc in_0_1 (i := 13) rfl rfl
theorem w54 : Cond.fieldLink RX2 27 RX2 "thick" "[I" ∈ Gw := gwc in_0_1 (i := 14) rfl rfl
theorem w55 : Cond.fieldLink RX7 34 RX2 "thick" "[I" ∈ Gw := gwc in_0_1 (i := 15) rfl rfl
theorem w56 : Cond.fieldLink RX5 81 RX2 "thick" "[I" ∈ Gw := gwc in_0_1 (i := 16) rfl rfl
theorem w57 : Cond.fieldLink RX0 111 RX2 "thick" "[I" ∈ Gw := gwc in_0_1 (i := 17) rfl rfl
theorem w58 : Cond.fieldLink RX9 146 RX2 "thick" "[I" ∈ Gw := gwc in_0_1 (i := 18) rfl rfl
theorem w59 : Cond.fieldLink RX2 30 RX2 "stranded" "[I" ∈ Gw := gwc in_0_1 (i := 19) rfl rfl
theorem w60 : Cond.fieldLink RX5 130 RX2 "stranded" "[I" ∈ Gw := gwc in_0_1 (i := 20) rfl rfl
theorem w61 : Cond.fieldLink RX9 149 RX2 "stranded" "[I" ∈ Gw := gwc in_0_1 (i := 21) rfl rfl
theorem w62 : Cond.fieldLink RX0 158 RX2 "stranded" "[I" ∈ Gw := gwc in_0_1 (i := 22) rfl rfl
theorem w63 : Cond.fieldLink RX2 33 RX2 "birds" "[I" ∈ Gw := gwc in_0_1 (i := 23) rfl rfl
theorem w64 : Cond.fieldLink RX9 152 RX2 "birds" "[I" ∈ Gw := gwc in_0_1 (i := 24) rfl rfl
theorem w65 : Cond.fieldLink RX2 36 RX2 "oiled" "[I" ∈ Gw := gwc in_0_1 (i := 25) rfl rfl
theorem w66 : Cond.fieldLink RX9 155 RX2 "oiled" "[I" ∈ Gw := gwc in_0_1 (i := 26) rfl rfl
theorem w67 : Cond.fieldLink RX2 39 RX2 "signatures" "[I" ∈ Gw := gwc in_0_1 (i := 27) rfl rfl
theorem w68 : Cond.fieldLink RX9 158 RX2 "signatures" "[I" ∈ Gw := gwc in_0_1 (i := 28) rfl rfl
theorem w69 : Cond.fieldLink RX0 185 RX2 "signatures" "[I" ∈ Gw := gwc in_0_1 (i := 29) rfl rfl
theorem w87 : Cond.arrayClass .int ∈ Gw := gwc in_0_2 (i := 7) rfl rfl
theorem w88 : Cond.classLink RX0 18 RX8 ∈ Gw := gwc in_0_2 (i := 8) rfl rfl
theorem w89 : Cond.instantiable RX8 4 ∈ Gw := gwc in_0_2 (i := 9) rfl rfl
theorem w90 : Cond.methodLink RX0 20 yX8_init ∈ Gw := gwc in_0_2 (i := 10) rfl rfl
theorem w91 : Cond.instanceMethod yX8_init ∈ Gw := gwc in_0_2 (i := 11) rfl rfl
theorem w92 : Cond.code yX8_init cX8_init 1 none ∈ Gw := gwc in_0_2 (i := 12) rfl rfl
theorem w93 : Cond.methodLink RX8 3 objectInit ∈ Gw := gwc in_0_2 (i := 13) rfl rfl
theorem w94 : Cond.fieldLink RX8 21 RX8 "count" "I" ∈ Gw := gwc in_0_2 (i := 14) rfl rfl
theorem w95 : Cond.fieldLink RX0 88 RX8 "count" "I" ∈ Gw := gwc in_0_2 (i := 15) rfl rfl
theorem w96 : Cond.fieldLink RX9 116 RX8 "count" "I" ∈ Gw := gwc in_0_2 (i := 16) rfl rfl
theorem w97 : Cond.fieldLink RX5 112 RX8 "count" "I" ∈ Gw := gwc in_0_2 (i := 17) rfl rfl
theorem w98 : Cond.fieldLink RX8 9 RX8 "cell" "[I" ∈ Gw := gwc in_0_2 (i := 18) rfl rfl
theorem w99 : Cond.fieldLink RX0 101 RX8 "cell" "[I" ∈ Gw := gwc in_0_2 (i := 19) rfl rfl
theorem w100 : Cond.fieldLink RX5 117 RX8 "cell" "[I" ∈ Gw := gwc in_0_2 (i := 20) rfl rfl
theorem w101 : Cond.fieldLink RX8 15 RX8 "litres" "[I" ∈ Gw := gwc in_0_2 (i := 21) rfl rfl
theorem w102 : Cond.fieldLink RX0 95 RX8 "litres" "[I" ∈ Gw := gwc in_0_2 (i := 22) rfl rfl
theorem w103 : Cond.fieldLink RX9 133 RX8 "litres" "[I" ∈ Gw := gwc in_0_2 (i := 23) rfl rfl
theorem w104 : Cond.fieldLink RX8 18 RX8 "rate" "[I" ∈ Gw := gwc in_0_2 (i := 24) rfl rfl
theorem w105 : Cond.fieldLink RX9 125 RX8 "rate" "[I" ∈ Gw := gwc in_0_2 (i := 25) rfl rfl
theorem w115 : Cond.classLink RX0 25 RX4 ∈ Gw := gwc in_0_2 (i := 35) rfl rfl
theorem w116 : Cond.instantiable RX4 9 ∈ Gw := gwc in_0_2 (i := 36) rfl rfl
theorem w117 : Cond.methodLink RX0 27 yX4_init ∈ Gw := gwc in_0_2 (i := 37) rfl rfl
theorem w118 : Cond.instanceMethod yX4_init ∈ Gw := gwc in_0_2 (i := 38) rfl rfl
theorem w119 : Cond.code yX4_init cX4_init 1 none ∈ Gw := gwc in_0_2 (i := 39) rfl rfl
theorem w120 : Cond.methodLink RX4 3 objectInit ∈ Gw := gwc in_0_3 (i := 0) rfl rfl
theorem w121 : Cond.fieldLink RX4 37 RX4 "count" "I" ∈ Gw := gwc in_0_3 (i := 1) rfl rfl
theorem w122 : Cond.fieldLink RX5 133 RX4 "count" "I" ∈ Gw := gwc in_0_3 (i := 2) rfl rfl
theorem w123 : Cond.fieldLink RX0 167 RX4 "count" "I" ∈ Gw := gwc in_0_3 (i := 3) rfl rfl
theorem w124 : Cond.fieldLink RX9 185 RX4 "count" "I" ∈ Gw := gwc in_0_3 (i := 4) rfl rfl
theorem w125 : Cond.fieldLink RX4 9 RX4 "sort" "[I" ∈ Gw := gwc in_0_3 (i := 5) rfl rfl
theorem w126 : Cond.fieldLink RX0 168 RX4 "sort" "[I" ∈ Gw := gwc in_0_3 (i := 6) rfl rfl
theorem w127 : Cond.fieldLink RX9 218 RX4 "sort" "[I" ∈ Gw := gwc in_0_3 (i := 7) rfl rfl
theorem w128 : Cond.fieldLink RX4 15 RX4 "cell" "[I" ∈ Gw := gwc in_0_3 (i := 8) rfl rfl
theorem w129 : Cond.fieldLink RX0 171 RX4 "cell" "[I" ∈ Gw := gwc in_0_3 (i := 9) rfl rfl
theorem w130 : Cond.fieldLink RX9 189 RX4 "cell" "[I" ∈ Gw := gwc in_0_3 (i := 10) rfl rfl
theorem w131 : Cond.fieldLink RX4 18 RX4 "way" "[I" ∈ Gw := gwc in_0_3 (i := 11) rfl rfl
theorem w132 : Cond.fieldLink RX9 175 RX4 "way" "[I" ∈ Gw := gwc in_0_3 (i := 12) rfl rfl
theorem w133 : Cond.fieldLink RX4 21 RX4 "power" "[I" ∈ Gw := gwc in_0_3 (i := 13) rfl rfl
theorem w134 : Cond.fieldLink RX5 96 RX4 "power" "[I" ∈ Gw := gwc in_0_3 (i := 14) rfl rfl
theorem w135 : Cond.fieldLink RX0 136 RX4 "power" "[I" ∈ Gw := gwc in_0_3 (i := 15) rfl rfl
theorem w136 : Cond.fieldLink RX9 210 RX4 "power" "[I" ∈ Gw := gwc in_0_3 (i := 16) rfl rfl
theorem w137 : Cond.fieldLink RX4 24 RX4 "store" "[I" ∈ Gw := gwc in_0_3 (i := 17) rfl rfl
theorem w138 : Cond.fieldLink RX9 178 RX4 "store" "[I" ∈ Gw := gwc in_0_3 (i := 18) rfl rfl
theorem w139 : Cond.fieldLink RX4 27 RX4 "tally" "[I" ∈ Gw := gwc in_0_3 (i := 19) rfl rfl
theorem w140 : Cond.fieldLink RX0 139 RX4 "tally" "[I" ∈ Gw := gwc in_0_3 (i := 20) rfl rfl
theorem w141 : Cond.fieldLink RX9 192 RX4 "tally" "[I" ∈ Gw := gwc in_0_3 (i := 21) rfl rfl
theorem w142 : Cond.fieldLink RX4 30 RX4 "taught" "[Z" ∈ Gw := gwc in_0_3 (i := 22) rfl rfl
theorem w143 : Cond.fieldLink RX9 181 RX4 "taught" "[Z" ∈ Gw := gwc in_0_3 (i := 23) rfl rfl
theorem w144 : Cond.fieldLink RX4 34 RX4 "lastWork" "[I" ∈ Gw := gwc in_0_3 (i := 24) rfl rfl
theorem w164 : Cond.arrayClass .boolean ∈ Gw := gwc in_0_4 (i := 4) rfl rfl
theorem w165 : Cond.classLink RX0 32 RX1 ∈ Gw := gwc in_0_4 (i := 5) rfl rfl
theorem w166 : Cond.instantiable RX1 7 ∈ Gw := gwc in_0_4 (i := 6) rfl rfl
theorem w167 : Cond.methodLink RX0 34 yX1_init ∈ Gw := gwc in_0_4 (i := 7) rfl rfl
theorem w168 : Cond.instanceMethod yX1_init ∈ Gw := gwc in_0_4 (i := 8) rfl rfl
theorem w169 : Cond.code yX1_init cX1_init 1 none ∈ Gw := gwc in_0_4 (i := 9) rfl rfl
theorem w170 : Cond.methodLink RX1 3 objectInit ∈ Gw := gwc in_0_4 (i := 10) rfl rfl
theorem w171 : Cond.fieldLink RX1 15 RX1 "leaked" "I" ∈ Gw := gwc in_0_4 (i := 11) rfl rfl
theorem w172 : Cond.fieldLink RX9 304 RX1 "leaked" "I" ∈ Gw := gwc in_0_4 (i := 12) rfl rfl
theorem w173 : Cond.fieldLink RX1 9 RX1 "firstLeak" "I" ∈ Gw := gwc in_0_4 (i := 13) rfl rfl
theorem w174 : Cond.fieldLink RX0 194 RX1 "firstLeak" "I" ∈ Gw := gwc in_0_4 (i := 14) rfl rfl
theorem w175 : Cond.fieldLink RX0 108 RX1 "air" "I" ∈ Gw := gwc in_0_4 (i := 15) rfl rfl
theorem w176 : Cond.fieldLink RX9 316 RX1 "air" "I" ∈ Gw := gwc in_0_4 (i := 16) rfl rfl
theorem w177 : Cond.fieldLink RX0 114 RX1 "sunk" "I" ∈ Gw := gwc in_0_4 (i := 17) rfl rfl
theorem w178 : Cond.fieldLink RX9 319 RX1 "sunk" "I" ∈ Gw := gwc in_0_4 (i := 18) rfl rfl
theorem w179 : Cond.fieldLink RX0 155 RX1 "out" "I" ∈ Gw := gwc in_0_4 (i := 19) rfl rfl
theorem w180 : Cond.fieldLink RX9 322 RX1 "out" "I" ∈ Gw := gwc in_0_4 (i := 20) rfl rfl
theorem w181 : Cond.fieldLink RX0 188 RX1 "deep" "I" ∈ Gw := gwc in_0_4 (i := 21) rfl rfl
theorem w182 : Cond.fieldLink RX9 331 RX1 "deep" "I" ∈ Gw := gwc in_0_4 (i := 22) rfl rfl
theorem w183 : Cond.fieldLink RX0 191 RX1 "burnt" "I" ∈ Gw := gwc in_0_4 (i := 23) rfl rfl
theorem w184 : Cond.fieldLink RX9 334 RX1 "burnt" "I" ∈ Gw := gwc in_0_4 (i := 24) rfl rfl
theorem w200 : Cond.fieldLink RX0 12 RX0 "cells" "LSlickboom$Cells;" ∈ Gw := gwc in_0_5 (i := 0) rfl rfl
theorem w201 : Cond.fieldLink RX7 15 RX0 "cells" "LSlickboom$Cells;" ∈ Gw := gwc in_0_5 (i := 1) rfl rfl
theorem w202 : Cond.fieldLink RX9 89 RX0 "cells" "LSlickboom$Cells;" ∈ Gw := gwc in_0_5 (i := 2) rfl rfl
theorem w203 : Cond.fieldLink RX5 56 RX0 "cells" "LSlickboom$Cells;" ∈ Gw := gwc in_0_5 (i := 3) rfl rfl
theorem w204 : Cond.fieldLink RX0 21 RX0 "ships" "LSlickboom$Ships;" ∈ Gw := gwc in_0_5 (i := 4) rfl rfl
theorem w205 : Cond.fieldLink RX9 68 RX0 "ships" "LSlickboom$Ships;" ∈ Gw := gwc in_0_5 (i := 5) rfl rfl
theorem w206 : Cond.fieldLink RX5 108 RX0 "ships" "LSlickboom$Ships;" ∈ Gw := gwc in_0_5 (i := 6) rfl rfl
theorem w207 : Cond.fieldLink RX0 28 RX0 "means" "LSlickboom$Means;" ∈ Gw := gwc in_0_5 (i := 7) rfl rfl
theorem w208 : Cond.fieldLink RX9 78 RX0 "means" "LSlickboom$Means;" ∈ Gw := gwc in_0_5 (i := 8) rfl rfl
theorem w209 : Cond.fieldLink RX5 84 RX0 "means" "LSlickboom$Means;" ∈ Gw := gwc in_0_5 (i := 9) rfl rfl
theorem w210 : Cond.fieldLink RX0 35 RX0 "books" "LSlickboom$Books;" ∈ Gw := gwc in_0_5 (i := 10) rfl rfl
theorem w211 : Cond.fieldLink RX9 300 RX0 "books" "LSlickboom$Books;" ∈ Gw := gwc in_0_5 (i := 11) rfl rfl
theorem w212 : Cond.fieldLink RX9 57 RX0 "hour" "I" ∈ Gw := gwc in_0_5 (i := 12) rfl rfl
theorem w213 : Cond.fieldLink RX0 60 RX0 "hour" "I" ∈ Gw := gwc in_0_5 (i := 13) rfl rfl
theorem w214 : Cond.fieldLink RX5 68 RX0 "hour" "I" ∈ Gw := gwc in_0_5 (i := 14) rfl rfl
theorem w215 : Cond.fieldLink RX0 39 RX0 "windWay" "I" ∈ Gw := gwc in_0_5 (i := 15) rfl rfl
theorem w216 : Cond.fieldLink RX9 109 RX0 "windWay" "I" ∈ Gw := gwc in_0_5 (i := 16) rfl rfl
theorem w217 : Cond.fieldLink RX5 88 RX0 "windWay" "I" ∈ Gw := gwc in_0_5 (i := 17) rfl rfl
theorem w218 : Cond.fieldLink RX0 63 RX0 "windStrength" "I" ∈ Gw := gwc in_0_5 (i := 18) rfl rfl
theorem w219 : Cond.fieldLink RX7 37 RX0 "windStrength" "I" ∈ Gw := gwc in_0_5 (i := 19) rfl rfl
theorem w220 : Cond.fieldLink RX9 112 RX0 "windStrength" "I" ∈ Gw := gwc in_0_5 (i := 20) rfl rfl
theorem w221 : Cond.fieldLink RX5 99 RX0 "windStrength" "I" ∈ Gw := gwc in_0_5 (i := 21) rfl rfl
theorem w222 : Cond.fieldLink RX0 43 RX0 "freshGoes" "[I" ∈ Gw := gwc in_0_5 (i := 22) rfl rfl
theorem w223 : Cond.fieldLink RX0 47 RX0 "thickGoes" "[I" ∈ Gw := gwc in_0_5 (i := 23) rfl rfl
theorem w243 : Cond.classLink RX9 19 RX5 ∈ Gw := gwc in_1_0 (i := 3) rfl rfl
theorem w244 : Cond.instantiable RX5 5 ∈ Gw := gwc in_1_0 (i := 4) rfl rfl
theorem w245 : Cond.methodLink RX9 21 yX5_init ∈ Gw := gwc in_1_0 (i := 5) rfl rfl
theorem w246 : Cond.instanceMethod yX5_init ∈ Gw := gwc in_1_0 (i := 6) rfl rfl
theorem w247 : Cond.code yX5_init cX5_init 2 none ∈ Gw := gwc in_1_0 (i := 7) rfl rfl
theorem w248 : Cond.methodLink RX5 3 objectInit ∈ Gw := gwc in_1_0 (i := 8) rfl rfl
theorem w249 : Cond.fieldLink RX5 9 RX5 "bay" "LSlickboom$Bay;" ∈ Gw := gwc in_1_0 (i := 9) rfl rfl
theorem w250 : Cond.fieldLink RX5 19 RX5 "freshHas" "I" ∈ Gw := gwc in_1_0 (i := 10) rfl rfl
theorem w251 : Cond.fieldLink RX5 26 RX5 "thickHas" "I" ∈ Gw := gwc in_1_0 (i := 11) rfl rfl
theorem w252 : Cond.fieldLink RX5 23 RX5 "freshGoes" "I" ∈ Gw := gwc in_1_0 (i := 12) rfl rfl
theorem w253 : Cond.fieldLink RX5 29 RX5 "thickGoes" "I" ∈ Gw := gwc in_1_0 (i := 13) rfl rfl
theorem w265 : Cond.classLink RX9 28 RX7 ∈ Gw := gwc in_1_0 (i := 25) rfl rfl
theorem w266 : Cond.instantiable RX7 1 ∈ Gw := gwc in_1_0 (i := 26) rfl rfl
theorem w267 : Cond.methodLink RX9 30 yX7_init ∈ Gw := gwc in_1_0 (i := 27) rfl rfl
theorem w268 : Cond.instanceMethod yX7_init ∈ Gw := gwc in_1_0 (i := 28) rfl rfl
theorem w269 : Cond.code yX7_init cX7_init 2 none ∈ Gw := gwc in_1_0 (i := 29) rfl rfl
theorem w270 : Cond.methodLink RX7 3 objectInit ∈ Gw := gwc in_1_0 (i := 30) rfl rfl
theorem w271 : Cond.fieldLink RX7 9 RX7 "bay" "LSlickboom$Bay;" ∈ Gw := gwc in_1_0 (i := 31) rfl rfl
theorem w275 : Cond.classLink RX9 35 RX3 ∈ Gw := gwc in_1_0 (i := 35) rfl rfl
theorem w276 : Cond.instantiable RX3 4 ∈ Gw := gwc in_1_0 (i := 36) rfl rfl
theorem w277 : Cond.methodLink RX9 37 yX3_init ∈ Gw := gwc in_1_0 (i := 37) rfl rfl
theorem w278 : Cond.instanceMethod yX3_init ∈ Gw := gwc in_1_0 (i := 38) rfl rfl
theorem w279 : Cond.code yX3_init cX3_init 1 none ∈ Gw := gwc in_1_0 (i := 39) rfl rfl
theorem w280 : Cond.methodLink RX3 3 objectInit ∈ Gw := gwc in_1_1 (i := 0) rfl rfl
theorem w281 : Cond.fieldLink RX3 9 RX3 "waste" "[I" ∈ Gw := gwc in_1_1 (i := 1) rfl rfl
theorem w282 : Cond.fieldLink RX9 195 RX3 "waste" "[I" ∈ Gw := gwc in_1_1 (i := 2) rfl rfl
theorem w283 : Cond.fieldLink RX3 15 RX3 "room" "[I" ∈ Gw := gwc in_1_1 (i := 3) rfl rfl
theorem w284 : Cond.fieldLink RX3 22 RX3 "delivered" "I" ∈ Gw := gwc in_1_1 (i := 4) rfl rfl
theorem w294 : Cond.classLink RX9 42 RX6 ∈ Gw := gwc in_1_1 (i := 14) rfl rfl
theorem w295 : Cond.instantiable RX6 5 ∈ Gw := gwc in_1_1 (i := 15) rfl rfl
theorem w296 : Cond.methodLink RX9 44 yX6_init ∈ Gw := gwc in_1_1 (i := 16) rfl rfl
theorem w297 : Cond.instanceMethod yX6_init ∈ Gw := gwc in_1_1 (i := 17) rfl rfl
theorem w298 : Cond.code yX6_init cX6_init 1 none ∈ Gw := gwc in_1_1 (i := 18) rfl rfl
theorem w299 : Cond.methodLink RX6 3 objectInit ∈ Gw := gwc in_1_1 (i := 19) rfl rfl
theorem w300 : Cond.fieldLink RX6 15 RX6 "count" "I" ∈ Gw := gwc in_1_1 (i := 20) rfl rfl
theorem w301 : Cond.fieldLink RX9 265 RX6 "count" "I" ∈ Gw := gwc in_1_1 (i := 21) rfl rfl
theorem w302 : Cond.fieldLink RX6 23 RX6 "owner" "I" ∈ Gw := gwc in_1_1 (i := 22) rfl rfl
theorem w303 : Cond.fieldLink RX9 271 RX6 "owner" "I" ∈ Gw := gwc in_1_1 (i := 23) rfl rfl
theorem w304 : Cond.fieldLink RX6 26 RX6 "fund" "I" ∈ Gw := gwc in_1_1 (i := 24) rfl rfl
theorem w305 : Cond.fieldLink RX9 274 RX6 "fund" "I" ∈ Gw := gwc in_1_1 (i := 25) rfl rfl
theorem w306 : Cond.fieldLink RX6 19 RX6 "all" "J" ∈ Gw := gwc in_1_1 (i := 26) rfl rfl
theorem w307 : Cond.fieldLink RX6 9 RX6 "cents" "[I" ∈ Gw := gwc in_1_1 (i := 27) rfl rfl
theorem w319 : Cond.fieldLink RX9 12 RX9 "bay" "LSlickboom$Bay;" ∈ Gw := gwc in_1_1 (i := 39) rfl rfl
theorem w320 : Cond.fieldLink RX9 16 RX9 "trial" "LSlickboom$Bay;" ∈ Gw := gwc in_1_2 (i := 0) rfl rfl
theorem w321 : Cond.fieldLink RX9 24 RX9 "nextHour" "LSlickboom$NextHour;" ∈ Gw := gwc in_1_2 (i := 1) rfl rfl
theorem w322 : Cond.fieldLink RX9 31 RX9 "rules" "LSlickboom$Rules;" ∈ Gw := gwc in_1_2 (i := 2) rfl rfl
theorem w323 : Cond.fieldLink RX9 38 RX9 "dump" "LSlickboom$Dump;" ∈ Gw := gwc in_1_2 (i := 3) rfl rfl
theorem w324 : Cond.fieldLink RX9 45 RX9 "payers" "LSlickboom$Payers;" ∈ Gw := gwc in_1_2 (i := 4) rfl rfl
theorem w338 : Cond.methodLink RL 63 yX9_shore ∈ Gw := gwc in_1_2 (i := 18) rfl rfl
theorem w339 : Cond.instanceMethod yX9_shore ∈ Gw := gwc in_1_2 (i := 19) rfl rfl
theorem w340 : Cond.selects RX9 yX9_shore yX9_shore ∈ Gw := gwc in_1_2 (i := 20) rfl rfl
theorem w341 : Cond.code yX9_shore cX9_shore 4 (some .int) ∈ Gw := gwc in_1_2 (i := 21) rfl rfl
theorem w342 : Cond.methodLink RX9 49 yX9_needNumber ∈ Gw := gwc in_1_2 (i := 22) rfl rfl
theorem w343 : Cond.static yX9_needNumber ∈ Gw := gwc in_1_2 (i := 23) rfl rfl
theorem w344 : Cond.code yX9_needNumber cX9_needNumber 2 none ∈ Gw := gwc in_1_2 (i := 24) rfl rfl
theorem w345 : Cond.classLink RX9 340 "java/lang/IndexOutOfBoundsException" ∈ Gw := gwc in_1_2 (i := 25) rfl rfl
theorem w346 : Cond.instantiable "java/lang/IndexOutOfBoundsException" 6 ∈ Gw := gwc in_1_2 (i := 26) rfl rfl
theorem w366 : Cond.fieldLink "java/lang/Throwable" 198 "java/lang/Throwable" "backtrace" "Ljava/lang/Object;" ∈ Gw := gwc in_1_3 (i := 6) rfl rfl
theorem w368 : Cond.instanceMethod ⟨"java/lang/Throwable", "<init>", "()V"⟩ ∈ Gw := gwc in_1_3 (i := 8) rfl rfl
theorem w370 : Cond.methodLink "java/lang/Throwable" 1 objectInit ∈ Gw := gwc in_1_3 (i := 10) rfl rfl
theorem w371 : Cond.fieldLink "java/lang/Throwable" 13 "java/lang/Throwable" "UNASSIGNED_STACK" "[Ljava/lang/StackTraceElement;" ∈ Gw := gwc in_1_3 (i := 11) rfl rfl
theorem w373 : Cond.fieldLink "java/lang/Throwable" 20 "java/lang/Throwable" "SUPPRESSED_SENTINEL" "Ljava/util/List;" ∈ Gw := gwc in_1_3 (i := 13) rfl rfl
theorem w375 : Cond.methodLink "java/lang/Throwable" 27 ⟨"java/lang/Throwable", "fillInStackTrace", "()Ljava/lang/Throwable;"⟩ ∈ Gw := gwc in_1_3 (i := 15) rfl rfl
theorem w376 : Cond.instanceMethod ⟨"java/lang/Throwable", "fillInStackTrace", "()Ljava/lang/Throwable;"⟩ ∈ Gw := gwc in_1_3 (i := 16) rfl rfl
theorem w381 : Cond.methodLink "java/lang/Throwable" 202 ⟨"java/lang/Throwable", "fillInStackTrace", "(I)Ljava/lang/Throwable;"⟩ ∈ Gw := gwc in_1_3 (i := 21) rfl rfl
theorem w383 : Cond.instanceMethod ⟨"java/lang/Throwable", "fillInStackTrace", "(I)Ljava/lang/Throwable;"⟩ ∈ Gw := gwc in_1_3 (i := 23) rfl rfl
theorem w384 : Cond.instantiable "java/lang/Throwable" 6 ∈ Gw := gwc in_1_3 (i := 24) rfl rfl
theorem w385 : Cond.native ⟨"java/lang/Throwable", "fillInStackTrace", "(I)Ljava/lang/Throwable;"⟩ ∈ Gw := gwc in_1_3 (i := 25) rfl rfl
theorem w387 : Cond.methodLink RX9 344 ⟨"java/lang/IndexOutOfBoundsException", "<init>", "(Ljava/lang/String;)V"⟩ ∈ Gw := gwc in_1_3 (i := 27) rfl rfl
theorem w388 : Cond.instanceMethod ⟨"java/lang/IndexOutOfBoundsException", "<init>", "(Ljava/lang/String;)V"⟩ ∈ Gw := gwc in_1_3 (i := 28) rfl rfl
theorem w390 : Cond.methodLink "java/lang/IndexOutOfBoundsException" 7 ⟨"java/lang/RuntimeException", "<init>", "(Ljava/lang/String;)V"⟩ ∈ Gw := gwc in_1_3 (i := 30) rfl rfl
theorem w391 : Cond.instanceMethod ⟨"java/lang/RuntimeException", "<init>", "(Ljava/lang/String;)V"⟩ ∈ Gw := gwc in_1_3 (i := 31) rfl rfl
theorem w393 : Cond.methodLink "java/lang/RuntimeException" 7 ⟨"java/lang/Exception", "<init>", "(Ljava/lang/String;)V"⟩ ∈ Gw := gwc in_1_3 (i := 33) rfl rfl
theorem w394 : Cond.instanceMethod ⟨"java/lang/Exception", "<init>", "(Ljava/lang/String;)V"⟩ ∈ Gw := gwc in_1_3 (i := 34) rfl rfl
theorem w396 : Cond.methodLink "java/lang/Exception" 7 ⟨"java/lang/Throwable", "<init>", "(Ljava/lang/String;)V"⟩ ∈ Gw := gwc in_1_3 (i := 36) rfl rfl
theorem w397 : Cond.instanceMethod ⟨"java/lang/Throwable", "<init>", "(Ljava/lang/String;)V"⟩ ∈ Gw := gwc in_1_3 (i := 37) rfl rfl
theorem w400 : Cond.fieldLink "java/lang/Throwable" 31 "java/lang/Throwable" "detailMessage" "Ljava/lang/String;" ∈ Gw := gwc in_1_4 (i := 0) rfl rfl
theorem w401 : Cond.fieldLink "java/lang/Throwable" 7 "java/lang/Throwable" "cause" "Ljava/lang/Throwable;" ∈ Gw := gwc in_1_4 (i := 1) rfl rfl
theorem w402 : Cond.fieldLink "java/lang/Throwable" 17 "java/lang/Throwable" "stackTrace" "[Ljava/lang/StackTraceElement;" ∈ Gw := gwc in_1_4 (i := 2) rfl rfl
theorem w403 : Cond.fieldLink "java/lang/Throwable" 24 "java/lang/Throwable" "suppressedExceptions" "Ljava/util/List;" ∈ Gw := gwc in_1_4 (i := 3) rfl rfl
theorem w412 : Cond.arrayClass .byte ∈ Gw := gwc in_1_4 (i := 12) rfl rfl
theorem w413 : Cond.methodLink RX9 53 yX9_needRange ∈ Gw := gwc in_1_4 (i := 13) rfl rfl
theorem w414 : Cond.static yX9_needRange ∈ Gw := gwc in_1_4 (i := 14) rfl rfl
theorem w415 : Cond.code yX9_needRange cX9_needRange 3 none ∈ Gw := gwc in_1_4 (i := 15) rfl rfl
theorem w416 : Cond.classLink RX9 128 "java/lang/IllegalArgumentException" ∈ Gw := gwc in_1_4 (i := 16) rfl rfl
theorem w417 : Cond.instantiable "java/lang/IllegalArgumentException" 6 ∈ Gw := gwc in_1_4 (i := 17) rfl rfl
theorem w426 : Cond.methodLink RX9 132 ⟨"java/lang/IllegalArgumentException", "<init>", "(Ljava/lang/String;)V"⟩ ∈ Gw := gwc in_1_4 (i := 26) rfl rfl
theorem w427 : Cond.instanceMethod ⟨"java/lang/IllegalArgumentException", "<init>", "(Ljava/lang/String;)V"⟩ ∈ Gw := gwc in_1_4 (i := 27) rfl rfl
theorem w429 : Cond.methodLink "java/lang/IllegalArgumentException" 7 ⟨"java/lang/RuntimeException", "<init>", "(Ljava/lang/String;)V"⟩ ∈ Gw := gwc in_1_4 (i := 29) rfl rfl
theorem w432 : Cond.classLink RX9 61 "java/lang/IllegalStateException" ∈ Gw := gwc in_1_4 (i := 32) rfl rfl
theorem w433 : Cond.instantiable "java/lang/IllegalStateException" 6 ∈ Gw := gwc in_1_4 (i := 33) rfl rfl
theorem w442 : Cond.methodLink RX9 65 ⟨"java/lang/IllegalStateException", "<init>", "(Ljava/lang/String;)V"⟩ ∈ Gw := gwc in_1_5 (i := 2) rfl rfl
theorem w443 : Cond.instanceMethod ⟨"java/lang/IllegalStateException", "<init>", "(Ljava/lang/String;)V"⟩ ∈ Gw := gwc in_1_5 (i := 3) rfl rfl
theorem w445 : Cond.methodLink "java/lang/IllegalStateException" 7 ⟨"java/lang/RuntimeException", "<init>", "(Ljava/lang/String;)V"⟩ ∈ Gw := gwc in_1_5 (i := 5) rfl rfl
theorem w448 : Cond.methodLink RX9 72 yX8_isAnyAt ∈ Gw := gwc in_1_5 (i := 8) rfl rfl
theorem w449 : Cond.instanceMethod yX8_isAnyAt ∈ Gw := gwc in_1_5 (i := 9) rfl rfl
theorem w450 : Cond.selects RX8 yX8_isAnyAt yX8_isAnyAt ∈ Gw := gwc in_1_5 (i := 10) rfl rfl
theorem w451 : Cond.code yX8_isAnyAt cX8_isAnyAt 3 (some .boolean) ∈ Gw := gwc in_1_5 (i := 11) rfl rfl
theorem w452 : Cond.methodLink RX9 82 yX4_isSkimmerAt ∈ Gw := gwc in_1_5 (i := 12) rfl rfl
theorem w453 : Cond.instanceMethod yX4_isSkimmerAt ∈ Gw := gwc in_1_5 (i := 13) rfl rfl
theorem w454 : Cond.selects RX4 yX4_isSkimmerAt yX4_isSkimmerAt ∈ Gw := gwc in_1_5 (i := 14) rfl rfl
theorem w455 : Cond.code yX4_isSkimmerAt cX4_isSkimmerAt 3 (some .boolean) ∈ Gw := gwc in_1_5 (i := 15) rfl rfl
theorem w456 : Cond.methodLink RX4 41 yX4_isSkimmer ∈ Gw := gwc in_1_5 (i := 16) rfl rfl
theorem w457 : Cond.instanceMethod yX4_isSkimmer ∈ Gw := gwc in_1_5 (i := 17) rfl rfl
theorem w458 : Cond.selects RX4 yX4_isSkimmer yX4_isSkimmer ∈ Gw := gwc in_1_5 (i := 18) rfl rfl
theorem w459 : Cond.code yX4_isSkimmer cX4_isSkimmer 3 (some .boolean) ∈ Gw := gwc in_1_5 (i := 19) rfl rfl
theorem w461 : Cond.methodLink RX9 99 yX2_become ∈ Gw := gwc in_1_5 (i := 21) rfl rfl
theorem w462 : Cond.instanceMethod yX2_become ∈ Gw := gwc in_1_5 (i := 22) rfl rfl
theorem w463 : Cond.selects RX2 yX2_become yX2_become ∈ Gw := gwc in_1_5 (i := 23) rfl rfl
theorem w464 : Cond.code yX2_become cX2_become 3 none ∈ Gw := gwc in_1_5 (i := 24) rfl rfl
theorem w465 : Cond.methodLink RL 81 yX9_wind ∈ Gw := gwc in_1_5 (i := 25) rfl rfl
theorem w466 : Cond.instanceMethod yX9_wind ∈ Gw := gwc in_1_5 (i := 26) rfl rfl
theorem w467 : Cond.selects RX9 yX9_wind yX9_wind ∈ Gw := gwc in_1_5 (i := 27) rfl rfl
theorem w468 : Cond.code yX9_wind cX9_wind 4 (some .int) ∈ Gw := gwc in_1_5 (i := 28) rfl rfl
theorem w469 : Cond.methodLink RL 74 yX9_hole ∈ Gw := gwc in_1_5 (i := 29) rfl rfl
theorem w470 : Cond.instanceMethod yX9_hole ∈ Gw := gwc in_1_5 (i := 30) rfl rfl
theorem w471 : Cond.selects RX9 yX9_hole yX9_hole ∈ Gw := gwc in_1_5 (i := 31) rfl rfl
theorem w472 : Cond.code yX9_hole cX9_hole 4 (some .int) ∈ Gw := gwc in_1_5 (i := 32) rfl rfl
theorem w473 : Cond.methodLink RL 101 yX9_pass ∈ Gw := gwc in_1_5 (i := 33) rfl rfl
theorem w474 : Cond.instanceMethod yX9_pass ∈ Gw := gwc in_1_5 (i := 34) rfl rfl
theorem w475 : Cond.selects RX9 yX9_pass yX9_pass ∈ Gw := gwc in_1_5 (i := 35) rfl rfl
theorem w476 : Cond.code yX9_pass cX9_pass 2 (some .int) ∈ Gw := gwc in_1_5 (i := 36) rfl rfl
theorem w478 : Cond.methodLink RX9 140 yX0_letPass ∈ Gw := gwc in_1_5 (i := 38) rfl rfl
theorem w479 : Cond.instanceMethod yX0_letPass ∈ Gw := gwc in_1_5 (i := 39) rfl rfl
theorem w480 : Cond.selects RX0 yX0_letPass yX0_letPass ∈ Gw := gwc in_2_0 (i := 0) rfl rfl
theorem w481 : Cond.code yX0_letPass cX0_letPass 3 none ∈ Gw := gwc in_2_0 (i := 1) rfl rfl
theorem w482 : Cond.methodLink RX0 66 yX0_leak ∈ Gw := gwc in_2_0 (i := 2) rfl rfl
theorem w484 : Cond.instanceMethod yX0_leak ∈ Gw := gwc in_2_0 (i := 4) rfl rfl
theorem w485 : Cond.code yX0_leak cX0_leak 4 none ∈ Gw := gwc in_2_0 (i := 5) rfl rfl
theorem w486 : Cond.methodLink RX0 75 yX0_tideOf ∈ Gw := gwc in_2_0 (i := 6) rfl rfl
theorem w487 : Cond.static yX0_tideOf ∈ Gw := gwc in_2_0 (i := 7) rfl rfl
theorem w488 : Cond.code yX0_tideOf cX0_tideOf 2 (some .int) ∈ Gw := gwc in_2_0 (i := 8) rfl rfl
theorem w489 : Cond.methodLink RX0 91 yX8_leakOf ∈ Gw := gwc in_2_0 (i := 9) rfl rfl
theorem w490 : Cond.instanceMethod yX8_leakOf ∈ Gw := gwc in_2_0 (i := 10) rfl rfl
theorem w491 : Cond.selects RX8 yX8_leakOf yX8_leakOf ∈ Gw := gwc in_2_0 (i := 11) rfl rfl
theorem w492 : Cond.code yX8_leakOf cX8_leakOf 4 (some .int) ∈ Gw := gwc in_2_0 (i := 12) rfl rfl
theorem w493 : Cond.methodLink RX8 25 Lib.Math.min.name ∈ Gw := gwc in_2_0 (i := 13) rfl rfl
theorem w494 : Cond.static Lib.Math.min.name ∈ Gw := gwc in_2_0 (i := 14) rfl rfl
theorem w495 : Cond.code Lib.Math.min.name Lib.Math.min.code 2 (some .int) ∈ Gw := gwc in_2_0 (i := 15) rfl rfl
theorem w496 : Cond.methodLink RX0 104 yX1_noteLeak ∈ Gw := gwc in_2_0 (i := 16) rfl rfl
theorem w497 : Cond.instanceMethod yX1_noteLeak ∈ Gw := gwc in_2_0 (i := 17) rfl rfl
theorem w498 : Cond.selects RX1 yX1_noteLeak yX1_noteLeak ∈ Gw := gwc in_2_0 (i := 18) rfl rfl
theorem w499 : Cond.code yX1_noteLeak cX1_noteLeak 3 none ∈ Gw := gwc in_2_0 (i := 19) rfl rfl
theorem w500 : Cond.methodLink RX0 69 yX0_weather ∈ Gw := gwc in_2_0 (i := 20) rfl rfl
theorem w502 : Cond.instanceMethod yX0_weather ∈ Gw := gwc in_2_0 (i := 22) rfl rfl
theorem w503 : Cond.code yX0_weather cX0_weather 5 none ∈ Gw := gwc in_2_0 (i := 23) rfl rfl
theorem w504 : Cond.methodLink RX0 72 yX0_drift ∈ Gw := gwc in_2_0 (i := 24) rfl rfl
theorem w506 : Cond.instanceMethod yX0_drift ∈ Gw := gwc in_2_0 (i := 26) rfl rfl
theorem w507 : Cond.code yX0_drift cX0_drift 2 none ∈ Gw := gwc in_2_0 (i := 27) rfl rfl
theorem w508 : Cond.methodLink RX0 117 yX0_findWhatGoes ∈ Gw := gwc in_2_0 (i := 28) rfl rfl
theorem w510 : Cond.instanceMethod yX0_findWhatGoes ∈ Gw := gwc in_2_0 (i := 30) rfl rfl
theorem w511 : Cond.code yX0_findWhatGoes cX0_findWhatGoes 6 none ∈ Gw := gwc in_2_0 (i := 31) rfl rfl
theorem w512 : Cond.methodLink RX0 127 yX0_roomBehind ∈ Gw := gwc in_2_0 (i := 32) rfl rfl
theorem w513 : Cond.instanceMethod yX0_roomBehind ∈ Gw := gwc in_2_0 (i := 33) rfl rfl
theorem w514 : Cond.selects RX0 yX0_roomBehind yX0_roomBehind ∈ Gw := gwc in_2_0 (i := 34) rfl rfl
theorem w515 : Cond.code yX0_roomBehind cX0_roomBehind 3 (some .int) ∈ Gw := gwc in_2_0 (i := 35) rfl rfl
theorem w516 : Cond.methodLink RX0 121 yX2_beside ∈ Gw := gwc in_2_0 (i := 36) rfl rfl
theorem w517 : Cond.static yX2_beside ∈ Gw := gwc in_2_0 (i := 37) rfl rfl
theorem w518 : Cond.code yX2_beside cX2_beside 4 (some .int) ∈ Gw := gwc in_2_0 (i := 38) rfl rfl
theorem w519 : Cond.methodLink RX0 147 yX2_isWater ∈ Gw := gwc in_2_0 (i := 39) rfl rfl
theorem w520 : Cond.instanceMethod yX2_isWater ∈ Gw := gwc in_2_1 (i := 0) rfl rfl
theorem w521 : Cond.selects RX2 yX2_isWater yX2_isWater ∈ Gw := gwc in_2_1 (i := 1) rfl rfl
theorem w522 : Cond.code yX2_isWater cX2_isWater 2 (some .boolean) ∈ Gw := gwc in_2_1 (i := 2) rfl rfl
theorem w523 : Cond.constant RX0 151 1000000 ∈ Gw := gwc in_2_1 (i := 3) rfl rfl
theorem w524 : Cond.methodLink RX0 152 yX2_roomOf ∈ Gw := gwc in_2_1 (i := 4) rfl rfl
theorem w525 : Cond.instanceMethod yX2_roomOf ∈ Gw := gwc in_2_1 (i := 5) rfl rfl
theorem w526 : Cond.selects RX2 yX2_roomOf yX2_roomOf ∈ Gw := gwc in_2_1 (i := 6) rfl rfl
theorem w527 : Cond.code yX2_roomOf cX2_roomOf 2 (some .int) ∈ Gw := gwc in_2_1 (i := 7) rfl rfl
theorem w530 : Cond.methodLink RX0 130 yX0_blown ∈ Gw := gwc in_2_1 (i := 10) rfl rfl
theorem w531 : Cond.instanceMethod yX0_blown ∈ Gw := gwc in_2_1 (i := 11) rfl rfl
theorem w532 : Cond.selects RX0 yX0_blown yX0_blown ∈ Gw := gwc in_2_1 (i := 12) rfl rfl
theorem w533 : Cond.code yX0_blown cX0_blown 3 (some .int) ∈ Gw := gwc in_2_1 (i := 13) rfl rfl
theorem w534 : Cond.methodLink RX0 142 Lib.Math.min.name ∈ Gw := gwc in_2_1 (i := 14) rfl rfl
theorem w535 : Cond.methodLink RX0 133 yX4_boomOn ∈ Gw := gwc in_2_1 (i := 15) rfl rfl
theorem w536 : Cond.instanceMethod yX4_boomOn ∈ Gw := gwc in_2_1 (i := 16) rfl rfl
theorem w537 : Cond.selects RX4 yX4_boomOn yX4_boomOn ∈ Gw := gwc in_2_1 (i := 17) rfl rfl
theorem w538 : Cond.code yX4_boomOn cX4_boomOn 6 (some .int) ∈ Gw := gwc in_2_1 (i := 18) rfl rfl
theorem w539 : Cond.methodLink RX4 45 yX2_beside ∈ Gw := gwc in_2_1 (i := 19) rfl rfl
theorem w540 : Cond.methodLink RX4 51 yX2_opposite ∈ Gw := gwc in_2_1 (i := 20) rfl rfl
theorem w541 : Cond.static yX2_opposite ∈ Gw := gwc in_2_1 (i := 21) rfl rfl
theorem w542 : Cond.code yX2_opposite cX2_opposite 1 (some .int) ∈ Gw := gwc in_2_1 (i := 22) rfl rfl
theorem w543 : Cond.methodLink RX0 124 yX0_letGo ∈ Gw := gwc in_2_1 (i := 23) rfl rfl
theorem w545 : Cond.instanceMethod yX0_letGo ∈ Gw := gwc in_2_1 (i := 25) rfl rfl
theorem w546 : Cond.code yX0_letGo cX0_letGo 5 none ∈ Gw := gwc in_2_1 (i := 26) rfl rfl
theorem w547 : Cond.methodLink RX0 79 yX0_giveBack ∈ Gw := gwc in_2_1 (i := 27) rfl rfl
theorem w549 : Cond.instanceMethod yX0_giveBack ∈ Gw := gwc in_2_1 (i := 29) rfl rfl
theorem w550 : Cond.code yX0_giveBack cX0_giveBack 4 none ∈ Gw := gwc in_2_1 (i := 30) rfl rfl
theorem w551 : Cond.methodLink RX0 161 yX2_lowestWaterBeside ∈ Gw := gwc in_2_1 (i := 31) rfl rfl
theorem w552 : Cond.instanceMethod yX2_lowestWaterBeside ∈ Gw := gwc in_2_1 (i := 32) rfl rfl
theorem w553 : Cond.selects RX2 yX2_lowestWaterBeside yX2_lowestWaterBeside ∈ Gw := gwc in_2_1 (i := 33) rfl rfl
theorem w554 : Cond.code yX2_lowestWaterBeside cX2_lowestWaterBeside 5 (some .int) ∈ Gw := gwc in_2_1 (i := 34) rfl rfl
theorem w555 : Cond.methodLink RX2 42 yX2_beside ∈ Gw := gwc in_2_1 (i := 35) rfl rfl
theorem w556 : Cond.methodLink RX2 46 yX2_isWater ∈ Gw := gwc in_2_1 (i := 36) rfl rfl
theorem w557 : Cond.methodLink RX0 164 yX2_backOf ∈ Gw := gwc in_2_1 (i := 37) rfl rfl
theorem w558 : Cond.instanceMethod yX2_backOf ∈ Gw := gwc in_2_1 (i := 38) rfl rfl
theorem w559 : Cond.selects RX2 yX2_backOf yX2_backOf ∈ Gw := gwc in_2_1 (i := 39) rfl rfl
theorem w560 : Cond.code yX2_backOf cX2_backOf 4 (some .int) ∈ Gw := gwc in_2_2 (i := 0) rfl rfl
theorem w563 : Cond.methodLink RX0 82 yX0_skim ∈ Gw := gwc in_2_2 (i := 3) rfl rfl
theorem w565 : Cond.instanceMethod yX0_skim ∈ Gw := gwc in_2_2 (i := 5) rfl rfl
theorem w566 : Cond.code yX0_skim cX0_skim 5 none ∈ Gw := gwc in_2_2 (i := 6) rfl rfl
theorem w567 : Cond.methodLink RX0 172 yX4_freshTaken ∈ Gw := gwc in_2_2 (i := 7) rfl rfl
theorem w568 : Cond.instanceMethod yX4_freshTaken ∈ Gw := gwc in_2_2 (i := 8) rfl rfl
theorem w569 : Cond.selects RX4 yX4_freshTaken yX4_freshTaken ∈ Gw := gwc in_2_2 (i := 9) rfl rfl
theorem w570 : Cond.code yX4_freshTaken cX4_freshTaken 4 (some .int) ∈ Gw := gwc in_2_2 (i := 10) rfl rfl
theorem w571 : Cond.methodLink RX4 55 Lib.Math.min.name ∈ Gw := gwc in_2_2 (i := 11) rfl rfl
theorem w572 : Cond.methodLink RX0 175 yX4_thickTaken ∈ Gw := gwc in_2_2 (i := 12) rfl rfl
theorem w573 : Cond.instanceMethod yX4_thickTaken ∈ Gw := gwc in_2_2 (i := 13) rfl rfl
theorem w574 : Cond.selects RX4 yX4_thickTaken yX4_thickTaken ∈ Gw := gwc in_2_2 (i := 14) rfl rfl
theorem w575 : Cond.code yX4_thickTaken cX4_thickTaken 5 (some .int) ∈ Gw := gwc in_2_2 (i := 15) rfl rfl
theorem w576 : Cond.methodLink RX0 85 yX0_harmShores ∈ Gw := gwc in_2_2 (i := 16) rfl rfl
theorem w578 : Cond.instanceMethod yX0_harmShores ∈ Gw := gwc in_2_2 (i := 18) rfl rfl
theorem w579 : Cond.code yX0_harmShores cX0_harmShores 2 none ∈ Gw := gwc in_2_2 (i := 19) rfl rfl
theorem w580 : Cond.methodLink RX0 179 yX2_oilBirds ∈ Gw := gwc in_2_2 (i := 20) rfl rfl
theorem w581 : Cond.instanceMethod yX2_oilBirds ∈ Gw := gwc in_2_2 (i := 21) rfl rfl
theorem w582 : Cond.selects RX2 yX2_oilBirds yX2_oilBirds ∈ Gw := gwc in_2_2 (i := 22) rfl rfl
theorem w583 : Cond.code yX2_oilBirds cX2_oilBirds 3 none ∈ Gw := gwc in_2_2 (i := 23) rfl rfl
theorem w584 : Cond.methodLink RX2 62 Lib.Math.min.name ∈ Gw := gwc in_2_2 (i := 24) rfl rfl
theorem w585 : Cond.methodLink RX0 182 yX2_isTooDirty ∈ Gw := gwc in_2_2 (i := 25) rfl rfl
theorem w586 : Cond.instanceMethod yX2_isTooDirty ∈ Gw := gwc in_2_2 (i := 26) rfl rfl
theorem w587 : Cond.selects RX2 yX2_isTooDirty yX2_isTooDirty ∈ Gw := gwc in_2_2 (i := 27) rfl rfl
theorem w588 : Cond.code yX2_isTooDirty cX2_isTooDirty 2 (some .boolean) ∈ Gw := gwc in_2_2 (i := 28) rfl rfl
theorem w589 : Cond.methodLink RL 44 yX9_at ∈ Gw := gwc in_2_2 (i := 29) rfl rfl
theorem w590 : Cond.instanceMethod yX9_at ∈ Gw := gwc in_2_2 (i := 30) rfl rfl
theorem w591 : Cond.selects RX9 yX9_at yX9_at ∈ Gw := gwc in_2_2 (i := 31) rfl rfl
theorem w592 : Cond.code yX9_at cX9_at 4 (some .int) ∈ Gw := gwc in_2_2 (i := 32) rfl rfl
theorem w593 : Cond.methodLink RX9 161 yX2_isClean ∈ Gw := gwc in_2_2 (i := 33) rfl rfl
theorem w594 : Cond.instanceMethod yX2_isClean ∈ Gw := gwc in_2_2 (i := 34) rfl rfl
theorem w595 : Cond.selects RX2 yX2_isClean yX2_isClean ∈ Gw := gwc in_2_2 (i := 35) rfl rfl
theorem w596 : Cond.code yX2_isClean cX2_isClean 2 (some .boolean) ∈ Gw := gwc in_2_2 (i := 36) rfl rfl
theorem w597 : Cond.methodLink RX2 56 yJ6_bitCount_0f7a4 ∈ Gw := gwc in_2_2 (i := 37) rfl rfl
theorem w598 : Cond.static yJ6_bitCount_0f7a4 ∈ Gw := gwc in_2_2 (i := 38) rfl rfl
theorem w599 : Cond.code yJ6_bitCount_0f7a4 cJ6_bitCount_0f7a4 1 (some .int) ∈ Gw := gwc in_2_2 (i := 39) rfl rfl
theorem w600 : Cond.constant RJ6 265 1431655765 ∈ Gw := gwc in_2_3 (i := 0) rfl rfl
theorem w601 : Cond.constant RJ6 266 858993459 ∈ Gw := gwc in_2_3 (i := 1) rfl rfl
theorem w602 : Cond.constant RJ6 267 252645135 ∈ Gw := gwc in_2_3 (i := 2) rfl rfl
theorem w603 : Cond.methodLink RL 77 yX9_team ∈ Gw := gwc in_2_3 (i := 3) rfl rfl
theorem w604 : Cond.instanceMethod yX9_team ∈ Gw := gwc in_2_3 (i := 4) rfl rfl
theorem w605 : Cond.selects RX9 yX9_team yX9_team ∈ Gw := gwc in_2_3 (i := 5) rfl rfl
theorem w606 : Cond.code yX9_team cX9_team 4 (some .int) ∈ Gw := gwc in_2_3 (i := 6) rfl rfl
theorem w607 : Cond.methodLink RX9 169 yX9_needRoomForMeans ∈ Gw := gwc in_2_3 (i := 7) rfl rfl
theorem w609 : Cond.instanceMethod yX9_needRoomForMeans ∈ Gw := gwc in_2_3 (i := 9) rfl rfl
theorem w610 : Cond.code yX9_needRoomForMeans cX9_needRoomForMeans 1 none ∈ Gw := gwc in_2_3 (i := 10) rfl rfl
theorem w612 : Cond.methodLink RX9 172 yX4_add ∈ Gw := gwc in_2_3 (i := 12) rfl rfl
theorem w613 : Cond.instanceMethod yX4_add ∈ Gw := gwc in_2_3 (i := 13) rfl rfl
theorem w614 : Cond.selects RX4 yX4_add yX4_add ∈ Gw := gwc in_2_3 (i := 14) rfl rfl
theorem w615 : Cond.code yX4_add cX4_add 5 (some .int) ∈ Gw := gwc in_2_3 (i := 15) rfl rfl
theorem w616 : Cond.methodLink RL 66 yX9_birds ∈ Gw := gwc in_2_3 (i := 16) rfl rfl
theorem w617 : Cond.instanceMethod yX9_birds ∈ Gw := gwc in_2_3 (i := 17) rfl rfl
theorem w618 : Cond.selects RX9 yX9_birds yX9_birds ∈ Gw := gwc in_2_3 (i := 18) rfl rfl
theorem w619 : Cond.code yX9_birds cX9_birds 3 (some .int) ∈ Gw := gwc in_2_3 (i := 19) rfl rfl
theorem w620 : Cond.methodLink RX9 198 yX9_needShore ∈ Gw := gwc in_2_3 (i := 20) rfl rfl
theorem w622 : Cond.instanceMethod yX9_needShore ∈ Gw := gwc in_2_3 (i := 22) rfl rfl
theorem w623 : Cond.code yX9_needShore cX9_needShore 2 none ∈ Gw := gwc in_2_3 (i := 23) rfl rfl
theorem w624 : Cond.methodLink RX9 291 yX2_isWater ∈ Gw := gwc in_2_3 (i := 24) rfl rfl
theorem w627 : Cond.methodLink RL 109 yX9_claim ∈ Gw := gwc in_2_3 (i := 27) rfl rfl
theorem w628 : Cond.instanceMethod yX9_claim ∈ Gw := gwc in_2_3 (i := 28) rfl rfl
theorem w629 : Cond.selects RX9 yX9_claim yX9_claim ∈ Gw := gwc in_2_3 (i := 29) rfl rfl
theorem w630 : Cond.code yX9_claim cX9_claim 2 (some .int) ∈ Gw := gwc in_2_3 (i := 30) rfl rfl
theorem w631 : Cond.constant RX9 264 1000000 ∈ Gw := gwc in_2_3 (i := 31) rfl rfl
theorem w633 : Cond.methodLink RX9 268 yX6_add ∈ Gw := gwc in_2_3 (i := 33) rfl rfl
theorem w634 : Cond.instanceMethod yX6_add ∈ Gw := gwc in_2_3 (i := 34) rfl rfl
theorem w635 : Cond.selects RX6 yX6_add yX6_add ∈ Gw := gwc in_2_3 (i := 35) rfl rfl
theorem w636 : Cond.code yX6_add cX6_add 3 (some .int) ∈ Gw := gwc in_2_3 (i := 36) rfl rfl
theorem w637 : Cond.methodLink RL 113 yX9_layers ∈ Gw := gwc in_2_3 (i := 37) rfl rfl
theorem w638 : Cond.instanceMethod yX9_layers ∈ Gw := gwc in_2_3 (i := 38) rfl rfl
theorem w639 : Cond.selects RX9 yX9_layers yX9_layers ∈ Gw := gwc in_2_3 (i := 39) rfl rfl
theorem w640 : Cond.code yX9_layers cX9_layers 4 (some .int) ∈ Gw := gwc in_2_4 (i := 0) rfl rfl
theorem w641 : Cond.constant RX9 270 10000000 ∈ Gw := gwc in_2_4 (i := 1) rfl rfl
theorem w642 : Cond.methodLink RL 116 yX9_due ∈ Gw := gwc in_2_4 (i := 2) rfl rfl
theorem w643 : Cond.instanceMethod yX9_due ∈ Gw := gwc in_2_4 (i := 3) rfl rfl
theorem w644 : Cond.selects RX9 yX9_due yX9_due ∈ Gw := gwc in_2_4 (i := 4) rfl rfl
theorem w645 : Cond.code yX9_due cX9_due 7 (some .int) ∈ Gw := gwc in_2_4 (i := 5) rfl rfl
theorem w646 : Cond.methodLink RX9 277 yX6_getsOf ∈ Gw := gwc in_2_4 (i := 6) rfl rfl
theorem w647 : Cond.instanceMethod yX6_getsOf ∈ Gw := gwc in_2_4 (i := 7) rfl rfl
theorem w648 : Cond.selects RX6 yX6_getsOf yX6_getsOf ∈ Gw := gwc in_2_4 (i := 8) rfl rfl
theorem w649 : Cond.code yX6_getsOf cX6_getsOf 2 (some .long) ∈ Gw := gwc in_2_4 (i := 9) rfl rfl
theorem w650 : Cond.methodLink RX6 35 yX6_allGet ∈ Gw := gwc in_2_4 (i := 10) rfl rfl
theorem w652 : Cond.instanceMethod yX6_allGet ∈ Gw := gwc in_2_4 (i := 12) rfl rfl
theorem w653 : Cond.code yX6_allGet cX6_allGet 1 (some .long) ∈ Gw := gwc in_2_4 (i := 13) rfl rfl
theorem w654 : Cond.methodLink RX6 29 Lib.MathLoose.min_long.x ∈ Gw := gwc in_2_4 (i := 14) rfl rfl
theorem w655 : Cond.static Lib.MathLoose.min_long.x ∈ Gw := gwc in_2_4 (i := 15) rfl rfl
theorem w656 : Cond.code Lib.MathLoose.min_long.x Lib.MathLoose.min_long.code 4 (some .long) ∈ Gw := gwc in_2_4 (i := 16) rfl rfl
theorem w657 : Cond.methodLink RX9 281 yX6_ownersPartOf ∈ Gw := gwc in_2_4 (i := 17) rfl rfl
theorem w658 : Cond.instanceMethod yX6_ownersPartOf ∈ Gw := gwc in_2_4 (i := 18) rfl rfl
theorem w659 : Cond.selects RX6 yX6_ownersPartOf yX6_ownersPartOf ∈ Gw := gwc in_2_4 (i := 19) rfl rfl
theorem w660 : Cond.code yX6_ownersPartOf cX6_ownersPartOf 5 (some .long) ∈ Gw := gwc in_2_4 (i := 20) rfl rfl
theorem w661 : Cond.methodLink RL 98 yX9_ahead ∈ Gw := gwc in_2_4 (i := 21) rfl rfl
theorem w662 : Cond.instanceMethod yX9_ahead ∈ Gw := gwc in_2_4 (i := 22) rfl rfl
theorem w663 : Cond.selects RX9 yX9_ahead yX9_ahead ∈ Gw := gwc in_2_4 (i := 23) rfl rfl
theorem w664 : Cond.code yX9_ahead cX9_ahead 3 (some .int) ∈ Gw := gwc in_2_4 (i := 24) rfl rfl
theorem w665 : Cond.methodLink RX9 285 yX0_becomeLike ∈ Gw := gwc in_2_4 (i := 25) rfl rfl
theorem w666 : Cond.instanceMethod yX0_becomeLike ∈ Gw := gwc in_2_4 (i := 26) rfl rfl
theorem w667 : Cond.selects RX0 yX0_becomeLike yX0_becomeLike ∈ Gw := gwc in_2_4 (i := 27) rfl rfl
theorem w668 : Cond.code yX0_becomeLike cX0_becomeLike 2 none ∈ Gw := gwc in_2_4 (i := 28) rfl rfl
theorem w669 : Cond.methodLink RX0 50 yX2_becomeLike ∈ Gw := gwc in_2_4 (i := 29) rfl rfl
theorem w670 : Cond.instanceMethod yX2_becomeLike ∈ Gw := gwc in_2_4 (i := 30) rfl rfl
theorem w671 : Cond.selects RX2 yX2_becomeLike yX2_becomeLike ∈ Gw := gwc in_2_4 (i := 31) rfl rfl
theorem w672 : Cond.code yX2_becomeLike cX2_becomeLike 2 none ∈ Gw := gwc in_2_4 (i := 32) rfl rfl
theorem w673 : Cond.methodLink RX2 67 arraycopyName ∈ Gw := gwc in_2_4 (i := 33) rfl rfl
theorem w674 : Cond.static arraycopyName ∈ Gw := gwc in_2_4 (i := 34) rfl rfl
theorem w675 : Cond.native arraycopyName ∈ Gw := gwc in_2_4 (i := 35) rfl rfl
theorem w676 : Cond.methodLink RX0 54 yX8_becomeLike ∈ Gw := gwc in_2_4 (i := 36) rfl rfl
theorem w677 : Cond.instanceMethod yX8_becomeLike ∈ Gw := gwc in_2_4 (i := 37) rfl rfl
theorem w678 : Cond.selects RX8 yX8_becomeLike yX8_becomeLike ∈ Gw := gwc in_2_4 (i := 38) rfl rfl
theorem w679 : Cond.code yX8_becomeLike cX8_becomeLike 2 none ∈ Gw := gwc in_2_4 (i := 39) rfl rfl
theorem w680 : Cond.methodLink RX8 31 arraycopyName ∈ Gw := gwc in_2_5 (i := 0) rfl rfl
theorem w681 : Cond.methodLink RX0 57 yX4_becomeLike ∈ Gw := gwc in_2_5 (i := 1) rfl rfl
theorem w682 : Cond.instanceMethod yX4_becomeLike ∈ Gw := gwc in_2_5 (i := 2) rfl rfl
theorem w683 : Cond.selects RX4 yX4_becomeLike yX4_becomeLike ∈ Gw := gwc in_2_5 (i := 3) rfl rfl
theorem w684 : Cond.code yX4_becomeLike cX4_becomeLike 2 none ∈ Gw := gwc in_2_5 (i := 4) rfl rfl
theorem w685 : Cond.methodLink RX4 63 arraycopyName ∈ Gw := gwc in_2_5 (i := 5) rfl rfl
theorem w686 : Cond.methodLink RX9 288 yX2_oilOf ∈ Gw := gwc in_2_5 (i := 6) rfl rfl
theorem w687 : Cond.instanceMethod yX2_oilOf ∈ Gw := gwc in_2_5 (i := 7) rfl rfl
theorem w688 : Cond.selects RX2 yX2_oilOf yX2_oilOf ∈ Gw := gwc in_2_5 (i := 8) rfl rfl
theorem w689 : Cond.code yX2_oilOf cX2_oilOf 2 (some .int) ∈ Gw := gwc in_2_5 (i := 9) rfl rfl
theorem w690 : Cond.methodLink RL 95 yX9_nextAnew ∈ Gw := gwc in_2_5 (i := 10) rfl rfl
theorem w691 : Cond.instanceMethod yX9_nextAnew ∈ Gw := gwc in_2_5 (i := 11) rfl rfl
theorem w692 : Cond.selects RX9 yX9_nextAnew yX9_nextAnew ∈ Gw := gwc in_2_5 (i := 12) rfl rfl
theorem w693 : Cond.code yX9_nextAnew cX9_nextAnew 2 (some .int) ∈ Gw := gwc in_2_5 (i := 13) rfl rfl
theorem w694 : Cond.methodLink RX9 294 yX5_floatingOf ∈ Gw := gwc in_2_5 (i := 14) rfl rfl
theorem w695 : Cond.instanceMethod yX5_floatingOf ∈ Gw := gwc in_2_5 (i := 15) rfl rfl
theorem w696 : Cond.selects RX5 yX5_floatingOf yX5_floatingOf ∈ Gw := gwc in_2_5 (i := 16) rfl rfl
theorem w697 : Cond.code yX5_floatingOf cX5_floatingOf 6 (some .int) ∈ Gw := gwc in_2_5 (i := 17) rfl rfl
theorem w698 : Cond.methodLink RX5 15 yX5_weigh ∈ Gw := gwc in_2_5 (i := 18) rfl rfl
theorem w700 : Cond.instanceMethod yX5_weigh ∈ Gw := gwc in_2_5 (i := 20) rfl rfl
theorem w701 : Cond.code yX5_weigh cX5_weigh 8 none ∈ Gw := gwc in_2_5 (i := 21) rfl rfl
theorem w702 : Cond.methodLink RX5 78 yX5_leaksInto ∈ Gw := gwc in_2_5 (i := 22) rfl rfl
theorem w704 : Cond.instanceMethod yX5_leaksInto ∈ Gw := gwc in_2_5 (i := 24) rfl rfl
theorem w705 : Cond.code yX5_leaksInto cX5_leaksInto 5 (some .int) ∈ Gw := gwc in_2_5 (i := 25) rfl rfl
theorem w706 : Cond.methodLink RX5 71 yX0_tideOf ∈ Gw := gwc in_2_5 (i := 26) rfl rfl
theorem w707 : Cond.methodLink RX5 120 yX8_leakOf ∈ Gw := gwc in_2_5 (i := 27) rfl rfl
theorem w708 : Cond.methodLink RX5 91 yX4_boomOn ∈ Gw := gwc in_2_5 (i := 28) rfl rfl
theorem w709 : Cond.methodLink RX5 102 yX0_roomBehind ∈ Gw := gwc in_2_5 (i := 29) rfl rfl
theorem w710 : Cond.methodLink RX5 105 yX0_blown ∈ Gw := gwc in_2_5 (i := 30) rfl rfl
theorem w711 : Cond.methodLink RX5 32 yX5_waterAgainstWind ∈ Gw := gwc in_2_5 (i := 31) rfl rfl
theorem w713 : Cond.instanceMethod yX5_waterAgainstWind ∈ Gw := gwc in_2_5 (i := 33) rfl rfl
theorem w714 : Cond.code yX5_waterAgainstWind cX5_waterAgainstWind 3 (some .int) ∈ Gw := gwc in_2_5 (i := 34) rfl rfl
theorem w715 : Cond.methodLink RX5 123 yX2_opposite ∈ Gw := gwc in_2_5 (i := 35) rfl rfl
theorem w716 : Cond.methodLink RX5 36 yX2_beside ∈ Gw := gwc in_2_5 (i := 36) rfl rfl
theorem w717 : Cond.methodLink RX5 126 yX2_isWater ∈ Gw := gwc in_2_5 (i := 37) rfl rfl
theorem w718 : Cond.methodLink RX5 42 yX5_givenBackTo ∈ Gw := gwc in_2_5 (i := 38) rfl rfl
theorem w720 : Cond.instanceMethod yX5_givenBackTo ∈ Gw := gwc in_3_0 (i := 0) rfl rfl
theorem w721 : Cond.code yX5_givenBackTo cX5_givenBackTo 3 (some .int) ∈ Gw := gwc in_3_0 (i := 1) rfl rfl
theorem w722 : Cond.methodLink RX5 52 yX5_isHighTide ∈ Gw := gwc in_3_0 (i := 2) rfl rfl
theorem w724 : Cond.instanceMethod yX5_isHighTide ∈ Gw := gwc in_3_0 (i := 4) rfl rfl
theorem w725 : Cond.code yX5_isHighTide cX5_isHighTide 1 (some .boolean) ∈ Gw := gwc in_3_0 (i := 5) rfl rfl
theorem w726 : Cond.methodLink RX5 62 yX2_lowestWaterBeside ∈ Gw := gwc in_3_0 (i := 6) rfl rfl
theorem w727 : Cond.methodLink RX5 49 yX5_landedOn ∈ Gw := gwc in_3_0 (i := 7) rfl rfl
theorem w729 : Cond.instanceMethod yX5_landedOn ∈ Gw := gwc in_3_0 (i := 9) rfl rfl
theorem w730 : Cond.code yX5_landedOn cX5_landedOn 4 (some .int) ∈ Gw := gwc in_3_0 (i := 10) rfl rfl
theorem w731 : Cond.methodLink RX5 65 yX2_backOf ∈ Gw := gwc in_3_0 (i := 11) rfl rfl
theorem w732 : Cond.methodLink RX5 45 yX5_leftBySkimmers ∈ Gw := gwc in_3_0 (i := 12) rfl rfl
theorem w734 : Cond.instanceMethod yX5_leftBySkimmers ∈ Gw := gwc in_3_0 (i := 14) rfl rfl
theorem w735 : Cond.code yX5_leftBySkimmers cX5_leftBySkimmers 8 (some .int) ∈ Gw := gwc in_3_0 (i := 15) rfl rfl
theorem w736 : Cond.methodLink RX5 134 yX4_isSkimmer ∈ Gw := gwc in_3_0 (i := 16) rfl rfl
theorem w737 : Cond.methodLink RX5 138 yX4_freshTaken ∈ Gw := gwc in_3_0 (i := 17) rfl rfl
theorem w738 : Cond.methodLink RX5 141 yX4_thickTaken ∈ Gw := gwc in_3_0 (i := 18) rfl rfl
theorem w739 : Cond.methodLink RX9 297 yX5_strandedOf ∈ Gw := gwc in_3_0 (i := 19) rfl rfl
theorem w740 : Cond.instanceMethod yX5_strandedOf ∈ Gw := gwc in_3_0 (i := 20) rfl rfl
theorem w741 : Cond.selects RX5 yX5_strandedOf yX5_strandedOf ∈ Gw := gwc in_3_0 (i := 21) rfl rfl
theorem w742 : Cond.code yX5_strandedOf cX5_strandedOf 4 (some .int) ∈ Gw := gwc in_3_0 (i := 22) rfl rfl
theorem w743 : Cond.methodLink RL 50 yX9_sum ∈ Gw := gwc in_3_0 (i := 23) rfl rfl
theorem w744 : Cond.instanceMethod yX9_sum ∈ Gw := gwc in_3_0 (i := 24) rfl rfl
theorem w745 : Cond.selects RX9 yX9_sum yX9_sum ∈ Gw := gwc in_3_0 (i := 25) rfl rfl
theorem w746 : Cond.code yX9_sum cX9_sum 3 (some .int) ∈ Gw := gwc in_3_0 (i := 26) rfl rfl
theorem w747 : Cond.methodLink RX9 309 yX8_allLitres ∈ Gw := gwc in_3_0 (i := 27) rfl rfl
theorem w748 : Cond.instanceMethod yX8_allLitres ∈ Gw := gwc in_3_0 (i := 28) rfl rfl
theorem w749 : Cond.selects RX8 yX8_allLitres yX8_allLitres ∈ Gw := gwc in_3_0 (i := 29) rfl rfl
theorem w750 : Cond.code yX8_allLitres cX8_allLitres 3 (some .int) ∈ Gw := gwc in_3_0 (i := 30) rfl rfl
theorem w751 : Cond.methodLink RX9 313 yX2_allFloating ∈ Gw := gwc in_3_0 (i := 31) rfl rfl
theorem w752 : Cond.instanceMethod yX2_allFloating ∈ Gw := gwc in_3_0 (i := 32) rfl rfl
theorem w753 : Cond.selects RX2 yX2_allFloating yX2_allFloating ∈ Gw := gwc in_3_0 (i := 33) rfl rfl
theorem w754 : Cond.code yX2_allFloating cX2_allFloating 3 (some .int) ∈ Gw := gwc in_3_0 (i := 34) rfl rfl
theorem w755 : Cond.methodLink RX9 325 yX2_allStranded ∈ Gw := gwc in_3_0 (i := 35) rfl rfl
theorem w756 : Cond.instanceMethod yX2_allStranded ∈ Gw := gwc in_3_0 (i := 36) rfl rfl
theorem w757 : Cond.selects RX2 yX2_allStranded yX2_allStranded ∈ Gw := gwc in_3_0 (i := 37) rfl rfl
theorem w758 : Cond.code yX2_allStranded cX2_allStranded 3 (some .int) ∈ Gw := gwc in_3_0 (i := 38) rfl rfl
theorem w759 : Cond.methodLink RX9 328 yX4_allInStores ∈ Gw := gwc in_3_0 (i := 39) rfl rfl
theorem w760 : Cond.instanceMethod yX4_allInStores ∈ Gw := gwc in_3_1 (i := 0) rfl rfl
theorem w761 : Cond.selects RX4 yX4_allInStores yX4_allInStores ∈ Gw := gwc in_3_1 (i := 1) rfl rfl
theorem w762 : Cond.code yX4_allInStores cX4_allInStores 3 (some .int) ∈ Gw := gwc in_3_1 (i := 2) rfl rfl
theorem w763 : Cond.methodLink RX9 337 yX3_allWaste ∈ Gw := gwc in_3_1 (i := 3) rfl rfl
theorem w764 : Cond.instanceMethod yX3_allWaste ∈ Gw := gwc in_3_1 (i := 4) rfl rfl
theorem w765 : Cond.selects RX3 yX3_allWaste yX3_allWaste ∈ Gw := gwc in_3_1 (i := 5) rfl rfl
theorem w766 : Cond.code yX3_allWaste cX3_allWaste 1 (some .int) ∈ Gw := gwc in_3_1 (i := 6) rfl rfl
theorem w767 : Cond.methodLink RL 54 yL_cell ∈ Gw := gwc in_3_1 (i := 7) rfl rfl
theorem w768 : Cond.static yL_cell ∈ Gw := gwc in_3_1 (i := 8) rfl rfl
theorem w769 : Cond.code yL_cell cL_cell 2 (some .int) ∈ Gw := gwc in_3_1 (i := 9) rfl rfl
theorem w770 : Cond.constant RL 7 37110107 ∈ Gw := gwc in_3_1 (i := 10) rfl rfl
theorem w771 : Cond.methodLink RL 60 yL_low ∈ Gw := gwc in_3_1 (i := 11) rfl rfl
theorem w772 : Cond.static yL_low ∈ Gw := gwc in_3_1 (i := 12) rfl rfl
theorem w773 : Cond.code yL_low cL_low 2 (some .int) ∈ Gw := gwc in_3_1 (i := 13) rfl rfl
theorem w774 : Cond.constant RL 8 2147483647 ∈ Gw := gwc in_3_1 (i := 14) rfl rfl
theorem w775 : Cond.methodLink RL 70 yL_tryLay ∈ Gw := gwc in_3_1 (i := 15) rfl rfl
theorem w776 : Cond.static yL_tryLay ∈ Gw := gwc in_3_1 (i := 16) rfl rfl
theorem w778 : Cond.classLink RL 22 "java/lang/IndexOutOfBoundsException" ∈ Gw := gwc in_3_1 (i := 18) rfl rfl
theorem w779 : Cond.classLink RL 24 "java/lang/IllegalArgumentException" ∈ Gw := gwc in_3_1 (i := 19) rfl rfl
theorem w780 : Cond.classLink RL 26 "java/lang/IllegalStateException" ∈ Gw := gwc in_3_1 (i := 20) rfl rfl
theorem w781 : Cond.methodLink RL 9 yX9_boom ∈ Gw := gwc in_3_1 (i := 21) rfl rfl
theorem w782 : Cond.instanceMethod yX9_boom ∈ Gw := gwc in_3_1 (i := 22) rfl rfl
theorem w783 : Cond.selects RX9 yX9_boom yX9_boom ∈ Gw := gwc in_3_1 (i := 23) rfl rfl
theorem w784 : Cond.code yX9_boom cX9_boom 5 (some .int) ∈ Gw := gwc in_3_1 (i := 24) rfl rfl
theorem w785 : Cond.methodLink RX9 164 yX4_boomOn ∈ Gw := gwc in_3_1 (i := 25) rfl rfl
theorem w787 : Cond.methodLink RL 15 yX9_skimmer ∈ Gw := gwc in_3_1 (i := 27) rfl rfl
theorem w788 : Cond.instanceMethod yX9_skimmer ∈ Gw := gwc in_3_1 (i := 28) rfl rfl
theorem w789 : Cond.selects RX9 yX9_skimmer yX9_skimmer ∈ Gw := gwc in_3_1 (i := 29) rfl rfl
theorem w790 : Cond.code yX9_skimmer cX9_skimmer 5 (some .int) ∈ Gw := gwc in_3_1 (i := 30) rfl rfl
theorem w791 : Cond.methodLink RX9 102 yX9_needWater ∈ Gw := gwc in_3_1 (i := 31) rfl rfl
theorem w793 : Cond.instanceMethod yX9_needWater ∈ Gw := gwc in_3_1 (i := 33) rfl rfl
theorem w794 : Cond.code yX9_needWater cX9_needWater 2 none ∈ Gw := gwc in_3_1 (i := 34) rfl rfl
theorem w796 : Cond.methodLink RL 18 yX9_ship ∈ Gw := gwc in_3_1 (i := 36) rfl rfl
theorem w797 : Cond.instanceMethod yX9_ship ∈ Gw := gwc in_3_1 (i := 37) rfl rfl
theorem w798 : Cond.selects RX9 yX9_ship yX9_ship ∈ Gw := gwc in_3_1 (i := 38) rfl rfl
theorem w799 : Cond.code yX9_ship cX9_ship 3 (some .int) ∈ Gw := gwc in_3_1 (i := 39) rfl rfl
theorem w800 : Cond.constant RX9 115 100000 ∈ Gw := gwc in_3_2 (i := 0) rfl rfl
theorem w802 : Cond.methodLink RX9 121 yX8_add ∈ Gw := gwc in_3_2 (i := 2) rfl rfl
theorem w803 : Cond.instanceMethod yX8_add ∈ Gw := gwc in_3_2 (i := 3) rfl rfl
theorem w804 : Cond.selects RX8 yX8_add yX8_add ∈ Gw := gwc in_3_2 (i := 4) rfl rfl
theorem w805 : Cond.code yX8_add cX8_add 4 (some .int) ∈ Gw := gwc in_3_2 (i := 5) rfl rfl
theorem w806 : Cond.methodLink RL 84 yL_tryMean ∈ Gw := gwc in_3_2 (i := 6) rfl rfl
theorem w807 : Cond.static yL_tryMean ∈ Gw := gwc in_3_2 (i := 7) rfl rfl
theorem w809 : Cond.methodLink RL 28 yX9_clean ∈ Gw := gwc in_3_2 (i := 9) rfl rfl
theorem w810 : Cond.instanceMethod yX9_clean ∈ Gw := gwc in_3_2 (i := 10) rfl rfl
theorem w811 : Cond.selects RX9 yX9_clean yX9_clean ∈ Gw := gwc in_3_2 (i := 11) rfl rfl
theorem w812 : Cond.code yX9_clean cX9_clean 4 (some .int) ∈ Gw := gwc in_3_2 (i := 12) rfl rfl
theorem w813 : Cond.methodLink RX9 186 yX9_needSort ∈ Gw := gwc in_3_2 (i := 13) rfl rfl
theorem w815 : Cond.instanceMethod yX9_needSort ∈ Gw := gwc in_3_2 (i := 15) rfl rfl
theorem w816 : Cond.code yX9_needSort cX9_needSort 3 none ∈ Gw := gwc in_3_2 (i := 16) rfl rfl
theorem w818 : Cond.methodLink RX9 201 yX4_canWork ∈ Gw := gwc in_3_2 (i := 18) rfl rfl
theorem w819 : Cond.instanceMethod yX4_canWork ∈ Gw := gwc in_3_2 (i := 19) rfl rfl
theorem w820 : Cond.selects RX4 yX4_canWork yX4_canWork ∈ Gw := gwc in_3_2 (i := 20) rfl rfl
theorem w821 : Cond.code yX4_canWork cX4_canWork 3 (some .boolean) ∈ Gw := gwc in_3_2 (i := 21) rfl rfl
theorem w822 : Cond.methodLink RX4 60 yX4_hasRested ∈ Gw := gwc in_3_2 (i := 22) rfl rfl
theorem w824 : Cond.instanceMethod yX4_hasRested ∈ Gw := gwc in_3_2 (i := 24) rfl rfl
theorem w825 : Cond.code yX4_hasRested cX4_hasRested 3 (some .boolean) ∈ Gw := gwc in_3_2 (i := 25) rfl rfl
theorem w827 : Cond.methodLink RX9 207 yX4_noteWork ∈ Gw := gwc in_3_2 (i := 27) rfl rfl
theorem w828 : Cond.instanceMethod yX4_noteWork ∈ Gw := gwc in_3_2 (i := 28) rfl rfl
theorem w829 : Cond.selects RX4 yX4_noteWork yX4_noteWork ∈ Gw := gwc in_3_2 (i := 29) rfl rfl
theorem w830 : Cond.code yX4_noteWork cX4_noteWork 3 none ∈ Gw := gwc in_3_2 (i := 30) rfl rfl
theorem w831 : Cond.methodLink RX9 213 Lib.Math.min.name ∈ Gw := gwc in_3_2 (i := 31) rfl rfl
theorem w832 : Cond.methodLink RL 31 yX9_carry ∈ Gw := gwc in_3_2 (i := 32) rfl rfl
theorem w833 : Cond.instanceMethod yX9_carry ∈ Gw := gwc in_3_2 (i := 33) rfl rfl
theorem w834 : Cond.selects RX9 yX9_carry yX9_carry ∈ Gw := gwc in_3_2 (i := 34) rfl rfl
theorem w835 : Cond.code yX9_carry cX9_carry 3 (some .int) ∈ Gw := gwc in_3_2 (i := 35) rfl rfl
theorem w836 : Cond.methodLink RL 35 yX9_move ∈ Gw := gwc in_3_2 (i := 36) rfl rfl
theorem w837 : Cond.instanceMethod yX9_move ∈ Gw := gwc in_3_2 (i := 37) rfl rfl
theorem w838 : Cond.selects RX9 yX9_move yX9_move ∈ Gw := gwc in_3_2 (i := 38) rfl rfl
theorem w839 : Cond.code yX9_move cX9_move 4 (some .int) ∈ Gw := gwc in_3_2 (i := 39) rfl rfl
theorem w840 : Cond.methodLink RL 91 yL_tryUse ∈ Gw := gwc in_3_3 (i := 0) rfl rfl
theorem w841 : Cond.static yL_tryUse ∈ Gw := gwc in_3_3 (i := 1) rfl rfl
theorem w843 : Cond.methodLink RL 38 yX9_use ∈ Gw := gwc in_3_3 (i := 3) rfl rfl
theorem w844 : Cond.instanceMethod yX9_use ∈ Gw := gwc in_3_3 (i := 4) rfl rfl
theorem w845 : Cond.selects RX9 yX9_use yX9_use ∈ Gw := gwc in_3_3 (i := 5) rfl rfl
theorem w846 : Cond.code yX9_use cX9_use 3 (some .int) ∈ Gw := gwc in_3_3 (i := 6) rfl rfl
theorem w847 : Cond.methodLink RX9 221 yX7_howMany ∈ Gw := gwc in_3_3 (i := 7) rfl rfl
theorem w848 : Cond.instanceMethod yX7_howMany ∈ Gw := gwc in_3_3 (i := 8) rfl rfl
theorem w849 : Cond.selects RX7 yX7_howMany yX7_howMany ∈ Gw := gwc in_3_3 (i := 9) rfl rfl
theorem w850 : Cond.code yX7_howMany cX7_howMany 5 (some .int) ∈ Gw := gwc in_3_3 (i := 10) rfl rfl
theorem w851 : Cond.methodLink RX7 45 yX7_isAgainst ∈ Gw := gwc in_3_3 (i := 11) rfl rfl
theorem w853 : Cond.instanceMethod yX7_isAgainst ∈ Gw := gwc in_3_3 (i := 13) rfl rfl
theorem w854 : Cond.code yX7_isAgainst cX7_isAgainst 6 (some .boolean) ∈ Gw := gwc in_3_3 (i := 14) rfl rfl
theorem w855 : Cond.methodLink RX7 30 yX0_hasLeakedWithin ∈ Gw := gwc in_3_3 (i := 15) rfl rfl
theorem w856 : Cond.instanceMethod yX0_hasLeakedWithin ∈ Gw := gwc in_3_3 (i := 16) rfl rfl
theorem w857 : Cond.selects RX0 yX0_hasLeakedWithin yX0_hasLeakedWithin ∈ Gw := gwc in_3_3 (i := 17) rfl rfl
theorem w858 : Cond.code yX0_hasLeakedWithin cX0_hasLeakedWithin 2 (some .boolean) ∈ Gw := gwc in_3_3 (i := 18) rfl rfl
theorem w859 : Cond.methodLink RX7 41 yX2_isKindBeside ∈ Gw := gwc in_3_3 (i := 19) rfl rfl
theorem w860 : Cond.instanceMethod yX2_isKindBeside ∈ Gw := gwc in_3_3 (i := 20) rfl rfl
theorem w861 : Cond.selects RX2 yX2_isKindBeside yX2_isKindBeside ∈ Gw := gwc in_3_3 (i := 21) rfl rfl
theorem w862 : Cond.code yX2_isKindBeside cX2_isKindBeside 6 (some .boolean) ∈ Gw := gwc in_3_3 (i := 22) rfl rfl
theorem w864 : Cond.methodLink RX9 226 yX0_disperse ∈ Gw := gwc in_3_3 (i := 24) rfl rfl
theorem w865 : Cond.instanceMethod yX0_disperse ∈ Gw := gwc in_3_3 (i := 25) rfl rfl
theorem w866 : Cond.selects RX0 yX0_disperse yX0_disperse ∈ Gw := gwc in_3_3 (i := 26) rfl rfl
theorem w867 : Cond.code yX0_disperse cX0_disperse 3 (some .int) ∈ Gw := gwc in_3_3 (i := 27) rfl rfl
theorem w868 : Cond.methodLink RX9 230 yX0_burn ∈ Gw := gwc in_3_3 (i := 28) rfl rfl
theorem w869 : Cond.instanceMethod yX0_burn ∈ Gw := gwc in_3_3 (i := 29) rfl rfl
theorem w870 : Cond.selects RX0 yX0_burn yX0_burn ∈ Gw := gwc in_3_3 (i := 30) rfl rfl
theorem w871 : Cond.code yX0_burn cX0_burn 3 (some .int) ∈ Gw := gwc in_3_3 (i := 31) rfl rfl
theorem w872 : Cond.methodLink RL 88 yL_tryWhy ∈ Gw := gwc in_3_3 (i := 32) rfl rfl
theorem w873 : Cond.static yL_tryWhy ∈ Gw := gwc in_3_3 (i := 33) rfl rfl
theorem w875 : Cond.methodLink RL 41 yX9_why ∈ Gw := gwc in_3_3 (i := 35) rfl rfl
theorem w876 : Cond.instanceMethod yX9_why ∈ Gw := gwc in_3_3 (i := 36) rfl rfl
theorem w877 : Cond.selects RX9 yX9_why yX9_why ∈ Gw := gwc in_3_3 (i := 37) rfl rfl
theorem w878 : Cond.code yX9_why cX9_why 4 (some .int) ∈ Gw := gwc in_3_3 (i := 38) rfl rfl
theorem w879 : Cond.methodLink RX9 233 yX7_first ∈ Gw := gwc in_3_3 (i := 39) rfl rfl
theorem w880 : Cond.instanceMethod yX7_first ∈ Gw := gwc in_3_4 (i := 0) rfl rfl
theorem w881 : Cond.selects RX7 yX7_first yX7_first ∈ Gw := gwc in_3_4 (i := 1) rfl rfl
theorem w882 : Cond.code yX7_first cX7_first 4 (some .int) ∈ Gw := gwc in_3_4 (i := 2) rfl rfl
theorem w883 : Cond.methodLink RX9 236 yX7_last ∈ Gw := gwc in_3_4 (i := 3) rfl rfl
theorem w884 : Cond.instanceMethod yX7_last ∈ Gw := gwc in_3_4 (i := 4) rfl rfl
theorem w885 : Cond.selects RX7 yX7_last yX7_last ∈ Gw := gwc in_3_4 (i := 5) rfl rfl
theorem w886 : Cond.code yX7_last cX7_last 4 (some .int) ∈ Gw := gwc in_3_4 (i := 6) rfl rfl
theorem w887 : Cond.methodLink RL 104 yL_closes ∈ Gw := gwc in_3_4 (i := 7) rfl rfl
theorem w888 : Cond.static yL_closes ∈ Gw := gwc in_3_4 (i := 8) rfl rfl
theorem w889 : Cond.code yL_closes cL_closes 9 (some .boolean) ∈ Gw := gwc in_3_4 (i := 9) rfl rfl
theorem w890 : Cond.methodLink RL 47 yX9_shipHas ∈ Gw := gwc in_3_4 (i := 10) rfl rfl
theorem w891 : Cond.instanceMethod yX9_shipHas ∈ Gw := gwc in_3_4 (i := 11) rfl rfl
theorem w892 : Cond.selects RX9 yX9_shipHas yX9_shipHas ∈ Gw := gwc in_3_4 (i := 12) rfl rfl
theorem w893 : Cond.code yX9_shipHas cX9_shipHas 2 (some .int) ∈ Gw := gwc in_3_4 (i := 13) rfl rfl
theorem w894 : Cond.constant RL 69 99999 ∈ Gw := gwc in_3_4 (i := 14) rfl rfl
theorem w895 : Cond.constant RL 108 900000 ∈ Gw := gwc in_3_4 (i := 15) rfl rfl
theorem w896 : Cond.constant RL 112 2000000 ∈ Gw := gwc in_3_4 (i := 16) rfl rfl
theorem wp0 : Cond.selects "java/lang/Throwable" ⟨"java/lang/Throwable", "fillInStackTrace", "(I)Ljava/lang/Throwable;"⟩ ⟨"java/lang/Throwable", "fillInStackTrace", "(I)Ljava/lang/Throwable;"⟩ ∈ Gw := gw (i := 0) (by decide +kernel) rfl
theorem wp1 : Cond.selects RX0 yX0_leak yX0_leak ∈ Gw := gw (i := 1) (by decide +kernel) rfl
theorem wp2 : Cond.selects RX0 yX0_weather yX0_weather ∈ Gw := gw (i := 2) (by decide +kernel) rfl
theorem wp3 : Cond.selects RX0 yX0_drift yX0_drift ∈ Gw := gw (i := 3) (by decide +kernel) rfl
theorem wp4 : Cond.selects RX0 yX0_findWhatGoes yX0_findWhatGoes ∈ Gw := gw (i := 4) (by decide +kernel) rfl
theorem wp5 : Cond.selects RX0 yX0_letGo yX0_letGo ∈ Gw := gw (i := 5) (by decide +kernel) rfl
theorem wp6 : Cond.selects RX0 yX0_giveBack yX0_giveBack ∈ Gw := gw (i := 6) (by decide +kernel) rfl
theorem wp7 : Cond.selects RX0 yX0_skim yX0_skim ∈ Gw := gw (i := 7) (by decide +kernel) rfl
theorem wp8 : Cond.selects RX0 yX0_harmShores yX0_harmShores ∈ Gw := gw (i := 8) (by decide +kernel) rfl
theorem wp9 : Cond.selects RX9 yX9_needRoomForMeans yX9_needRoomForMeans ∈ Gw := gw (i := 9) (by decide +kernel) rfl
theorem wp10 : Cond.selects RX9 yX9_needShore yX9_needShore ∈ Gw := gw (i := 10) (by decide +kernel) rfl
theorem wp11 : Cond.selects RX6 yX6_allGet yX6_allGet ∈ Gw := gw (i := 11) (by decide +kernel) rfl
theorem wp12 : Cond.selects RX5 yX5_weigh yX5_weigh ∈ Gw := gw (i := 12) (by decide +kernel) rfl
theorem wp13 : Cond.selects RX5 yX5_leaksInto yX5_leaksInto ∈ Gw := gw (i := 13) (by decide +kernel) rfl
theorem wp14 : Cond.selects RX5 yX5_waterAgainstWind yX5_waterAgainstWind ∈ Gw := gw (i := 14) (by decide +kernel) rfl
theorem wp15 : Cond.selects RX5 yX5_givenBackTo yX5_givenBackTo ∈ Gw := gw (i := 15) (by decide +kernel) rfl
theorem wp16 : Cond.selects RX5 yX5_isHighTide yX5_isHighTide ∈ Gw := gw (i := 16) (by decide +kernel) rfl
theorem wp17 : Cond.selects RX5 yX5_landedOn yX5_landedOn ∈ Gw := gw (i := 17) (by decide +kernel) rfl
theorem wp18 : Cond.selects RX5 yX5_leftBySkimmers yX5_leftBySkimmers ∈ Gw := gw (i := 18) (by decide +kernel) rfl
theorem wp19 : Cond.selects RX9 yX9_needWater yX9_needWater ∈ Gw := gw (i := 19) (by decide +kernel) rfl
theorem wp20 : Cond.selects RX9 yX9_needSort yX9_needSort ∈ Gw := gw (i := 20) (by decide +kernel) rfl
theorem wp21 : Cond.selects RX4 yX4_hasRested yX4_hasRested ∈ Gw := gw (i := 21) (by decide +kernel) rfl
theorem wp22 : Cond.selects RX7 yX7_isAgainst yX7_isAgainst ∈ Gw := gw (i := 22) (by decide +kernel) rfl
theorem gwX0 : ∀ w ∈ u_ws RX0 TX0 9, w ∈ Gw := gw_r _ [247, 249, 251, 253, 255, 257, 259, 261, 263] (by decide +kernel) (by decide +kernel)
theorem gwX1 : ∀ w ∈ u_ws RX1 TX1 7, w ∈ Gw := gw_r _ [208, 210, 212, 214, 216, 218, 220] (by decide +kernel) (by decide +kernel)
theorem gwX2 : ∀ w ∈ u_ws RX2 TX2 8, w ∈ Gw := gw_r _ [93, 95, 97, 99, 101, 103, 105, 107] (by decide +kernel) (by decide +kernel)
theorem gwX3 : ∀ w ∈ u_ws RX3 TX3 4, w ∈ Gw := gw_r _ [308, 310, 312, 314] (by decide +kernel) (by decide +kernel)
theorem gwX4 : ∀ w ∈ u_ws RX4 TX4 9, w ∈ Gw := gw_r _ [168, 170, 172, 174, 176, 178, 180, 182, 184] (by decide +kernel) (by decide +kernel)
theorem gwX5 : ∀ w ∈ u_ws RX5 TX5 5, w ∈ Gw := gw_r _ [277, 279, 281, 283, 285] (by decide +kernel) (by decide +kernel)
theorem gwX6 : ∀ w ∈ u_ws RX6 TX6 5, w ∈ Gw := gw_r _ [331, 333, 335, 337, 339] (by decide +kernel) (by decide +kernel)
theorem gwX7 : ∀ w ∈ u_ws RX7 TX7 1, w ∈ Gw := gw_r _ [295] (by decide +kernel) (by decide +kernel)
theorem gwX8 : ∀ w ∈ u_ws RX8 TX8 4, w ∈ Gw := gw_r _ [129, 131, 133, 135] (by decide +kernel) (by decide +kernel)
theorem gwX9 : ∀ w ∈ u_ws RX9 TX9 6, w ∈ Gw := gw_r _ [348, 350, 352, 354, 356, 358] (by decide +kernel) (by decide +kernel)
